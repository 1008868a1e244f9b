def coG (f : Nat → Nat) (t : Nat) : Nat → Int32
  | 0 => 0
  | k + 1 => coG f t k + if f k = t then 1 else 0
def mgR (D M : Mem) (i : Nat) (y : Int32) : Nat → Mem
  | 0 => M
  | n + 1 => if tkM D n = i then sT (mgR D M i y n) 22 n 0 y else mgR D M i y n
theorem mg_N {D M : Mem} {i : Nat} {y : Int32} : ∀ n, mN (mgR D M i y n) = mN M
  | 0 => rfl
  | n + 1 => by
    unfold mgR
    split
    · exact mg_N n
    · exact mg_N n
theorem mg_T {D M : Mem} {i k j u : Nat} {y : Int32} (h : k ≠ 22) : ∀ n, mT (mgR D M i y n) k j u = mT M k j u
  | 0 => rfl
  | n + 1 => by
    unfold mgR
    split
    · rw [mT_sT, if_neg (fun z => h z.1)]; exact mg_T h n
    · exact mg_T h n
theorem mg_at {D M : Mem} {i k : Nat} {y : Int32} : ∀ n, n ≤ k → mT (mgR D M i y n) 22 k 0 = mT M 22 k 0
  | 0, _ => rfl
  | n + 1, hn => by
    unfold mgR
    split
    · rw [mT_sT, if_neg (fun z => by have := z.2.1; omega)]; exact mg_at n (by omega)
    · exact mg_at n (by omega)
theorem mg_in {D M : Mem} {i k : Nat} {y : Int32} : ∀ n, k < n → mT (mgR D M i y n) 22 k 0 = if tkM D k = i then y else mT M 22 k 0
  | 0, h => absurd h (Nat.not_lt_zero _)
  | n + 1, h => by
    unfold mgR
    by_cases e : k = n
    · subst e
      split
      · rw [mT_sT, if_pos ⟨rfl, rfl, rfl⟩]
      · exact mg_at k (Nat.le_refl k)
    · split
      · rw [mT_sT, if_neg (fun z => e z.2.1)]; exact mg_in n (by omega)
      · exact mg_in n (by omega)
def mrgA (D M : Mem) (i : Nat) (y : Int32) : Mem := sT (sT (sT (mgR D M i y (mN D 2)) 33 i 0 109) 28 i 0 (-1)) 31 i 0 y
def mrgB (D M : Mem) (i j : Nat) (y : Int32) : Mem := sT (mrgA D M i y) 27 j 0 (if mT D 4 7 j < mT D 4 7 i then mT D 4 7 i else mT D 4 7 j)
def mrgR (D M : Mem) (i j : Nat) (y : Int32) : Mem := sT (mrgB D M i j y) 34 j 0 (bI (!decide (mT D 4 8 j = 0) || !decide (mT D 4 8 i = 0)))
set_option maxHeartbeats 1500000 in
set_option maxRecDepth 100000 in
theorem m_countG {l : Launch} (hfl : l.stackTraces = false) (Γ : Gm) (K : Nat → Nat → Nat) (M : Mem) (x : Int32) (t : Nat) (f9 : Nat → Nat) (nM : Nat) (hmm : mT M 7 21 0 = nI nM) (hnM : nM ≤ 80) (hf9 : ∀ k, k < nM → mT M 22 k 0 = nI (f9 k) ∧ f9 k < 40) (h7 : 0 < mN M 7) (h22 : 0 < mN M 22) (hx9 : x = nI t) (ht : t < 40) : CT l Γ pF yX7_countOf (wsO yX7_countOf cX7_countOf 4 (some .int)) 0 [.ref (K 7 0), .int x] K M (DD True (some (.int (coG f9 t nM))) K M) xNo 0 0 := by
  refine ct_intro hfl (by decide) (Nat.le_of_ble_eq_true rfl) ?_
  intro p e s m args below meth c C ht hr hnm hM ls hl
  have hx := C.1
  have hb := C.2.1
  have hS : va_S pF s.heap s.heap [] := va_S.rf
  have hl : lv_has ls 4 [(0, .ref (K 7 0)), (1, .int x)] := hl
  refine lv_iconst (v := 0) hx hb dX7_countOf_0 (by decide) ?_
  refine lv_istore_n (lv' := [(2, _), (0, _), (1, _)]) hx hb dX7_countOf_1 rfl hl (by decide) rfl (fun ls hl => ?_)
  refine lv_iconst (v := 0) hx hb dX7_countOf_2 (by decide) ?_
  refine lv_istore_n (lv' := [(3, _), (2, _), (0, _), (1, _)]) hx hb dX7_countOf_3 rfl hl (by decide) rfl (fun ls hl => ?_)
  suffices K4 : ∀ (n9 : Nat) (n : Nat), nM - n < n9 → (n ≤ nM) → ∀ (H : Heap) (locs : List Loc) (ls : Array Slot), HM Γ K M H → va_S pF s.heap H locs → lv_has ls 4 [(0, .ref (K 7 0)), (1, .int x), (2, .int (coG f9 t n)), (3, .int (nI n))] → W p l e (rmL 0 0 0) s m args below meth c H locs 0 0 (vx_MQ below (cQ Γ pF (DD True (some (.int (coG f9 t nM))) K M)) (cX Γ pF K M xNo) args s 0 0 pF) (F0 m 4 ls []) by
    exact K4 _ 0 (Nat.lt_succ_self _) (Nat.zero_le _) _ _ _ hM hS (lv_sub hl [2, 3, 1, 0] rfl)
  intro n9
  induction n9 with
  | zero => intro n h9; exact absurd h9 (Nat.not_lt_zero _)
  | succ n9 ih =>
    intro n h9 hn H locs ls hM hS hl
    refine lv_iload_n hx hb dX7_countOf_4 rfl (lv_at hl 3 rfl) ?_
    refine lv_aload_n hx hb dX7_countOf_5 rfl (lv_at hl 0 rfl) ?_
    refine g_get C hM clo_7 21 (by decide) h7 t_1319 rfl (v := .int (mT _ 7 21 _)) rfl dX7_countOf_6 ?_
    refine g_icmp_ge (tgt := 36) hx hb dX7_countOf_9 (by decide) (fun c_9 => ?_) (fun c_9 => ?_)
    · skip
      refine lv_iload_n hx hb dX7_countOf_36 rfl (lv_at hl 2 rfl) ?_
      exact g_iret C hr hM hS dX7_countOf_37 (by decide) (by decide) ⟨trivial, by rw [show n = nM by rw [hmm] at c_9; have := (not_congr (nI_ltI (a := n) (b := nM) (by omega) (by omega))).mp c_9; omega], rfl, rfl⟩
    · skip
      have h6 : n < nM := by rw [hmm] at c_9; exact (nI_ltI (by omega) (by omega)).mp c_9
      refine lv_iload_n hx hb dX7_countOf_12 rfl (lv_at hl 2 rfl) ?_
      refine lv_aload_n hx hb dX7_countOf_13 rfl (lv_at hl 0 rfl) ?_
      refine g_get C hM clo_7 2 (by decide) h7 t_1300 rfl (v := _) (fv4 rfl) dX7_countOf_14 ?_
      refine lv_iload_n hx hb dX7_countOf_17 rfl (lv_at hl 3 rfl) ?_
      refine g_iald C hM rw_22 h22 n rfl (by omega) (by decide) dX7_countOf_18 ?_
      rw [(hf9 n h6).1]
      have hfn := (hf9 n h6).2
      have hte : nI (f9 n) = x ↔ f9 n = t := by rw [hx9]; exact ⟨fun z => nI_inj (by omega) (by omega) z, fun z => by rw [z]⟩
      refine lv_iload_n hx hb dX7_countOf_19 rfl (lv_at hl 1 rfl) ?_
      refine lv_icmp_ne (tgt := 27) hx hb dX7_countOf_20 (by decide) (fun c_20 => ?_) (fun c_20 => ?_)
      · skip
        refine lv_iconst (v := 0) hx hb dX7_countOf_27 (by decide) ?_
        refine lv_iadd hx hb dX7_countOf_28 ?_
        refine lv_istore_n (lv' := [(2, _), (0, _), (1, _), (3, _)]) hx hb dX7_countOf_29 rfl hl (by decide) rfl (fun ls hl => ?_)
        refine lv_iinc (k := 3) (v := nI (n + 1)) (lv' := [(3, _), (2, _), (0, _), (1, _)]) hx hb dX7_countOf_30 hl rfl (nI_1 n) (by decide) rfl (fun ls hl => ?_)
        refine lv_goto (tgt := 4) hx hb dX7_countOf_33 (by decide) ?_
        exact ih (n + 1) (by omega) h6 _ _ _ hM hS ((by rw [coG, if_neg (fun z => c_20 (hte.mpr z))]; exact lv_sub hl [2, 3, 1, 0] rfl))
      · skip
        refine lv_iconst (v := 1) hx hb dX7_countOf_23 (by decide) ?_
        refine lv_goto (tgt := 28) hx hb dX7_countOf_24 (by decide) ?_
        refine lv_iadd hx hb dX7_countOf_28 ?_
        refine lv_istore_n (lv' := [(2, _), (0, _), (1, _), (3, _)]) hx hb dX7_countOf_29 rfl hl (by decide) rfl (fun ls hl => ?_)
        refine lv_iinc (k := 3) (v := nI (n + 1)) (lv' := [(3, _), (2, _), (0, _), (1, _)]) hx hb dX7_countOf_30 hl rfl (nI_1 n) (by decide) rfl (fun ls hl => ?_)
        refine lv_goto (tgt := 4) hx hb dX7_countOf_33 (by decide) ?_
        exact ih (n + 1) (by omega) h6 _ _ _ hM hS ((by rw [coG, if_pos (hte.mp c_20)]; exact lv_sub hl [2, 3, 1, 0] rfl))

set_option maxHeartbeats 1500000 in
set_option maxRecDepth 100000 in
theorem m_merge {l : Launch} (hfl : l.stackTraces = false) (Γ : Gm) (K : Nat → Nat → Nat) (M : Mem) (x : Int32) (y : Int32) (D : Mem) (w : Wf D) (r : RC D M) : CT l Γ (gFree Γ) yX7_merge (wsO yX7_merge cX7_merge 4 (some .int)) 6 [.ref (K 7 0), .int x, .int y] K M (DD True (some (.int (if rMerge D x y = 0 then coG (fun k => if tkM D k = ix x then ix y else tkM D k) (ix y) (mN D 2) else 0))) K (if rMerge D x y = 0 then mrgR D (sT M 7 19 0 0) (ix x) (ix y) y else sT M 7 19 0 (thI (rMerge D x y)))) xNo 0 0 := by
  refine ct_intro hfl (by decide) (Nat.le_of_ble_eq_true rfl) ?_
  intro p e s m args below meth c C ht hr hnm hM ls hl
  have hx := C.1
  have hb := C.2.1
  have hS : va_S (gFree Γ) s.heap s.heap [] := va_S.rf
  have hl : lv_has ls 4 [(0, .ref (K 7 0)), (1, .int x), (2, .int y)] := hl
  have r70 := r7 r
  have rn0 := fun k h1 h2 => rn r k h1 h2
  have hb4 := wn4 w
  have hb0 := wn0 w
  have hb2 := wn2 w
  have hb3 := wn3 w
  refine lv_aload_n hx hb dX7_merge_0 rfl (lv_at hl 0 rfl) ?_
  refine lv_aload_n hx hb dX7_merge_1 rfl (lv_at hl 0 rfl) ?_
  refine lv_iload_n hx hb dX7_merge_2 rfl (lv_at hl 1 rfl) ?_
  refine g_cV C hS (fun _ h => h) hM hl (fun _ h => h.elim) (m_isTicket hfl Γ _ _ _ D w r) kX7_isTicket t_1474 (HM.recv C hM clo_7 (r7 r)) dX7_merge_3 rfl rfl (Nat.le_of_ble_eq_true rfl) (by decide) rfl ⟨by decide, by decide⟩ xNo_goes (fun H locs hc_3 hM hS => ?_)
  refine g_ifeqB (tgt := 17) hx hb dX7_merge_6 (by decide) (fun c_6 => ?_) (fun c_6 => ?_)
  · skip
    refine lv_iconst (v := 1) hx hb dX7_merge_17 (by decide) ?_
    refine lv_goto (tgt := 70) hx hb dX7_merge_18 (by decide) ?_
    refine g_putI C hM hS clo_7 19 (by decide) rfl (by first | assumption | exact r70) rfl rfl rfl rfl dX7_merge_70 (Or.inl t_1317) (fun H locs hM hS => ?_)
    refine lv_aload_n hx hb dX7_merge_73 rfl (lv_at hl 0 rfl) ?_
    refine g_get C hM clo_7 19 (by decide) (by first | assumption | exact r70) t_1317 rfl (v := .int (mT _ 7 19 _)) rfl dX7_merge_74 ?_
    refine g_if_le (tgt := 82) hx hb dX7_merge_77 (by decide) (fun c_77 => ?_) (fun c_77 => ?_)
    · exact absurd (show ¬ (0 : Int32) < 1 from c_77) (by decide)
    · skip
      refine lv_iconst (v := 0) hx hb dX7_merge_80 (by decide) ?_
      exact g_iret C hr hM hS dX7_merge_81 (by decide) (by decide) ⟨trivial, by simp [rMerge, c_6], rfl, by simp [rMerge, thI, c_6]⟩
  · skip
    refine lv_aload_n hx hb dX7_merge_9 rfl (lv_at hl 0 rfl) ?_
    refine lv_iload_n hx hb dX7_merge_10 rfl (lv_at hl 2 rfl) ?_
    refine g_cV C hS (fun _ h => h) hM hl (fun _ h => h.elim) (m_isTicket hfl Γ _ _ _ D w r) kX7_isTicket t_1474 (HM.recv C hM clo_7 (r7 r)) dX7_merge_11 rfl rfl (Nat.le_of_ble_eq_true rfl) (by decide) rfl ⟨by decide, by decide⟩ xNo_goes (fun H locs hc_11 hM hS => ?_)
    refine g_ifneB (tgt := 21) hx hb dX7_merge_14 (by decide) (fun c_14 => ?_) (fun c_14 => ?_)
    · skip
      obtain ⟨hx1, hx2⟩ := inN_ix (n := mN D 4) c_6 (by omega)
      obtain ⟨hy1, hy2⟩ := inN_ix (n := mN D 4) c_14 (by omega)
      refine lv_iload_n hx hb dX7_merge_21 rfl (lv_at hl 1 rfl) ?_
      refine lv_iload_n hx hb dX7_merge_22 rfl (lv_at hl 2 rfl) ?_
      refine lv_icmp_ne (tgt := 30) hx hb dX7_merge_23 (by decide) (fun c_23 => ?_) (fun c_23 => ?_)
      · skip
        have hxy : ¬ ix x = ix y := fun q => c_23 (hx2.trans ((congrArg nI q).trans hy2.symm))
        refine lv_aload_n hx hb dX7_merge_30 rfl (lv_at hl 0 rfl) ?_
        refine lv_iload_n hx hb dX7_merge_31 rfl (lv_at hl 1 rfl) ?_
        refine g_cV C hS (fun _ h => h) hM hl (fun _ h => h.elim) (m_isLive hfl Γ _ _ _ (ix x) D w r hx2 hx1) kX7_isLive t_1442 (HM.recv C hM clo_7 r70) dX7_merge_32 rfl rfl (Nat.le_of_ble_eq_true rfl) (by decide) rfl ⟨by decide, by decide⟩ xNo_goes (fun H locs hc_32 hM hS => ?_)
        refine g_ifeqB (tgt := 46) hx hb dX7_merge_35 (by decide) (fun c_35 => ?_) (fun c_35 => ?_)
        · skip
          refine lv_iconst (v := 3) hx hb dX7_merge_46 (by decide) ?_
          refine lv_goto (tgt := 70) hx hb dX7_merge_47 (by decide) ?_
          refine g_putI C hM hS clo_7 19 (by decide) rfl (by first | assumption | exact r70) rfl rfl rfl rfl dX7_merge_70 (Or.inl t_1317) (fun H locs hM hS => ?_)
          refine lv_aload_n hx hb dX7_merge_73 rfl (lv_at hl 0 rfl) ?_
          refine g_get C hM clo_7 19 (by decide) (by first | assumption | exact r70) t_1317 rfl (v := .int (mT _ 7 19 _)) rfl dX7_merge_74 ?_
          refine g_if_le (tgt := 82) hx hb dX7_merge_77 (by decide) (fun c_77 => ?_) (fun c_77 => ?_)
          · exact absurd (show ¬ (0 : Int32) < 3 from c_77) (by decide)
          · skip
            refine lv_iconst (v := 0) hx hb dX7_merge_80 (by decide) ?_
            exact g_iret C hr hM hS dX7_merge_81 (by decide) (by decide) ⟨trivial, by simp [rMerge, c_6, c_14, hxy, c_35], rfl, by simp [rMerge, thI, c_6, c_14, hxy, c_35]⟩
        · skip
          refine lv_aload_n hx hb dX7_merge_38 rfl (lv_at hl 0 rfl) ?_
          refine lv_iload_n hx hb dX7_merge_39 rfl (lv_at hl 2 rfl) ?_
          refine g_cV C hS (fun _ h => h) hM hl (fun _ h => h.elim) (m_isLive hfl Γ _ _ _ (ix y) D w r hy2 hy1) kX7_isLive t_1442 (HM.recv C hM clo_7 r70) dX7_merge_40 rfl rfl (Nat.le_of_ble_eq_true rfl) (by decide) rfl ⟨by decide, by decide⟩ xNo_goes (fun H locs hc_40 hM hS => ?_)
          refine g_ifneB (tgt := 50) hx hb dX7_merge_43 (by decide) (fun c_43 => ?_) (fun c_43 => ?_)
          · skip
            refine lv_aload_n hx hb dX7_merge_50 rfl (lv_at hl 0 rfl) ?_
            refine g_get C hM clo_7 4 (by decide) (by first | assumption | exact r70) t_1302 rfl (v := _) (fv4 rfl) dX7_merge_51 ?_
            refine lv_iload_n hx hb dX7_merge_54 rfl (lv_at hl 1 rfl) ?_
            refine g_iald C hM rw_24 (rn0 24 (by decide) (by decide)) (ix x) hx2 (by omega) (by decide) dX7_merge_55 ?_
            rw [rcust r hx1]
            refine lv_aload_n hx hb dX7_merge_56 rfl (lv_at hl 0 rfl) ?_
            refine g_get C hM clo_7 4 (by decide) (by first | assumption | exact r70) t_1302 rfl (v := _) (fv4 rfl) dX7_merge_57 ?_
            refine lv_iload_n hx hb dX7_merge_60 rfl (lv_at hl 2 rfl) ?_
            refine g_iald C hM rw_24 (rn0 24 (by decide) (by decide)) (ix y) hy2 (by omega) (by decide) dX7_merge_61 ?_
            rw [rcust r hy1]
            have hcx := (w.2.2.1 _ hx1).2.1
            have hcy := (w.2.2.1 _ hy1).2.1
            refine lv_icmp_eq (tgt := 69) hx hb dX7_merge_62 (by decide) (fun c_62 => ?_) (fun c_62 => ?_)
            · skip
              have hcc : cuM D (ix x) = cuM D (ix y) := nI_inj (by omega) (by omega) c_62
              refine lv_iconst (v := 0) hx hb dX7_merge_69 (by decide) ?_
              refine g_putI C hM hS clo_7 19 (by decide) rfl (by first | assumption | exact r70) rfl rfl rfl rfl dX7_merge_70 (Or.inl t_1317) (fun H locs hM hS => ?_)
              refine lv_aload_n hx hb dX7_merge_73 rfl (lv_at hl 0 rfl) ?_
              refine g_get C hM clo_7 19 (by decide) (by first | assumption | exact r70) t_1317 rfl (v := .int (mT _ 7 19 _)) rfl dX7_merge_74 ?_
              refine g_if_le (tgt := 82) hx hb dX7_merge_77 (by decide) (fun c_77 => ?_) (fun c_77 => ?_)
              · skip
                replace r : RC D (sT M 7 19 0 0) := r
                refine lv_iconst (v := 0) hx hb dX7_merge_82 (by decide) ?_
                refine lv_istore_n (lv' := [(3, _), (0, _), (1, _), (2, _)]) hx hb dX7_merge_83 rfl hl (by decide) rfl (fun ls hl => ?_)
                suffices K84 : ∀ (n9 : Nat) (n : Nat), mN D 2 - n < n9 → (n ≤ mN D 2) → ∀ (H : Heap) (locs : List Loc) (ls : Array Slot), HM Γ K (mgR D (sT M 7 19 0 0) (ix x) y n) H → va_S (gFree Γ) s.heap H locs → lv_has ls 4 [(0, .ref (K 7 0)), (1, .int x), (2, .int y), (3, .int (nI n))] → W p l e (rmL 6 0 0) s m args below meth c H locs 0 0 (vx_MQ below (cQ Γ (gFree Γ) (DD True (some (.int (if rMerge D x y = 0 then coG (fun k => if tkM D k = ix x then ix y else tkM D k) (ix y) (mN D 2) else 0))) K (if rMerge D x y = 0 then mrgR D (sT M 7 19 0 0) (ix x) (ix y) y else sT M 7 19 0 (thI (rMerge D x y))))) (cX Γ (gFree Γ) K M xNo) args s 0 0 (gFree Γ)) (F0 m 84 ls []) by
                  exact K84 _ 0 (Nat.lt_succ_self _) (Nat.zero_le _) _ _ _ hM hS (lv_sub hl [1, 2, 3, 0] rfl)
                intro n9
                induction n9 with
                | zero => intro n h9; exact absurd h9 (Nat.not_lt_zero _)
                | succ n9 ih =>
                  intro n h9 hn H locs ls hM hS hl
                  have q7 : 0 < mN (mgR D (sT M 7 19 0 0) (ix x) y n) 7 := by rw [mg_N]; exact r70
                  refine lv_iload_n hx hb dX7_merge_84 rfl (lv_at hl 3 rfl) ?_
                  refine lv_aload_n hx hb dX7_merge_85 rfl (lv_at hl 0 rfl) ?_
                  refine g_get C hM clo_7 21 (by decide) (by first | assumption | exact r70) t_1319 rfl (v := .int (mT _ 7 21 _)) rfl dX7_merge_86 ?_
                  refine g_icmp_ge (tgt := 115) hx hb dX7_merge_89 (by decide) (fun c_89 => ?_) (fun c_89 => ?_)
                  · skip
                    have hend : n = mN D 2 := by rw [show mT (mgR D (sT M 7 19 0 0) (ix x) y n) 7 21 0 = nI (mN D 2) from (mg_T (by decide) n).trans (by have q := rmails r; exact q)] at c_89; have := (not_congr (nI_ltI (a := n) (b := mN D 2) (by omega) (by omega))).mp c_89; omega
                    subst hend
                    have q7 : 0 < mN (mgR D (sT M 7 19 0 0) (ix x) y (mN D 2)) 7 := by rw [mg_N]; exact r70
                    have q22 : 0 < mN (mgR D (sT M 7 19 0 0) (ix x) y (mN D 2)) 22 := by rw [mg_N]; exact rn0 22 (by decide) (by decide)
                    have q33 : 0 < mN (mgR D (sT M 7 19 0 0) (ix x) y (mN D 2)) 33 := by rw [mg_N]; exact rn0 33 (by decide) (by decide)
                    have q28 : 0 < mN (mgR D (sT M 7 19 0 0) (ix x) y (mN D 2)) 28 := by rw [mg_N]; exact rn0 28 (by decide) (by decide)
                    have q31 : 0 < mN (mgR D (sT M 7 19 0 0) (ix x) y (mN D 2)) 31 := by rw [mg_N]; exact rn0 31 (by decide) (by decide)
                    have q27 : 0 < mN (mgR D (sT M 7 19 0 0) (ix x) y (mN D 2)) 27 := by rw [mg_N]; exact rn0 27 (by decide) (by decide)
                    have q34 : 0 < mN (mgR D (sT M 7 19 0 0) (ix x) y (mN D 2)) 34 := by rw [mg_N]; exact rn0 34 (by decide) (by decide)
                    have hfG : ∀ k, k < mN D 2 → mT (mgR D (sT M 7 19 0 0) (ix x) y (mN D 2)) 22 k 0 = nI ((fun k => if tkM D k = ix x then ix y else tkM D k) k) ∧ (fun k => if tkM D k = ix x then ix y else tkM D k) k < 40 := by intro k hk; have htk := tkM_eq w hk; rw [mg_in _ hk]; show (if tkM D k = ix x then y else _) = nI (if tkM D k = ix x then ix y else tkM D k) ∧ (if tkM D k = ix x then ix y else tkM D k) < 40; by_cases e9 : tkM D k = ix x; (· rw [if_pos e9, if_pos e9]; exact ⟨hy2, by omega⟩); (· rw [if_neg e9, if_neg e9]; exact ⟨by have q := rtkof r hk; exact q, by omega⟩)
                    refine lv_aload_n hx hb dX7_merge_115 rfl (lv_at hl 0 rfl) ?_
                    refine g_get C hM clo_7 13 (by decide) (by first | assumption | exact r70) t_1311 rfl (v := _) (fv4 rfl) dX7_merge_116 ?_
                    refine lv_iload_n hx hb dX7_merge_119 rfl (lv_at hl 1 rfl) ?_
                    refine lv_bipush (v := 109) hx hb dX7_merge_120 (by decide) ?_
                    refine g_cast C hM hS rw_33 q33 (ix x) hx2 (by omega) (by decide) rfl dX7_merge_122 (fun H locs hM hS => ?_)
                    refine lv_aload_n hx hb dX7_merge_123 rfl (lv_at hl 0 rfl) ?_
                    refine g_get C hM clo_7 8 (by decide) (by first | assumption | exact r70) t_1306 rfl (v := _) (fv4 rfl) dX7_merge_124 ?_
                    refine lv_iload_n hx hb dX7_merge_127 rfl (lv_at hl 1 rfl) ?_
                    refine lv_iconst (v := -1) hx hb dX7_merge_128 (by decide) ?_
                    refine g_iast C hM hS rw_28 q28 (ix x) hx2 (by omega) (by decide) dX7_merge_129 (fun H locs hM hS => ?_)
                    refine lv_aload_n hx hb dX7_merge_130 rfl (lv_at hl 0 rfl) ?_
                    refine g_get C hM clo_7 11 (by decide) (by first | assumption | exact r70) t_1309 rfl (v := _) (fv4 rfl) dX7_merge_131 ?_
                    refine lv_iload_n hx hb dX7_merge_134 rfl (lv_at hl 1 rfl) ?_
                    refine lv_iload_n hx hb dX7_merge_135 rfl (lv_at hl 2 rfl) ?_
                    refine g_iast C hM hS rw_31 q31 (ix x) hx2 (by omega) (by decide) dX7_merge_136 (fun H locs hM hS => ?_)
                    refine lv_aload_n hx hb dX7_merge_137 rfl (lv_at hl 0 rfl) ?_
                    refine g_get C hM clo_7 7 (by decide) (by first | assumption | exact r70) t_1305 rfl (v := _) (fv4 rfl) dX7_merge_138 ?_
                    refine lv_iload_n hx hb dX7_merge_141 rfl (lv_at hl 2 rfl) ?_
                    refine lv_aload_n hx hb dX7_merge_142 rfl (lv_at hl 0 rfl) ?_
                    refine g_get C hM clo_7 7 (by decide) (by first | assumption | exact r70) t_1305 rfl (v := _) (fv4 rfl) dX7_merge_143 ?_
                    refine lv_iload_n hx hb dX7_merge_146 rfl (lv_at hl 1 rfl) ?_
                    refine g_iald C hM rw_27 q27 (ix x) hx2 (by omega) (by decide) dX7_merge_147 ?_
                    rw [show mT (sT (sT (sT (mgR D (sT M 7 19 0 0) (ix x) y (mN D 2)) 33 (ix x) 0 109) 28 (ix x) 0 (-1)) 31 (ix x) 0 y) 27 (ix x) 0 = mT D 4 7 (ix x) from (mg_T (by decide) _).trans (by have q := rclk r hx1; exact q)]
                    refine lv_aload_n hx hb dX7_merge_148 rfl (lv_at hl 0 rfl) ?_
                    refine g_get C hM clo_7 7 (by decide) (by first | assumption | exact r70) t_1305 rfl (v := _) (fv4 rfl) dX7_merge_149 ?_
                    refine lv_iload_n hx hb dX7_merge_152 rfl (lv_at hl 2 rfl) ?_
                    refine g_iald C hM rw_27 q27 (ix y) hy2 (by omega) (by decide) dX7_merge_153 ?_
                    rw [show mT (sT (sT (sT (mgR D (sT M 7 19 0 0) (ix x) y (mN D 2)) 33 (ix x) 0 109) 28 (ix x) 0 (-1)) 31 (ix x) 0 y) 27 (ix y) 0 = mT D 4 7 (ix y) from (mg_T (by decide) _).trans (by have q := rclk r hy1; exact q)]
                    refine g_icmp_le (tgt := 166) hx hb dX7_merge_154 (by decide) (fun c_154 => ?_) (fun c_154 => ?_)
                    · skip
                      refine lv_aload_n hx hb dX7_merge_166 rfl (lv_at hl 0 rfl) ?_
                      refine g_get C hM clo_7 7 (by decide) (by first | assumption | exact r70) t_1305 rfl (v := _) (fv4 rfl) dX7_merge_167 ?_
                      refine lv_iload_n hx hb dX7_merge_170 rfl (lv_at hl 2 rfl) ?_
                      refine g_iald C hM rw_27 q27 (ix y) hy2 (by omega) (by decide) dX7_merge_171 ?_
                      rw [show mT (sT (sT (sT (mgR D (sT M 7 19 0 0) (ix x) y (mN D 2)) 33 (ix x) 0 109) 28 (ix x) 0 (-1)) 31 (ix x) 0 y) 27 (ix y) 0 = mT D 4 7 (ix y) from (mg_T (by decide) _).trans (by have q := rclk r hy1; exact q)]
                      refine g_iast C hM hS rw_27 q27 (ix y) hy2 (by omega) (by decide) dX7_merge_172 (fun H locs hM hS => ?_)
                      refine lv_aload_n hx hb dX7_merge_173 rfl (lv_at hl 0 rfl) ?_
                      refine g_get C hM clo_7 14 (by decide) (by first | assumption | exact r70) t_1312 rfl (v := _) (fv4 rfl) dX7_merge_174 ?_
                      refine lv_iload_n hx hb dX7_merge_177 rfl (lv_at hl 2 rfl) ?_
                      refine lv_aload_n hx hb dX7_merge_178 rfl (lv_at hl 0 rfl) ?_
                      refine g_get C hM clo_7 14 (by decide) (by first | assumption | exact r70) t_1312 rfl (v := _) (fv4 rfl) dX7_merge_179 ?_
                      refine lv_iload_n hx hb dX7_merge_182 rfl (lv_at hl 2 rfl) ?_
                      refine g_zald C hM rw_34 q34 (ix y) hy2 (by omega) (by decide) dX7_merge_183 ?_
                      rw [show mT (sT (sT (sT (sT (mgR D (sT M 7 19 0 0) (ix x) y (mN D 2)) 33 (ix x) 0 109) 28 (ix x) 0 (-1)) 31 (ix x) 0 y) 27 (ix y) 0 (mT D 4 7 (ix y))) 34 (ix y) 0 = mT D 4 8 (ix y) from (mg_T (by decide) _).trans (by have q := rbrk r hy1; exact q)]
                      refine lv_if_ne (tgt := 196) hx hb dX7_merge_184 (by decide) (fun c_184 => ?_) (fun c_184 => ?_)
                      · skip
                        refine lv_iconst (v := 1) hx hb dX7_merge_196 (by decide) ?_
                        refine lv_goto (tgt := 201) hx hb dX7_merge_197 (by decide) ?_
                        refine g_zast C hM hS rw_34 q34 (ix y) hy2 (by omega) (by decide) rfl dX7_merge_201 (fun H locs hM hS => ?_)
                        have hmC : mT (sT (sT (sT (sT (sT (mgR D (sT M 7 19 0 0) (ix x) y (mN D 2)) 33 (ix x) 0 109) 28 (ix x) 0 (-1)) 31 (ix x) 0 y) 27 (ix y) 0 (mT D 4 7 (ix y))) 34 (ix y) 0 1) 7 21 0 = nI (mN D 2) := (mg_T (by decide) _).trans (by have q := rmails r; exact q)
                        have hfC : ∀ k, k < mN D 2 → mT (sT (sT (sT (sT (sT (mgR D (sT M 7 19 0 0) (ix x) y (mN D 2)) 33 (ix x) 0 109) 28 (ix x) 0 (-1)) 31 (ix x) 0 y) 27 (ix y) 0 (mT D 4 7 (ix y))) 34 (ix y) 0 1) 22 k 0 = nI ((fun k => if tkM D k = ix x then ix y else tkM D k) k) ∧ (fun k => if tkM D k = ix x then ix y else tkM D k) k < 40 := fun k hk => hfG k hk
                        refine lv_aload_n hx hb dX7_merge_202 rfl (lv_at hl 0 rfl) ?_
                        refine lv_iload_n hx hb dX7_merge_203 rfl (lv_at hl 2 rfl) ?_
                        refine g_cV C hS (fun _ h => h) hM hl (fun _ h => h.elim) (m_countG hfl Γ _ _ _ (ix y) (fun k => if tkM D k = ix x then ix y else tkM D k) (mN D 2) hmC hb2 hfC q7 q22 hy2 (by omega)) kX7_countOf t_1478 (HM.recv C hM clo_7 q7) dX7_merge_204 rfl rfl (Nat.le_of_ble_eq_true rfl) (by decide) rfl ⟨by decide, by decide⟩ xNo_goes (fun H locs hc_204 hM hS => ?_)
                        exact g_iret C hr hM hS dX7_merge_207 (by decide) (by decide) ⟨trivial, by rw [show rMerge D x y = 0 by simp [rMerge, c_6, c_14, hxy, c_35, c_43, hcc]]; rfl, rfl, by rw [show rMerge D x y = 0 by simp [rMerge, c_6, c_14, hxy, c_35, c_43, hcc], if_pos rfl, mrgR, mrgB, if_neg c_154, decide_eq_false c_184]; rfl⟩
                      · skip
                        refine lv_aload_n hx hb dX7_merge_187 rfl (lv_at hl 0 rfl) ?_
                        refine g_get C hM clo_7 14 (by decide) (by first | assumption | exact r70) t_1312 rfl (v := _) (fv4 rfl) dX7_merge_188 ?_
                        refine lv_iload_n hx hb dX7_merge_191 rfl (lv_at hl 1 rfl) ?_
                        refine g_zald C hM rw_34 q34 (ix x) hx2 (by omega) (by decide) dX7_merge_192 ?_
                        rw [show mT (sT (sT (sT (sT (mgR D (sT M 7 19 0 0) (ix x) y (mN D 2)) 33 (ix x) 0 109) 28 (ix x) 0 (-1)) 31 (ix x) 0 y) 27 (ix y) 0 (mT D 4 7 (ix y))) 34 (ix x) 0 = mT D 4 8 (ix x) from (mg_T (by decide) _).trans (by have q := rbrk r hx1; exact q)]
                        refine lv_if_eq (tgt := 200) hx hb dX7_merge_193 (by decide) (fun c_193 => ?_) (fun c_193 => ?_)
                        · skip
                          refine lv_iconst (v := 0) hx hb dX7_merge_200 (by decide) ?_
                          refine g_zast C hM hS rw_34 q34 (ix y) hy2 (by omega) (by decide) rfl dX7_merge_201 (fun H locs hM hS => ?_)
                          have hmC : mT (sT (sT (sT (sT (sT (mgR D (sT M 7 19 0 0) (ix x) y (mN D 2)) 33 (ix x) 0 109) 28 (ix x) 0 (-1)) 31 (ix x) 0 y) 27 (ix y) 0 (mT D 4 7 (ix y))) 34 (ix y) 0 0) 7 21 0 = nI (mN D 2) := (mg_T (by decide) _).trans (by have q := rmails r; exact q)
                          have hfC : ∀ k, k < mN D 2 → mT (sT (sT (sT (sT (sT (mgR D (sT M 7 19 0 0) (ix x) y (mN D 2)) 33 (ix x) 0 109) 28 (ix x) 0 (-1)) 31 (ix x) 0 y) 27 (ix y) 0 (mT D 4 7 (ix y))) 34 (ix y) 0 0) 22 k 0 = nI ((fun k => if tkM D k = ix x then ix y else tkM D k) k) ∧ (fun k => if tkM D k = ix x then ix y else tkM D k) k < 40 := fun k hk => hfG k hk
                          refine lv_aload_n hx hb dX7_merge_202 rfl (lv_at hl 0 rfl) ?_
                          refine lv_iload_n hx hb dX7_merge_203 rfl (lv_at hl 2 rfl) ?_
                          refine g_cV C hS (fun _ h => h) hM hl (fun _ h => h.elim) (m_countG hfl Γ _ _ _ (ix y) (fun k => if tkM D k = ix x then ix y else tkM D k) (mN D 2) hmC hb2 hfC q7 q22 hy2 (by omega)) kX7_countOf t_1478 (HM.recv C hM clo_7 q7) dX7_merge_204 rfl rfl (Nat.le_of_ble_eq_true rfl) (by decide) rfl ⟨by decide, by decide⟩ xNo_goes (fun H locs hc_204 hM hS => ?_)
                          exact g_iret C hr hM hS dX7_merge_207 (by decide) (by decide) ⟨trivial, by rw [show rMerge D x y = 0 by simp [rMerge, c_6, c_14, hxy, c_35, c_43, hcc]]; rfl, rfl, by rw [show rMerge D x y = 0 by simp [rMerge, c_6, c_14, hxy, c_35, c_43, hcc], if_pos rfl, mrgR, mrgB, if_neg c_154, decide_eq_true c_184, decide_eq_true c_193]; rfl⟩
                        · skip
                          refine lv_iconst (v := 1) hx hb dX7_merge_196 (by decide) ?_
                          refine lv_goto (tgt := 201) hx hb dX7_merge_197 (by decide) ?_
                          refine g_zast C hM hS rw_34 q34 (ix y) hy2 (by omega) (by decide) rfl dX7_merge_201 (fun H locs hM hS => ?_)
                          have hmC : mT (sT (sT (sT (sT (sT (mgR D (sT M 7 19 0 0) (ix x) y (mN D 2)) 33 (ix x) 0 109) 28 (ix x) 0 (-1)) 31 (ix x) 0 y) 27 (ix y) 0 (mT D 4 7 (ix y))) 34 (ix y) 0 1) 7 21 0 = nI (mN D 2) := (mg_T (by decide) _).trans (by have q := rmails r; exact q)
                          have hfC : ∀ k, k < mN D 2 → mT (sT (sT (sT (sT (sT (mgR D (sT M 7 19 0 0) (ix x) y (mN D 2)) 33 (ix x) 0 109) 28 (ix x) 0 (-1)) 31 (ix x) 0 y) 27 (ix y) 0 (mT D 4 7 (ix y))) 34 (ix y) 0 1) 22 k 0 = nI ((fun k => if tkM D k = ix x then ix y else tkM D k) k) ∧ (fun k => if tkM D k = ix x then ix y else tkM D k) k < 40 := fun k hk => hfG k hk
                          refine lv_aload_n hx hb dX7_merge_202 rfl (lv_at hl 0 rfl) ?_
                          refine lv_iload_n hx hb dX7_merge_203 rfl (lv_at hl 2 rfl) ?_
                          refine g_cV C hS (fun _ h => h) hM hl (fun _ h => h.elim) (m_countG hfl Γ _ _ _ (ix y) (fun k => if tkM D k = ix x then ix y else tkM D k) (mN D 2) hmC hb2 hfC q7 q22 hy2 (by omega)) kX7_countOf t_1478 (HM.recv C hM clo_7 q7) dX7_merge_204 rfl rfl (Nat.le_of_ble_eq_true rfl) (by decide) rfl ⟨by decide, by decide⟩ xNo_goes (fun H locs hc_204 hM hS => ?_)
                          exact g_iret C hr hM hS dX7_merge_207 (by decide) (by decide) ⟨trivial, by rw [show rMerge D x y = 0 by simp [rMerge, c_6, c_14, hxy, c_35, c_43, hcc]]; rfl, rfl, by rw [show rMerge D x y = 0 by simp [rMerge, c_6, c_14, hxy, c_35, c_43, hcc], if_pos rfl, mrgR, mrgB, if_neg c_154, decide_eq_true c_184, decide_eq_false c_193]; rfl⟩
                    · skip
                      refine lv_aload_n hx hb dX7_merge_157 rfl (lv_at hl 0 rfl) ?_
                      refine g_get C hM clo_7 7 (by decide) (by first | assumption | exact r70) t_1305 rfl (v := _) (fv4 rfl) dX7_merge_158 ?_
                      refine lv_iload_n hx hb dX7_merge_161 rfl (lv_at hl 1 rfl) ?_
                      refine g_iald C hM rw_27 q27 (ix x) hx2 (by omega) (by decide) dX7_merge_162 ?_
                      rw [show mT (sT (sT (sT (mgR D (sT M 7 19 0 0) (ix x) y (mN D 2)) 33 (ix x) 0 109) 28 (ix x) 0 (-1)) 31 (ix x) 0 y) 27 (ix x) 0 = mT D 4 7 (ix x) from (mg_T (by decide) _).trans (by have q := rclk r hx1; exact q)]
                      refine lv_goto (tgt := 172) hx hb dX7_merge_163 (by decide) ?_
                      refine g_iast C hM hS rw_27 q27 (ix y) hy2 (by omega) (by decide) dX7_merge_172 (fun H locs hM hS => ?_)
                      refine lv_aload_n hx hb dX7_merge_173 rfl (lv_at hl 0 rfl) ?_
                      refine g_get C hM clo_7 14 (by decide) (by first | assumption | exact r70) t_1312 rfl (v := _) (fv4 rfl) dX7_merge_174 ?_
                      refine lv_iload_n hx hb dX7_merge_177 rfl (lv_at hl 2 rfl) ?_
                      refine lv_aload_n hx hb dX7_merge_178 rfl (lv_at hl 0 rfl) ?_
                      refine g_get C hM clo_7 14 (by decide) (by first | assumption | exact r70) t_1312 rfl (v := _) (fv4 rfl) dX7_merge_179 ?_
                      refine lv_iload_n hx hb dX7_merge_182 rfl (lv_at hl 2 rfl) ?_
                      refine g_zald C hM rw_34 q34 (ix y) hy2 (by omega) (by decide) dX7_merge_183 ?_
                      rw [show mT (sT (sT (sT (sT (mgR D (sT M 7 19 0 0) (ix x) y (mN D 2)) 33 (ix x) 0 109) 28 (ix x) 0 (-1)) 31 (ix x) 0 y) 27 (ix y) 0 (mT D 4 7 (ix x))) 34 (ix y) 0 = mT D 4 8 (ix y) from (mg_T (by decide) _).trans (by have q := rbrk r hy1; exact q)]
                      refine lv_if_ne (tgt := 196) hx hb dX7_merge_184 (by decide) (fun c_184 => ?_) (fun c_184 => ?_)
                      · skip
                        refine lv_iconst (v := 1) hx hb dX7_merge_196 (by decide) ?_
                        refine lv_goto (tgt := 201) hx hb dX7_merge_197 (by decide) ?_
                        refine g_zast C hM hS rw_34 q34 (ix y) hy2 (by omega) (by decide) rfl dX7_merge_201 (fun H locs hM hS => ?_)
                        have hmC : mT (sT (sT (sT (sT (sT (mgR D (sT M 7 19 0 0) (ix x) y (mN D 2)) 33 (ix x) 0 109) 28 (ix x) 0 (-1)) 31 (ix x) 0 y) 27 (ix y) 0 (mT D 4 7 (ix x))) 34 (ix y) 0 1) 7 21 0 = nI (mN D 2) := (mg_T (by decide) _).trans (by have q := rmails r; exact q)
                        have hfC : ∀ k, k < mN D 2 → mT (sT (sT (sT (sT (sT (mgR D (sT M 7 19 0 0) (ix x) y (mN D 2)) 33 (ix x) 0 109) 28 (ix x) 0 (-1)) 31 (ix x) 0 y) 27 (ix y) 0 (mT D 4 7 (ix x))) 34 (ix y) 0 1) 22 k 0 = nI ((fun k => if tkM D k = ix x then ix y else tkM D k) k) ∧ (fun k => if tkM D k = ix x then ix y else tkM D k) k < 40 := fun k hk => hfG k hk
                        refine lv_aload_n hx hb dX7_merge_202 rfl (lv_at hl 0 rfl) ?_
                        refine lv_iload_n hx hb dX7_merge_203 rfl (lv_at hl 2 rfl) ?_
                        refine g_cV C hS (fun _ h => h) hM hl (fun _ h => h.elim) (m_countG hfl Γ _ _ _ (ix y) (fun k => if tkM D k = ix x then ix y else tkM D k) (mN D 2) hmC hb2 hfC q7 q22 hy2 (by omega)) kX7_countOf t_1478 (HM.recv C hM clo_7 q7) dX7_merge_204 rfl rfl (Nat.le_of_ble_eq_true rfl) (by decide) rfl ⟨by decide, by decide⟩ xNo_goes (fun H locs hc_204 hM hS => ?_)
                        exact g_iret C hr hM hS dX7_merge_207 (by decide) (by decide) ⟨trivial, by rw [show rMerge D x y = 0 by simp [rMerge, c_6, c_14, hxy, c_35, c_43, hcc]]; rfl, rfl, by rw [show rMerge D x y = 0 by simp [rMerge, c_6, c_14, hxy, c_35, c_43, hcc], if_pos rfl, mrgR, mrgB, if_pos c_154, decide_eq_false c_184]; rfl⟩
                      · skip
                        refine lv_aload_n hx hb dX7_merge_187 rfl (lv_at hl 0 rfl) ?_
                        refine g_get C hM clo_7 14 (by decide) (by first | assumption | exact r70) t_1312 rfl (v := _) (fv4 rfl) dX7_merge_188 ?_
                        refine lv_iload_n hx hb dX7_merge_191 rfl (lv_at hl 1 rfl) ?_
                        refine g_zald C hM rw_34 q34 (ix x) hx2 (by omega) (by decide) dX7_merge_192 ?_
                        rw [show mT (sT (sT (sT (sT (mgR D (sT M 7 19 0 0) (ix x) y (mN D 2)) 33 (ix x) 0 109) 28 (ix x) 0 (-1)) 31 (ix x) 0 y) 27 (ix y) 0 (mT D 4 7 (ix x))) 34 (ix x) 0 = mT D 4 8 (ix x) from (mg_T (by decide) _).trans (by have q := rbrk r hx1; exact q)]
                        refine lv_if_eq (tgt := 200) hx hb dX7_merge_193 (by decide) (fun c_193 => ?_) (fun c_193 => ?_)
                        · skip
                          refine lv_iconst (v := 0) hx hb dX7_merge_200 (by decide) ?_
                          refine g_zast C hM hS rw_34 q34 (ix y) hy2 (by omega) (by decide) rfl dX7_merge_201 (fun H locs hM hS => ?_)
                          have hmC : mT (sT (sT (sT (sT (sT (mgR D (sT M 7 19 0 0) (ix x) y (mN D 2)) 33 (ix x) 0 109) 28 (ix x) 0 (-1)) 31 (ix x) 0 y) 27 (ix y) 0 (mT D 4 7 (ix x))) 34 (ix y) 0 0) 7 21 0 = nI (mN D 2) := (mg_T (by decide) _).trans (by have q := rmails r; exact q)
                          have hfC : ∀ k, k < mN D 2 → mT (sT (sT (sT (sT (sT (mgR D (sT M 7 19 0 0) (ix x) y (mN D 2)) 33 (ix x) 0 109) 28 (ix x) 0 (-1)) 31 (ix x) 0 y) 27 (ix y) 0 (mT D 4 7 (ix x))) 34 (ix y) 0 0) 22 k 0 = nI ((fun k => if tkM D k = ix x then ix y else tkM D k) k) ∧ (fun k => if tkM D k = ix x then ix y else tkM D k) k < 40 := fun k hk => hfG k hk
                          refine lv_aload_n hx hb dX7_merge_202 rfl (lv_at hl 0 rfl) ?_
                          refine lv_iload_n hx hb dX7_merge_203 rfl (lv_at hl 2 rfl) ?_
                          refine g_cV C hS (fun _ h => h) hM hl (fun _ h => h.elim) (m_countG hfl Γ _ _ _ (ix y) (fun k => if tkM D k = ix x then ix y else tkM D k) (mN D 2) hmC hb2 hfC q7 q22 hy2 (by omega)) kX7_countOf t_1478 (HM.recv C hM clo_7 q7) dX7_merge_204 rfl rfl (Nat.le_of_ble_eq_true rfl) (by decide) rfl ⟨by decide, by decide⟩ xNo_goes (fun H locs hc_204 hM hS => ?_)
                          exact g_iret C hr hM hS dX7_merge_207 (by decide) (by decide) ⟨trivial, by rw [show rMerge D x y = 0 by simp [rMerge, c_6, c_14, hxy, c_35, c_43, hcc]]; rfl, rfl, by rw [show rMerge D x y = 0 by simp [rMerge, c_6, c_14, hxy, c_35, c_43, hcc], if_pos rfl, mrgR, mrgB, if_pos c_154, decide_eq_true c_184, decide_eq_true c_193]; rfl⟩
                        · skip
                          refine lv_iconst (v := 1) hx hb dX7_merge_196 (by decide) ?_
                          refine lv_goto (tgt := 201) hx hb dX7_merge_197 (by decide) ?_
                          refine g_zast C hM hS rw_34 q34 (ix y) hy2 (by omega) (by decide) rfl dX7_merge_201 (fun H locs hM hS => ?_)
                          have hmC : mT (sT (sT (sT (sT (sT (mgR D (sT M 7 19 0 0) (ix x) y (mN D 2)) 33 (ix x) 0 109) 28 (ix x) 0 (-1)) 31 (ix x) 0 y) 27 (ix y) 0 (mT D 4 7 (ix x))) 34 (ix y) 0 1) 7 21 0 = nI (mN D 2) := (mg_T (by decide) _).trans (by have q := rmails r; exact q)
                          have hfC : ∀ k, k < mN D 2 → mT (sT (sT (sT (sT (sT (mgR D (sT M 7 19 0 0) (ix x) y (mN D 2)) 33 (ix x) 0 109) 28 (ix x) 0 (-1)) 31 (ix x) 0 y) 27 (ix y) 0 (mT D 4 7 (ix x))) 34 (ix y) 0 1) 22 k 0 = nI ((fun k => if tkM D k = ix x then ix y else tkM D k) k) ∧ (fun k => if tkM D k = ix x then ix y else tkM D k) k < 40 := fun k hk => hfG k hk
                          refine lv_aload_n hx hb dX7_merge_202 rfl (lv_at hl 0 rfl) ?_
                          refine lv_iload_n hx hb dX7_merge_203 rfl (lv_at hl 2 rfl) ?_
                          refine g_cV C hS (fun _ h => h) hM hl (fun _ h => h.elim) (m_countG hfl Γ _ _ _ (ix y) (fun k => if tkM D k = ix x then ix y else tkM D k) (mN D 2) hmC hb2 hfC q7 q22 hy2 (by omega)) kX7_countOf t_1478 (HM.recv C hM clo_7 q7) dX7_merge_204 rfl rfl (Nat.le_of_ble_eq_true rfl) (by decide) rfl ⟨by decide, by decide⟩ xNo_goes (fun H locs hc_204 hM hS => ?_)
                          exact g_iret C hr hM hS dX7_merge_207 (by decide) (by decide) ⟨trivial, by rw [show rMerge D x y = 0 by simp [rMerge, c_6, c_14, hxy, c_35, c_43, hcc]]; rfl, rfl, by rw [show rMerge D x y = 0 by simp [rMerge, c_6, c_14, hxy, c_35, c_43, hcc], if_pos rfl, mrgR, mrgB, if_pos c_154, decide_eq_true c_184, decide_eq_false c_193]; rfl⟩
                  · skip
                    have q22 : 0 < mN (mgR D (sT M 7 19 0 0) (ix x) y n) 22 := by rw [mg_N]; exact rn0 22 (by decide) (by decide)
                    have h6 : n < mN D 2 := by rw [show mT (mgR D (sT M 7 19 0 0) (ix x) y n) 7 21 0 = nI (mN D 2) from (mg_T (by decide) n).trans (by have q := rmails r; exact q)] at c_89; exact (nI_ltI (by omega) (by omega)).mp c_89
                    have htk := tkM_eq w h6
                    have hte : nI (tkM D n) = x ↔ tkM D n = ix x := (show nI (tkM D n) = x ↔ nI (tkM D n) = nI (ix x) by rw [← hx2]).trans ⟨fun q => nI_inj (by omega) (by omega) q, fun q => by rw [q]⟩
                    refine lv_aload_n hx hb dX7_merge_92 rfl (lv_at hl 0 rfl) ?_
                    refine g_get C hM clo_7 2 (by decide) (by first | assumption | exact r70) t_1300 rfl (v := _) (fv4 rfl) dX7_merge_93 ?_
                    refine lv_iload_n hx hb dX7_merge_96 rfl (lv_at hl 3 rfl) ?_
                    refine g_iald C hM rw_22 q22 n rfl (by omega) (by decide) dX7_merge_97 ?_
                    rw [show mT (mgR D (sT M 7 19 0 0) (ix x) y n) 22 n 0 = nI (tkM D n) from (mg_at n (Nat.le_refl n)).trans (by have q := rtkof r h6; exact q)]
                    refine lv_iload_n hx hb dX7_merge_98 rfl (lv_at hl 1 rfl) ?_
                    refine lv_icmp_ne (tgt := 109) hx hb dX7_merge_99 (by decide) (fun c_99 => ?_) (fun c_99 => ?_)
                    · skip
                      refine lv_iinc (k := 3) (v := nI (n + 1)) (lv' := [(3, _), (0, _), (1, _), (2, _)]) hx hb dX7_merge_109 hl rfl (nI_1 n) (by decide) rfl (fun ls hl => ?_)
                      refine lv_goto (tgt := 84) hx hb dX7_merge_112 (by decide) ?_
                      exact ih (n + 1) (by omega) h6 _ _ _ (by rw [mgR, if_neg (fun z => c_99 (hte.mpr z))]; exact hM) hS (lv_sub hl [1, 2, 3, 0] rfl)
                    · skip
                      refine lv_aload_n hx hb dX7_merge_102 rfl (lv_at hl 0 rfl) ?_
                      refine g_get C hM clo_7 2 (by decide) (by first | assumption | exact r70) t_1300 rfl (v := _) (fv4 rfl) dX7_merge_103 ?_
                      refine lv_iload_n hx hb dX7_merge_106 rfl (lv_at hl 3 rfl) ?_
                      refine lv_iload_n hx hb dX7_merge_107 rfl (lv_at hl 2 rfl) ?_
                      refine g_iast C hM hS rw_22 q22 n rfl (by omega) (by decide) dX7_merge_108 (fun H locs hM hS => ?_)
                      refine lv_iinc (k := 3) (v := nI (n + 1)) (lv' := [(3, _), (0, _), (1, _), (2, _)]) hx hb dX7_merge_109 hl rfl (nI_1 n) (by decide) rfl (fun ls hl => ?_)
                      refine lv_goto (tgt := 84) hx hb dX7_merge_112 (by decide) ?_
                      exact ih (n + 1) (by omega) h6 _ _ _ (by rw [mgR, if_pos (hte.mp c_99)]; exact hM) hS (lv_sub hl [1, 2, 3, 0] rfl)
              · exact absurd (show (0 : Int32) < 0 from c_77) (by decide)
            · skip
              have hcc : ¬ cuM D (ix x) = cuM D (ix y) := fun q => c_62 (by rw [q])
              refine lv_iconst (v := 4) hx hb dX7_merge_65 (by decide) ?_
              refine lv_goto (tgt := 70) hx hb dX7_merge_66 (by decide) ?_
              refine g_putI C hM hS clo_7 19 (by decide) rfl (by first | assumption | exact r70) rfl rfl rfl rfl dX7_merge_70 (Or.inl t_1317) (fun H locs hM hS => ?_)
              refine lv_aload_n hx hb dX7_merge_73 rfl (lv_at hl 0 rfl) ?_
              refine g_get C hM clo_7 19 (by decide) (by first | assumption | exact r70) t_1317 rfl (v := .int (mT _ 7 19 _)) rfl dX7_merge_74 ?_
              refine g_if_le (tgt := 82) hx hb dX7_merge_77 (by decide) (fun c_77 => ?_) (fun c_77 => ?_)
              · exact absurd (show ¬ (0 : Int32) < 4 from c_77) (by decide)
              · skip
                refine lv_iconst (v := 0) hx hb dX7_merge_80 (by decide) ?_
                exact g_iret C hr hM hS dX7_merge_81 (by decide) (by decide) ⟨trivial, by simp [rMerge, c_6, c_14, hxy, c_35, c_43, hcc], rfl, by simp [rMerge, thI, c_6, c_14, hxy, c_35, c_43, hcc]⟩
          · skip
            refine lv_iconst (v := 3) hx hb dX7_merge_46 (by decide) ?_
            refine lv_goto (tgt := 70) hx hb dX7_merge_47 (by decide) ?_
            refine g_putI C hM hS clo_7 19 (by decide) rfl (by first | assumption | exact r70) rfl rfl rfl rfl dX7_merge_70 (Or.inl t_1317) (fun H locs hM hS => ?_)
            refine lv_aload_n hx hb dX7_merge_73 rfl (lv_at hl 0 rfl) ?_
            refine g_get C hM clo_7 19 (by decide) (by first | assumption | exact r70) t_1317 rfl (v := .int (mT _ 7 19 _)) rfl dX7_merge_74 ?_
            refine g_if_le (tgt := 82) hx hb dX7_merge_77 (by decide) (fun c_77 => ?_) (fun c_77 => ?_)
            · exact absurd (show ¬ (0 : Int32) < 3 from c_77) (by decide)
            · skip
              refine lv_iconst (v := 0) hx hb dX7_merge_80 (by decide) ?_
              exact g_iret C hr hM hS dX7_merge_81 (by decide) (by decide) ⟨trivial, by simp [rMerge, c_6, c_14, hxy, c_35, c_43], rfl, by simp [rMerge, thI, c_6, c_14, hxy, c_35, c_43]⟩
      · skip
        have hxy : ix x = ix y := by rw [c_23]
        refine lv_iconst (v := 2) hx hb dX7_merge_26 (by decide) ?_
        refine lv_goto (tgt := 70) hx hb dX7_merge_27 (by decide) ?_
        refine g_putI C hM hS clo_7 19 (by decide) rfl (by first | assumption | exact r70) rfl rfl rfl rfl dX7_merge_70 (Or.inl t_1317) (fun H locs hM hS => ?_)
        refine lv_aload_n hx hb dX7_merge_73 rfl (lv_at hl 0 rfl) ?_
        refine g_get C hM clo_7 19 (by decide) (by first | assumption | exact r70) t_1317 rfl (v := .int (mT _ 7 19 _)) rfl dX7_merge_74 ?_
        refine g_if_le (tgt := 82) hx hb dX7_merge_77 (by decide) (fun c_77 => ?_) (fun c_77 => ?_)
        · exact absurd (show ¬ (0 : Int32) < 2 from c_77) (by decide)
        · skip
          refine lv_iconst (v := 0) hx hb dX7_merge_80 (by decide) ?_
          exact g_iret C hr hM hS dX7_merge_81 (by decide) (by decide) ⟨trivial, by simp [rMerge, c_6, c_14, hxy], rfl, by simp [rMerge, thI, c_6, c_14, hxy]⟩
    · skip
      refine lv_iconst (v := 1) hx hb dX7_merge_17 (by decide) ?_
      refine lv_goto (tgt := 70) hx hb dX7_merge_18 (by decide) ?_
      refine g_putI C hM hS clo_7 19 (by decide) rfl (by first | assumption | exact r70) rfl rfl rfl rfl dX7_merge_70 (Or.inl t_1317) (fun H locs hM hS => ?_)
      refine lv_aload_n hx hb dX7_merge_73 rfl (lv_at hl 0 rfl) ?_
      refine g_get C hM clo_7 19 (by decide) (by first | assumption | exact r70) t_1317 rfl (v := .int (mT _ 7 19 _)) rfl dX7_merge_74 ?_
      refine g_if_le (tgt := 82) hx hb dX7_merge_77 (by decide) (fun c_77 => ?_) (fun c_77 => ?_)
      · exact absurd (show ¬ (0 : Int32) < 1 from c_77) (by decide)
      · skip
        refine lv_iconst (v := 0) hx hb dX7_merge_80 (by decide) ?_
        exact g_iret C hr hM hS dX7_merge_81 (by decide) (by decide) ⟨trivial, by simp [rMerge, c_6, c_14], rfl, by simp [rMerge, thI, c_6, c_14]⟩

