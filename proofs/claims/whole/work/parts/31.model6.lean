theorem cl_st {D M : Mem} {i n : Nat} {v : Int32} (r : RC D M) (hn : n < mN D 4) : mT (sT (sT (lrnR D M i 1) 33 i 0 99) 30 i 0 v) 33 n 0 = mT (sT D 4 6 i 99) 4 6 n := by
  rw [mT_sT, if_neg (fun z => absurd z.1 (by decide)), mT_sT, mT_sT]
  by_cases e : n = i
  · rw [if_pos ⟨rfl, e, rfl⟩, if_pos ⟨rfl, rfl, e⟩]
  · rw [if_neg (fun z => e z.2.1), if_neg (fun z => e z.2.2), mT_lrn (by decide)]
    exact rst r hn
set_option maxHeartbeats 1500000 in
set_option maxRecDepth 100000 in
theorem m_close {l : Launch} (hfl : l.stackTraces = false) (Γ : Gm) (K : Nat → Nat → Nat) (M : Mem) (x : Int32) (D : Mem) (w : Wf D) (r : RC D M) : CT l Γ (gFree Γ) yX7_close (wsO yX7_close cX7_close 4 (some .int)) 6 [.ref (K 7 0), .int x] K M (DD True (some (.int (if rClose D x = 0 then ccN (sT D 4 6 (ix x) 99) (mN D 4) else 0))) K (if rClose D x = 0 then sT (sT (lrnR D (sT M 7 19 0 0) (ix x) 1) 33 (ix x) 0 99) 30 (ix x) 0 (mT D 6 9 0) else sT M 7 19 0 (thI (rClose D x)))) xNo 0 0 := by
  refine ct_intro hfl (by decide) (Nat.le_of_ble_eq_true rfl) ?_
  intro p e s m args below meth c C ht hr hnm hM ls hl
  have hx := C.1
  have hb := C.2.1
  have hS : va_S (gFree Γ) s.heap s.heap [] := va_S.rf
  have hl : lv_has ls 4 [(0, .ref (K 7 0)), (1, .int x)] := hl
  have r70 := r7 r
  have rn0 := fun k h1 h2 => rn r k h1 h2
  have hb4 := wn4 w
  have hb0 := wn0 w
  have hb2 := wn2 w
  have hb3 := wn3 w
  refine lv_aload_n hx hb dX7_close_0 rfl (lv_at hl 0 rfl) ?_
  refine lv_aload_n hx hb dX7_close_1 rfl (lv_at hl 0 rfl) ?_
  refine lv_iload_n hx hb dX7_close_2 rfl (lv_at hl 1 rfl) ?_
  refine g_cV C hS (fun _ h => h) hM hl (fun _ h => h.elim) (m_isTicket hfl Γ _ _ _ D w r) kX7_isTicket t_1474 (HM.recv C hM clo_7 (r7 r)) dX7_close_3 rfl rfl (Nat.le_of_ble_eq_true rfl) (by decide) rfl ⟨by decide, by decide⟩ xNo_goes (fun H locs hc_3 hM hS => ?_)
  refine g_ifneB (tgt := 13) hx hb dX7_close_6 (by decide) (fun c_6 => ?_) (fun c_6 => ?_)
  · skip
    obtain ⟨hx1, hx2⟩ := inN_ix (n := mN D 4) c_6 (by omega)
    refine lv_aload_n hx hb dX7_close_13 rfl (lv_at hl 0 rfl) ?_
    refine g_get C hM clo_7 13 (by decide) (by first | assumption | exact r70) t_1311 rfl (v := _) (fv4 rfl) dX7_close_14 ?_
    refine lv_iload_n hx hb dX7_close_17 rfl (lv_at hl 1 rfl) ?_
    refine g_cald C hM rw_33 (rn0 33 (by decide) (by decide)) (ix x) hx2 (by omega) (by decide) dX7_close_18 ?_
    rw [rst r hx1]
    refine lv_bipush (v := 97) hx hb dX7_close_19 (by decide) ?_
    refine lv_icmp_eq (tgt := 28) hx hb dX7_close_21 (by decide) (fun c_21 => ?_) (fun c_21 => ?_)
    · skip
      refine lv_iconst (v := 0) hx hb dX7_close_28 (by decide) ?_
      refine g_putI C hM hS clo_7 19 (by decide) rfl (by first | assumption | exact r70) rfl rfl rfl rfl dX7_close_29 (Or.inl t_1317) (fun H locs hM hS => ?_)
      refine lv_aload_n hx hb dX7_close_32 rfl (lv_at hl 0 rfl) ?_
      refine g_get C hM clo_7 19 (by decide) (by first | assumption | exact r70) t_1317 rfl (v := .int (mT _ 7 19 _)) rfl dX7_close_33 ?_
      refine g_if_le (tgt := 41) hx hb dX7_close_36 (by decide) (fun c_36 => ?_) (fun c_36 => ?_)
      · skip
        replace r : RC D (sT M 7 19 0 0) := r
        refine lv_aload_n hx hb dX7_close_41 rfl (lv_at hl 0 rfl) ?_
        refine lv_iload_n hx hb dX7_close_42 rfl (lv_at hl 1 rfl) ?_
        refine lv_iconst (v := 1) hx hb dX7_close_43 (by decide) ?_
        refine g_cV C hS (fun _ h => h) hM hl (fun _ h => h) (m_learns hfl Γ _ _ _ _ (ix x) D w r hx2 hx1) kX7_learns t_1458 (HM.recv C hM clo_7 r70) dX7_close_44 rfl rfl (Nat.le_of_ble_eq_true rfl) (by decide) rfl ⟨by decide, by decide⟩ xNo_goes (fun H locs hc_44 hM hS => ?_)
        have q7 : 0 < mN (lrnR D (sT M 7 19 0 0) (ix x) 1) 7 := by rw [mN_lrn]; exact r7 r
        have q33 : 0 < mN (lrnR D (sT M 7 19 0 0) (ix x) 1) 33 := by rw [mN_lrn]; exact rn r 33 (by decide) (by decide)
        have q30 : 0 < mN (lrnR D (sT M 7 19 0 0) (ix x) 1) 30 := by rw [mN_lrn]; exact rn r 30 (by decide) (by decide)
        refine lv_aload_n hx hb dX7_close_47 rfl (lv_at hl 0 rfl) ?_
        refine g_get C hM clo_7 13 (by decide) (by first | assumption | exact r70) t_1311 rfl (v := _) (fv4 rfl) dX7_close_48 ?_
        refine lv_iload_n hx hb dX7_close_51 rfl (lv_at hl 1 rfl) ?_
        refine lv_bipush (v := 99) hx hb dX7_close_52 (by decide) ?_
        refine g_cast C hM hS rw_33 q33 (ix x) hx2 (by omega) (by decide) rfl dX7_close_54 (fun H locs hM hS => ?_)
        refine lv_aload_n hx hb dX7_close_55 rfl (lv_at hl 0 rfl) ?_
        refine g_get C hM clo_7 10 (by decide) (by first | assumption | exact r70) t_1308 rfl (v := _) (fv4 rfl) dX7_close_56 ?_
        refine lv_iload_n hx hb dX7_close_59 rfl (lv_at hl 1 rfl) ?_
        refine lv_aload_n hx hb dX7_close_60 rfl (lv_at hl 0 rfl) ?_
        refine g_get C hM clo_7 20 (by decide) (by first | assumption | exact r70) t_1318 rfl (v := .int (mT _ 7 20 _)) rfl dX7_close_61 ?_
        rw [show mT (sT (lrnR D (sT M 7 19 0 0) (ix x) 1) 33 (ix x) 0 99) 7 20 0 = mT D 6 9 0 from (mT_lrn (by decide)).trans (rtime r)]
        refine g_iast C hM hS rw_30 q30 (ix x) hx2 (by omega) (by decide) dX7_close_64 (fun H locs hM hS => ?_)
        refine lv_iconst (v := 0) hx hb dX7_close_65 (by decide) ?_
        refine lv_istore_n (lv' := [(2, _), (0, _), (1, _)]) hx hb dX7_close_66 rfl hl (by decide) rfl (fun ls hl => ?_)
        refine lv_iconst (v := 0) hx hb dX7_close_67 (by decide) ?_
        refine lv_istore_n (lv' := [(3, _), (2, _), (0, _), (1, _)]) hx hb dX7_close_68 rfl hl (by decide) rfl (fun ls hl => ?_)
        suffices K69 : ∀ (n9 : Nat) (n : Nat), mN D 4 - n < n9 → (n ≤ mN D 4) → ∀ (H : Heap) (locs : List Loc) (ls : Array Slot), HM Γ K (sT (sT (lrnR D (sT M 7 19 0 0) (ix x) 1) 33 (ix x) 0 99) 30 (ix x) 0 (mT D 6 9 0)) H → va_S (gFree Γ) s.heap H locs → lv_has ls 4 [(0, .ref (K 7 0)), (1, .int x), (2, .int (ccN (sT D 4 6 (ix x) 99) n)), (3, .int (nI n))] → W p l e (rmL 6 0 0) s m args below meth c H locs 0 0 (vx_MQ below (cQ Γ (gFree Γ) (DD True (some (.int (if rClose D x = 0 then ccN (sT D 4 6 (ix x) 99) (mN D 4) else 0))) K (if rClose D x = 0 then sT (sT (lrnR D (sT M 7 19 0 0) (ix x) 1) 33 (ix x) 0 99) 30 (ix x) 0 (mT D 6 9 0) else sT M 7 19 0 (thI (rClose D x))))) (cX Γ (gFree Γ) K M xNo) args s 0 0 (gFree Γ)) (F0 m 69 ls []) by
          exact K69 _ 0 (Nat.lt_succ_self _) (Nat.zero_le _) _ _ _ hM hS (lv_sub hl [2, 3, 1, 0] rfl)
        intro n9
        induction n9 with
        | zero => intro n h9; exact absurd h9 (Nat.not_lt_zero _)
        | succ n9 ih =>
          intro n h9 hn H locs ls hM hS hl
          refine lv_iload_n hx hb dX7_close_69 rfl (lv_at hl 3 rfl) ?_
          refine lv_aload_n hx hb dX7_close_70 rfl (lv_at hl 0 rfl) ?_
          refine g_get C hM clo_7 22 (by decide) (by first | assumption | exact r70) t_1320 rfl (v := .int (mT _ 7 22 _)) rfl dX7_close_71 ?_
          refine g_icmp_ge (tgt := 102) hx hb dX7_close_74 (by decide) (fun c_74 => ?_) (fun c_74 => ?_)
          · skip
            refine lv_iload_n hx hb dX7_close_102 rfl (lv_at hl 2 rfl) ?_
            exact g_iret C hr hM hS dX7_close_103 (by decide) (by decide) ⟨trivial, by rw [show rClose D x = 0 by simp [rClose, c_6, c_21], show n = mN D 4 by rw [show mT (sT (sT (lrnR D (sT M 7 19 0 0) (ix x) 1) 33 (ix x) 0 99) 30 (ix x) 0 (mT D 6 9 0)) 7 22 0 = nI (mN D 4) from (mT_lrn (by decide)).trans (rticks r)] at c_74; have := (not_congr (nI_ltI (a := n) (b := mN D 4) (by omega) (by omega))).mp c_74; omega]; rfl, rfl, by simp [rClose, thI, c_6, c_21]⟩
          · skip
            have h6 : n < mN D 4 := by rw [show mT (sT (sT (lrnR D (sT M 7 19 0 0) (ix x) 1) 33 (ix x) 0 99) 30 (ix x) 0 (mT D 6 9 0)) 7 22 0 = nI (mN D 4) from (mT_lrn (by decide)).trans (rticks r)] at c_74; exact (nI_ltI (by omega) (by omega)).mp c_74
            refine lv_iload_n hx hb dX7_close_77 rfl (lv_at hl 2 rfl) ?_
            refine lv_aload_n hx hb dX7_close_78 rfl (lv_at hl 0 rfl) ?_
            refine g_get C hM clo_7 13 (by decide) (by first | assumption | exact r70) t_1311 rfl (v := _) (fv4 rfl) dX7_close_79 ?_
            refine lv_iload_n hx hb dX7_close_82 rfl (lv_at hl 3 rfl) ?_
            refine g_cald C hM rw_33 q33 n rfl (by omega) (by decide) dX7_close_83 ?_
            rw [show mT (sT (sT (lrnR D (sT M 7 19 0 0) (ix x) 1) 33 (ix x) 0 99) 30 (ix x) 0 (mT D 6 9 0)) 33 n 0 = _ from cl_st r h6]
            refine lv_bipush (v := 99) hx hb dX7_close_84 (by decide) ?_
            refine lv_icmp_ne (tgt := 93) hx hb dX7_close_86 (by decide) (fun c_86 => ?_) (fun c_86 => ?_)
            · skip
              refine lv_iconst (v := 0) hx hb dX7_close_93 (by decide) ?_
              refine lv_iadd hx hb dX7_close_94 ?_
              refine lv_istore_n (lv' := [(2, _), (0, _), (1, _), (3, _)]) hx hb dX7_close_95 rfl hl (by decide) rfl (fun ls hl => ?_)
              refine lv_iinc (k := 3) (v := nI (n + 1)) (lv' := [(3, _), (2, _), (0, _), (1, _)]) hx hb dX7_close_96 hl rfl (nI_1 n) (by decide) rfl (fun ls hl => ?_)
              refine lv_goto (tgt := 69) hx hb dX7_close_99 (by decide) ?_
              exact ih (n + 1) (by omega) h6 _ _ _ hM hS ((by rw [ccN, if_neg c_86, ← Int32.add_zero (ccN (sT D 4 6 (ix x) 99) n)]; exact lv_sub hl [2, 3, 1, 0] rfl))
            · skip
              refine lv_iconst (v := 1) hx hb dX7_close_89 (by decide) ?_
              refine lv_goto (tgt := 94) hx hb dX7_close_90 (by decide) ?_
              refine lv_iadd hx hb dX7_close_94 ?_
              refine lv_istore_n (lv' := [(2, _), (0, _), (1, _), (3, _)]) hx hb dX7_close_95 rfl hl (by decide) rfl (fun ls hl => ?_)
              refine lv_iinc (k := 3) (v := nI (n + 1)) (lv' := [(3, _), (2, _), (0, _), (1, _)]) hx hb dX7_close_96 hl rfl (nI_1 n) (by decide) rfl (fun ls hl => ?_)
              refine lv_goto (tgt := 69) hx hb dX7_close_99 (by decide) ?_
              exact ih (n + 1) (by omega) h6 _ _ _ hM hS ((by rw [ccN, if_pos c_86]; exact lv_sub hl [2, 3, 1, 0] rfl))
      · exact absurd (show (0 : Int32) < 0 from c_36) (by decide)
    · skip
      refine lv_iconst (v := 2) hx hb dX7_close_24 (by decide) ?_
      refine lv_goto (tgt := 29) hx hb dX7_close_25 (by decide) ?_
      refine g_putI C hM hS clo_7 19 (by decide) rfl (by first | assumption | exact r70) rfl rfl rfl rfl dX7_close_29 (Or.inl t_1317) (fun H locs hM hS => ?_)
      refine lv_aload_n hx hb dX7_close_32 rfl (lv_at hl 0 rfl) ?_
      refine g_get C hM clo_7 19 (by decide) (by first | assumption | exact r70) t_1317 rfl (v := .int (mT _ 7 19 _)) rfl dX7_close_33 ?_
      refine g_if_le (tgt := 41) hx hb dX7_close_36 (by decide) (fun c_36 => ?_) (fun c_36 => ?_)
      · exact absurd (show ¬ (0 : Int32) < 2 from c_36) (by decide)
      · skip
        refine lv_iconst (v := 0) hx hb dX7_close_39 (by decide) ?_
        exact g_iret C hr hM hS dX7_close_40 (by decide) (by decide) ⟨trivial, by simp [rClose, thI, bI, c_6, c_21], rfl, by simp [rClose, thI, bI, c_6, c_21]⟩
  · skip
    refine lv_iconst (v := 1) hx hb dX7_close_9 (by decide) ?_
    refine lv_goto (tgt := 29) hx hb dX7_close_10 (by decide) ?_
    refine g_putI C hM hS clo_7 19 (by decide) rfl (by first | assumption | exact r70) rfl rfl rfl rfl dX7_close_29 (Or.inl t_1317) (fun H locs hM hS => ?_)
    refine lv_aload_n hx hb dX7_close_32 rfl (lv_at hl 0 rfl) ?_
    refine g_get C hM clo_7 19 (by decide) (by first | assumption | exact r70) t_1317 rfl (v := .int (mT _ 7 19 _)) rfl dX7_close_33 ?_
    refine g_if_le (tgt := 41) hx hb dX7_close_36 (by decide) (fun c_36 => ?_) (fun c_36 => ?_)
    · exact absurd (show ¬ (0 : Int32) < 1 from c_36) (by decide)
    · skip
      refine lv_iconst (v := 0) hx hb dX7_close_39 (by decide) ?_
      exact g_iret C hr hM hS dX7_close_40 (by decide) (by decide) ⟨trivial, by simp [rClose, thI, bI, c_6], rfl, by simp [rClose, thI, bI, c_6]⟩

def clrR (D M : Mem) (a : Nat) : Nat → Mem
  | 0 => M
  | n + 1 => if mP D 4 9 n = some a then sT (clrR D M a n) 28 n 0 (-1) else clrR D M a n
theorem clr_N {D M : Mem} {a : Nat} : ∀ n, mN (clrR D M a n) = mN M
  | 0 => rfl
  | n + 1 => by
    unfold clrR
    split
    · exact clr_N n
    · exact clr_N n
theorem clr_T {D M : Mem} {a k j i : Nat} (h : k ≠ 28) : ∀ n, mT (clrR D M a n) k j i = mT M k j i
  | 0 => rfl
  | n + 1 => by
    unfold clrR
    split
    · rw [mT_sT, if_neg (fun z => h z.1)]; exact clr_T h n
    · exact clr_T h n
theorem clr_at {D M : Mem} {a k : Nat} : ∀ n, n ≤ k → mT (clrR D M a n) 28 k 0 = mT M 28 k 0
  | 0, _ => rfl
  | n + 1, hn => by
    unfold clrR
    split
    · rw [mT_sT, if_neg (fun z => by have := z.2.1; omega)]; exact clr_at n (by omega)
    · exact clr_at n (by omega)
def sosR (D M : Mem) (x : Int32) (y : Bool) : Mem := if y = true then sT (sT M 7 19 0 0) 35 (ix x) 0 (bI y) else clrR D (sT (sT M 7 19 0 0) 35 (ix x) 0 (bI y)) (ix x) (mN D 4)
set_option maxHeartbeats 1500000 in
set_option maxRecDepth 100000 in
theorem m_setOnShift {l : Launch} (hfl : l.stackTraces = false) (Γ : Gm) (K : Nat → Nat → Nat) (M : Mem) (x : Int32) (y : Bool) (D : Mem) (w : Wf D) (r : RC D M) (hbo : inN x (mN D 0) = true → narrow .boolean (.int (mT D 0 2 (ix x))) = .int (mT D 0 2 (ix x))) : CT l Γ (gFree Γ) yX7_setOnShift (wsO yX7_setOnShift cX7_setOnShift 5 (some .boolean)) 6 [.ref (K 7 0), .int x, .int (bI y)] K M (DD True (some (.int (if rSetOnShift D x y = 0 then mT D 0 2 (ix x) else 0))) K (if rSetOnShift D x y = 0 then sosR D M x y else sT M 7 19 0 (thI (rSetOnShift D x y)))) xNo 0 0 := by
  refine ct_intro hfl (by decide) (Nat.le_of_ble_eq_true rfl) ?_
  intro p e s m args below meth c C ht hr hnm hM ls hl
  have hx := C.1
  have hb := C.2.1
  have hS : va_S (gFree Γ) s.heap s.heap [] := va_S.rf
  have hl : lv_has ls 5 [(0, .ref (K 7 0)), (1, .int x), (2, .int (bI y))] := hl
  have r70 := r7 r
  have rn0 := fun k h1 h2 => rn r k h1 h2
  have hb4 := wn4 w
  have hb0 := wn0 w
  have hb2 := wn2 w
  have hb3 := wn3 w
  refine lv_aload_n hx hb dX7_setOnShift_0 rfl (lv_at hl 0 rfl) ?_
  refine lv_aload_n hx hb dX7_setOnShift_1 rfl (lv_at hl 0 rfl) ?_
  refine lv_iload_n hx hb dX7_setOnShift_2 rfl (lv_at hl 1 rfl) ?_
  refine g_cV C hS (fun _ h => h) hM hl (fun _ h => h.elim) (m_isAgent hfl Γ _ _ _ D w r) kX7_isAgent t_1530 (HM.recv C hM clo_7 (r7 r)) dX7_setOnShift_3 rfl rfl (Nat.le_of_ble_eq_true rfl) (by decide) rfl ⟨by decide, by decide⟩ xNo_goes (fun H locs hc_3 hM hS => ?_)
  refine g_cV C hS (fun _ h => h) hM hl (fun _ h => h) (m_checked hfl Γ _ _ _ r70) kX7_checked t_1402 (HM.recv C hM clo_7 r70) dX7_setOnShift_6 rfl rfl (Nat.le_of_ble_eq_true rfl) (by decide) rfl ⟨by decide, by decide⟩ xNo_goes (fun H locs hc_6 hM hS => ?_)
  refine g_ifleN (tgt := 14) hx hb dX7_setOnShift_9 (by decide) (fun c_9 => ?_) (fun c_9 => ?_)
  · skip
    obtain ⟨hx1, hx2⟩ := inN_ix (n := mN D 0) (by simpa using c_9) (by omega)
    have hin : inN x (mN D 0) = true := by simpa using c_9
    replace r : RC D (sT M 7 19 0 (bI (!inN x (mN D 0)))) := r
    refine lv_aload_n hx hb dX7_setOnShift_14 rfl (lv_at hl 0 rfl) ?_
    refine g_get C hM clo_7 15 (by decide) (r7 r) t_1313 rfl (v := _) (fv4 rfl) dX7_setOnShift_15 ?_
    refine lv_iload_n hx hb dX7_setOnShift_18 rfl (lv_at hl 1 rfl) ?_
    refine g_zald C hM rw_35 (rn0 35 (by decide) (by decide)) (ix x) hx2 (by omega) (by decide) dX7_setOnShift_19 ?_
    rw [ron r hx1]
    refine lv_istore_n (lv' := [(3, _), (0, _), (1, _), (2, _)]) hx hb dX7_setOnShift_20 rfl hl (by decide) rfl (fun ls hl => ?_)
    refine lv_aload_n hx hb dX7_setOnShift_21 rfl (lv_at hl 1 rfl) ?_
    refine g_get C hM clo_7 15 (by decide) (r7 r) t_1313 rfl (v := _) (fv4 rfl) dX7_setOnShift_22 ?_
    refine lv_iload_n hx hb dX7_setOnShift_25 rfl (lv_at hl 2 rfl) ?_
    refine lv_iload_n hx hb dX7_setOnShift_26 rfl (lv_at hl 3 rfl) ?_
    refine g_zast C hM hS rw_35 (rn0 35 (by decide) (by decide)) (ix x) hx2 (by omega) (by decide) (bI_narrow _) dX7_setOnShift_27 (fun H locs hM hS => ?_)
    refine lv_iconst (v := 0) hx hb dX7_setOnShift_28 (by decide) ?_
    refine lv_istore (lv' := [(4, _), (3, _), (0, _), (1, _), (2, _)]) hx hb dX7_setOnShift_29 hl (by decide) rfl (fun ls hl => ?_)
    suffices K31 : ∀ (n9 : Nat) (n : Nat), mN D 4 - n < n9 → (n ≤ mN D 4) → (y = true → n = 0) → ∀ (H : Heap) (locs : List Loc) (ls : Array Slot), HM Γ K (clrR D (sT (sT M 7 19 0 (bI (!inN x (mN D 0)))) 35 (ix x) 0 (bI y)) (ix x) n) H → va_S (gFree Γ) s.heap H locs → lv_has ls 5 [(0, .ref (K 7 0)), (1, .int x), (2, .int (bI y)), (3, .int (mT D 0 2 (ix x))), (4, .int (nI n))] → W p l e (rmL 6 0 0) s m args below meth c H locs 0 0 (vx_MQ below (cQ Γ (gFree Γ) (DD True (some (.int (if rSetOnShift D x y = 0 then mT D 0 2 (ix x) else 0))) K (if rSetOnShift D x y = 0 then sosR D M x y else sT M 7 19 0 (thI (rSetOnShift D x y))))) (cX Γ (gFree Γ) K M xNo) args s 0 0 (gFree Γ)) (F0 m 31 ls []) by
      exact K31 _ 0 (Nat.lt_succ_self _) (Nat.zero_le _) (fun _ => rfl) _ _ _ hM hS (lv_sub hl [2, 3, 4, 1, 0] rfl)
    intro n9
    induction n9 with
    | zero => intro n h9; exact absurd h9 (Nat.not_lt_zero _)
    | succ n9 ih =>
      intro n h9 hn hy0 H locs ls hM hS hl
      have q7 : 0 < mN (clrR D (sT (sT M 7 19 0 (bI (!inN x (mN D 0)))) 35 (ix x) 0 (bI y)) (ix x) n) 7 := by rw [clr_N]; exact r70
      have q28 : 0 < mN (clrR D (sT (sT M 7 19 0 (bI (!inN x (mN D 0)))) 35 (ix x) 0 (bI y)) (ix x) n) 28 := by rw [clr_N]; exact rn0 28 (by decide) (by decide)
      refine lv_iload hx hb dX7_setOnShift_31 (lv_at hl 4 rfl) ?_
      refine lv_aload_n hx hb dX7_setOnShift_33 rfl (lv_at hl 0 rfl) ?_
      refine g_get C hM clo_7 22 (by decide) q7 t_1320 rfl (v := .int (mT _ 7 22 _)) rfl dX7_setOnShift_34 ?_
      refine g_icmp_ge (tgt := 69) hx hb dX7_setOnShift_37 (by decide) (fun c_37 => ?_) (fun c_37 => ?_)
      · skip
        refine lv_iload_n hx hb dX7_setOnShift_69 rfl (lv_at hl 3 rfl) ?_
        exact g_zret C hr (hbo hin) hM hS dX7_setOnShift_70 (by decide) (by decide) ⟨trivial, by rw [show rSetOnShift D x y = 0 by simp [rSetOnShift, hin]]; rfl, rfl, by rw [show rSetOnShift D x y = 0 by simp [rSetOnShift, hin], if_pos rfl, sosR]; cases hy : y with | false => (rw [show n = mN D 4 by rw [show mT (clrR D (sT (sT M 7 19 0 (bI (!inN x (mN D 0)))) 35 (ix x) 0 (bI y)) (ix x) n) 7 22 0 = nI (mN D 4) from (clr_T (by decide) n).trans (by have q := rticks r; exact q)] at c_37; have := (not_congr (nI_ltI (a := n) (b := mN D 4) (by omega) (by omega))).mp c_37; omega, hin]; rfl) | true => (rw [hy0 hy, hin]; rfl)⟩
      · skip
        have h6 : n < mN D 4 := by rw [show mT (clrR D (sT (sT M 7 19 0 (bI (!inN x (mN D 0)))) 35 (ix x) 0 (bI y)) (ix x) n) 7 22 0 = nI (mN D 4) from (clr_T (by decide) n).trans (by have q := rticks r; exact q)] at c_37; exact (nI_ltI (by omega) (by omega)).mp c_37
        refine lv_iload_n hx hb dX7_setOnShift_40 rfl (lv_at hl 2 rfl) ?_
        refine g_ifneB (tgt := 69) hx hb dX7_setOnShift_41 (by decide) (fun c_41 => ?_) (fun c_41 => ?_)
        · skip
          refine lv_iload_n hx hb dX7_setOnShift_69 rfl (lv_at hl 3 rfl) ?_
          exact g_zret C hr (hbo hin) hM hS dX7_setOnShift_70 (by decide) (by decide) ⟨trivial, by rw [show rSetOnShift D x y = 0 by simp [rSetOnShift, hin]]; rfl, rfl, by rw [show rSetOnShift D x y = 0 by simp [rSetOnShift, hin], if_pos rfl, sosR, if_pos c_41, hy0 c_41, hin]; rfl⟩
        · skip
          refine lv_aload_n hx hb dX7_setOnShift_44 rfl (lv_at hl 0 rfl) ?_
          refine g_get C hM clo_7 8 (by decide) q7 t_1306 rfl (v := _) (fv4 rfl) dX7_setOnShift_45 ?_
          refine lv_iload hx hb dX7_setOnShift_48 (lv_at hl 4 rfl) ?_
          refine g_iald C hM rw_28 q28 n rfl (by omega) (by decide) dX7_setOnShift_50 ?_
          rw [show mT (clrR D (sT (sT M 7 19 0 (bI (!inN x (mN D 0)))) 35 (ix x) 0 (bI y)) (ix x) n) 28 n 0 = oI (mP D 4 9 n) from (clr_at n (Nat.le_refl n)).trans (ragt r h6)]
          have hab : ∀ z, mP D 4 9 n = some z → z < 2 ^ 31 := fun z hz => by have := (w.2.2.1 n h6).2.2.2.2.1 z hz; omega
          have hte : oI (mP D 4 9 n) = x ↔ mP D 4 9 n = some (ix x) := (show oI (mP D 4 9 n) = x ↔ oI (mP D 4 9 n) = nI (ix x) by rw [← hx2]).trans (oI_eq hab (by omega))
          refine lv_iload_n hx hb dX7_setOnShift_51 rfl (lv_at hl 1 rfl) ?_
          refine lv_icmp_ne (tgt := 63) hx hb dX7_setOnShift_52 (by decide) (fun c_52 => ?_) (fun c_52 => ?_)
          · skip
            refine lv_iinc (k := 4) (v := nI (n + 1)) (lv' := [(4, _), (0, _), (1, _), (2, _), (3, _)]) hx hb dX7_setOnShift_63 hl rfl (nI_1 n) (by decide) rfl (fun ls hl => ?_)
            refine lv_goto (tgt := 31) hx hb dX7_setOnShift_66 (by decide) ?_
            exact ih (n + 1) (by omega) h6 (fun z => by rw [c_41] at z; cases z) _ _ _ (by rw [clrR, if_neg (fun z => c_52 (hte.mpr z))]; exact hM) hS (lv_sub hl [1, 2, 3, 4, 0] rfl)
          · skip
            refine lv_aload_n hx hb dX7_setOnShift_55 rfl (lv_at hl 0 rfl) ?_
            refine g_get C hM clo_7 8 (by decide) q7 t_1306 rfl (v := _) (fv4 rfl) dX7_setOnShift_56 ?_
            refine lv_iload hx hb dX7_setOnShift_59 (lv_at hl 4 rfl) ?_
            refine lv_iconst (v := -1) hx hb dX7_setOnShift_61 (by decide) ?_
            refine g_iast C hM hS rw_28 q28 n rfl (by omega) (by decide) dX7_setOnShift_62 (fun H locs hM hS => ?_)
            refine lv_iinc (k := 4) (v := nI (n + 1)) (lv' := [(4, _), (0, _), (1, _), (2, _), (3, _)]) hx hb dX7_setOnShift_63 hl rfl (nI_1 n) (by decide) rfl (fun ls hl => ?_)
            refine lv_goto (tgt := 31) hx hb dX7_setOnShift_66 (by decide) ?_
            exact ih (n + 1) (by omega) h6 (fun z => by rw [c_41] at z; cases z) _ _ _ (by rw [clrR, if_pos (hte.mp c_52)]; exact hM) hS (lv_sub hl [1, 2, 3, 4, 0] rfl)
  · skip
    refine lv_iconst (v := 0) hx hb dX7_setOnShift_12 (by decide) ?_
    exact g_zret C hr rfl hM hS dX7_setOnShift_13 (by decide) (by decide) ⟨trivial, by simp [rSetOnShift, c_9], rfl, by simp [rSetOnShift, thI, bI, c_9]⟩

