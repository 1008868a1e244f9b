/-- the mails of a ticket, in the order of their numbers, and no others -/
def MlOk (D : Mem) (t : Nat) : Prop := (∀ j k, j < k → k < (mL D 8 t).length → (mL D 8 t).getD j 0 < (mL D 8 t).getD k 0) ∧ (∀ k, k < mN D 2 → (tkM D k = t ↔ k ∈ mL D 8 t)) ∧ coN D t (mN D 2) = nI (mL D 8 t).length
theorem getD_in {l : List Nat} {k : Nat} (h : k ∈ l) : ∃ j, j < l.length ∧ l.getD j 0 = k := by
  obtain ⟨j, hj, e⟩ := List.getElem_of_mem h
  exact ⟨j, hj, by rw [List.getD_eq_getElem?_getD, List.getElem?_eq_getElem hj]; exact e⟩
theorem getD_mem {l : List Nat} {j : Nat} (h : j < l.length) : l.getD j 0 ∈ l := by
  rw [List.getD_eq_getElem?_getD, List.getElem?_eq_getElem h]
  exact List.getElem_mem h
/-- the next mail of the ticket that is found is the one with the next place -/
theorem ml_next {D : Mem} {t i m : Nat} (o : MlOk D t) (hi : i < (mL D 8 t).length) (hm : m ≤ (mL D 8 t).getD i 0) (hlo : ∀ j, j < i → (mL D 8 t).getD j 0 < m) (hin : m ∈ mL D 8 t) : m = (mL D 8 t).getD i 0 := by
  obtain ⟨j, hj, e⟩ := getD_in hin
  rcases Nat.lt_trichotomy j i with h | h | h
  · have := hlo j h; omega
  · rw [← h]; exact e.symm
  · have := o.1 i j h hj; omega
theorem pk_m1s (p : Nat) : nI p + Int32.ofInt (-1) = nI p - 1 := by rw [Int32.sub_eq_add_neg]; rfl
set_option maxHeartbeats 1500000 in
set_option maxRecDepth 100000 in
theorem m_mailAt {l : Launch} (hfl : l.stackTraces = false) (Γ : Gm) (K : Nat → Nat → Nat) (M : Mem) (x y : Int32) (D : Mem) (w : Wf D) (r : RC D M) (ho : ix x < mN D 4 → MlOk D (ix x)) : CT l Γ (gFree Γ) yX7_mailAt (wsO yX7_mailAt cX7_mailAt 5 (some .int)) 6 [.ref (K 7 0), .int x, .int y] K M (DD True (some (.int (if rMailAt D x y = 0 then nI ((mL D 8 (ix x)).getD (ix y) 0) else 0))) K (if rMailAt D x y = 0 then sT M 7 19 0 0 else sT M 7 19 0 (thI (rMailAt D x y)))) xNo 0 0 := by
  refine ct_intro hfl (by decide) (Nat.le_of_ble_eq_true rfl) ?_
  intro p e s m args below meth c C ht hr hnm hM ls hl
  have hx := C.1
  have hb := C.2.1
  have hS : va_S (gFree Γ) s.heap s.heap [] := va_S.rf
  have hl : lv_has ls 5 [(0, .ref (K 7 0)), (1, .int x), (2, .int y)] := hl
  have r70 := r7 r
  have rn0 := fun k h1 h2 => rn r k h1 h2
  have hb4 := wn4 w
  have hb0 := wn0 w
  have hb2 := wn2 w
  have hb3 := wn3 w
  refine lv_aload_n hx hb dX7_mailAt_0 rfl (lv_at hl 0 rfl) ?_
  refine lv_aload_n hx hb dX7_mailAt_1 rfl (lv_at hl 0 rfl) ?_
  refine lv_iload_n hx hb dX7_mailAt_2 rfl (lv_at hl 1 rfl) ?_
  refine g_cV C hS (fun _ h => h) hM hl (fun _ h => h.elim) (m_isTicket hfl Γ _ _ _ D w r) kX7_isTicket t_1474 (HM.recv C hM clo_7 (r7 r)) dX7_mailAt_3 rfl rfl (Nat.le_of_ble_eq_true rfl) (by decide) rfl ⟨by decide, by decide⟩ xNo_goes (fun H locs hc_3 hM hS => ?_)
  refine g_ifneB (tgt := 13) hx hb dX7_mailAt_6 (by decide) (fun c_6 => ?_) (fun c_6 => ?_)
  · skip
    obtain ⟨hx1, hx2⟩ := inN_ix (n := mN D 4) c_6 (by omega)
    have o9 := ho hx1
    have hcl := clen w hx1
    refine lv_iload_n hx hb dX7_mailAt_13 rfl (lv_at hl 2 rfl) ?_
    refine lv_iconst (v := 0) hx hb dX7_mailAt_14 (by decide) ?_
    refine lv_aload_n hx hb dX7_mailAt_15 rfl (lv_at hl 0 rfl) ?_
    refine lv_iload_n hx hb dX7_mailAt_16 rfl (lv_at hl 1 rfl) ?_
    refine g_cV C hS (fun _ h => h) hM hl (fun _ h => h.elim) (m_countOf hfl Γ _ _ _ (ix x) D w r hx2 hx1) kX7_countOf t_1478 (HM.recv C hM clo_7 r70) dX7_mailAt_17 rfl rfl (Nat.le_of_ble_eq_true rfl) (by decide) rfl ⟨by decide, by decide⟩ xNo_goes (fun H locs hc_17 hM hS => ?_)
    rw [o9.2.2]
    refine lv_iconst (v := 1) hx hb dX7_mailAt_20 (by decide) ?_
    refine lv_isub hx hb dX7_mailAt_21 ?_
    refine g_cS C hS (fun _ h => h) hM hl (fun _ h => h.elim) (m_in hfl Γ _ _ _ _ _) kX7_in t_1399 dX7_mailAt_22 rfl rfl (Nat.le_of_ble_eq_true rfl) (by decide) rfl ⟨by decide, by decide⟩ xNo_goes (fun H locs hc_22 hM hS => ?_)
    refine g_ifneB (tgt := 32) hx hb dX7_mailAt_25 (by decide) (fun c_25 => ?_) (fun c_25 => ?_)
    · skip
      refine lv_iconst (v := 0) hx hb dX7_mailAt_32 (by decide) ?_
      refine g_putI C hM hS clo_7 19 (by decide) rfl r70 rfl rfl rfl rfl dX7_mailAt_33 (Or.inl t_1317) (fun H locs hM hS => ?_)
      refine lv_aload_n hx hb dX7_mailAt_36 rfl (lv_at hl 0 rfl) ?_
      refine g_get C hM clo_7 19 (by decide) r70 t_1317 rfl (v := .int (mT _ 7 19 _)) rfl dX7_mailAt_37 ?_
      refine g_if_le (tgt := 45) hx hb dX7_mailAt_40 (by decide) (fun c_40 => ?_) (fun c_40 => ?_)
      · skip
        replace r : RC D (sT M 7 19 0 0) := r
        obtain ⟨hy1, hy2⟩ := inN_ix (n := (mL D 8 (ix x)).length) c_25 (by omega)
        refine lv_iconst (v := -1) hx hb dX7_mailAt_45 (by decide) ?_
        refine lv_istore_n (lv' := [(3, _), (0, _), (1, _), (2, _)]) hx hb dX7_mailAt_46 rfl hl (by decide) rfl (fun ls hl => ?_)
        refine lv_iload_n hx hb dX7_mailAt_47 rfl (lv_at hl 3 rfl) ?_
        refine lv_istore (lv' := [(4, _), (3, _), (0, _), (1, _), (2, _)]) hx hb dX7_mailAt_48 hl (by decide) rfl (fun ls hl => ?_)
        suffices K50 : ∀ (n9 : Nat) (p5 : Nat) (z9 v9 : Int32), p5 < n9 → (p5 ≤ ix y + 1) → (z9 = nI p5 - 1) → (v9 = (if p5 = ix y + 1 then (-1 : Int32) else nI ((mL D 8 (ix x)).getD (ix y - p5) 0))) → ∀ (H : Heap) (locs : List Loc) (ls : Array Slot), HM Γ K (sT M 7 19 0 0) H → va_S (gFree Γ) s.heap H locs → lv_has ls 5 [(0, .ref (K 7 0)), (1, .int x), (2, .int y), (3, .int v9), (4, .int z9)] → W p l e (rmL 6 0 0) s m args below meth c H locs 0 0 (vx_MQ below (cQ Γ (gFree Γ) (DD True (some (.int (if rMailAt D x y = 0 then nI ((mL D 8 (ix x)).getD (ix y) 0) else 0))) K (if rMailAt D x y = 0 then sT M 7 19 0 0 else sT M 7 19 0 (thI (rMailAt D x y))))) (cX Γ (gFree Γ) K M xNo) args s 0 0 (gFree Γ)) (F0 m 50 ls []) by
          exact K50 _ (ix y + 1) y (-1) (Nat.lt_succ_self _) (Nat.le_refl _) (by rw [nI_pred]; exact hy2) (by rw [if_pos rfl]) _ _ _ hM hS (lv_sub hl [2, 3, 4, 1, 0] rfl)
        intro n9
        induction n9 with
        | zero => intro p5 z9 v9 h9; exact absurd h9 (Nat.not_lt_zero _)
        | succ n9 ih =>
          intro p5 z9 v9 h9 hp5 hz hvv H locs ls hM hS hl
          refine lv_iload hx hb dX7_mailAt_50 (lv_at hl 4 rfl) ?_
          refine lv_if_lt (tgt := 80) hx hb dX7_mailAt_52 (by decide) (fun c_52 => ?_) (fun c_52 => ?_)
          · skip
            have hp0 : p5 = 0 := by rcases Nat.eq_zero_or_pos p5 with h | h; (· exact h); (· exact absurd c_52 (by rw [hz, ← Nat.sub_add_cancel h, nI_pred]; exact nI_pos (by omega)))
            refine lv_iload_n hx hb dX7_mailAt_80 rfl (lv_at hl 3 rfl) ?_
            exact g_iret C hr hM hS dX7_mailAt_81 (by decide) (by decide) ⟨trivial, by rw [show rMailAt D x y = 0 by simp [rMailAt, c_6, show inN y (mL D 8 (ix x)).length = true from c_25], hvv, if_neg (by omega), hp0]; rfl, rfl, by simp [rMailAt, thI, c_6, show inN y (mL D 8 (ix x)).length = true from c_25]⟩
          · skip
            obtain ⟨p5, rfl⟩ : ∃ q, p5 = q + 1 := ⟨p5 - 1, by have h0 : p5 ≠ 0 := (fun q => c_52 (by rw [hz, q]; decide)); omega⟩
            have hi5 : ix y - p5 < (mL D 8 (ix x)).length := by omega
            have hst : v9 + 1 = nI (if p5 = ix y then 0 else (mL D 8 (ix x)).getD (ix y - (p5 + 1)) 0 + 1) ∧ (if p5 = ix y then 0 else (mL D 8 (ix x)).getD (ix y - (p5 + 1)) 0 + 1) ≤ (mL D 8 (ix x)).getD (ix y - p5) 0 ∧ ∀ j, j < ix y - p5 → (mL D 8 (ix x)).getD j 0 < (if p5 = ix y then 0 else (mL D 8 (ix x)).getD (ix y - (p5 + 1)) 0 + 1) := by
              by_cases e9 : p5 = ix y
              · rw [if_pos e9]; refine ⟨by rw [hvv, if_pos (by omega)]; rfl, Nat.zero_le _, fun j hj => by omega⟩
              · rw [if_neg e9]; refine ⟨by rw [hvv, if_neg (by omega), nI_1], ?_, fun j hj => ?_⟩
                · exact o9.1 (ix y - (p5 + 1)) (ix y - p5) (by omega) hi5
                · rcases Nat.lt_or_ge j (ix y - (p5 + 1)) with h | h
                  · have := o9.1 j (ix y - (p5 + 1)) h (by omega); omega
                  · rw [show j = ix y - (p5 + 1) by omega]; omega
            have hzz : z9 + Int32.ofInt (-1) = nI p5 - 1 := by rw [hz, nI_pred]; exact pk_m1s p5
            refine lv_iinc (k := 3) (v := (v9 + 1)) (lv' := [(3, _), (0, _), (1, _), (2, _), (4, _)]) hx hb dX7_mailAt_55 hl rfl rfl (by decide) rfl (fun ls hl => ?_)
            suffices K58 : ∀ (n9 : Nat) (m5 : Nat) (u9 : Int32), (mL D 8 (ix x)).getD (ix y - p5) 0 - m5 < n9 → (u9 = nI m5) → (m5 ≤ (mL D 8 (ix x)).getD (ix y - p5) 0) → (∀ j, j < ix y - p5 → (mL D 8 (ix x)).getD j 0 < m5) → ∀ (H : Heap) (locs : List Loc) (ls : Array Slot), HM Γ K (sT M 7 19 0 0) H → va_S (gFree Γ) s.heap H locs → lv_has ls 5 [(0, .ref (K 7 0)), (1, .int x), (2, .int y), (3, .int u9), (4, .int z9)] → W p l e (rmL 6 0 0) s m args below meth c H locs 0 0 (vx_MQ below (cQ Γ (gFree Γ) (DD True (some (.int (if rMailAt D x y = 0 then nI ((mL D 8 (ix x)).getD (ix y) 0) else 0))) K (if rMailAt D x y = 0 then sT M 7 19 0 0 else sT M 7 19 0 (thI (rMailAt D x y))))) (cX Γ (gFree Γ) K M xNo) args s 0 0 (gFree Γ)) (F0 m 58 ls []) by
              exact K58 _ (if p5 = ix y then 0 else (mL D 8 (ix x)).getD (ix y - (p5 + 1)) 0 + 1) (v9 + 1) (Nat.lt_succ_self _) hst.1 hst.2.1 hst.2.2 _ _ _ hM hS (lv_sub hl [1, 2, 3, 0, 4] rfl)
            intro n9b
            induction n9b with
            | zero => intro m5 u9 h9b; exact absurd h9b (Nat.not_lt_zero _)
            | succ n9b ihb =>
              intro m5 u9 h9b hv hmle hlo H locs ls hM hS hl
              have hm2 : m5 < mN D 2 := by have := cmem w hx1 hi5; omega
              have htk := tkM_eq w hm2
              have hte : nI (tkM D m5) = x ↔ tkM D m5 = ix x := (show nI (tkM D m5) = x ↔ nI (tkM D m5) = nI (ix x) by rw [← hx2]).trans ⟨fun q => nI_inj (by omega) (by omega) q, fun q => by rw [q]⟩
              refine lv_aload_n hx hb dX7_mailAt_58 rfl (lv_at hl 0 rfl) ?_
              refine g_get C hM clo_7 2 (by decide) r70 t_1300 rfl (v := _) (fv4 rfl) dX7_mailAt_59 ?_
              refine lv_iload_n hx hb dX7_mailAt_62 rfl (lv_at hl 3 rfl) ?_
              refine g_iald C hM rw_22 (rn0 22 (by decide) (by decide)) m5 hv (by omega) (by decide) dX7_mailAt_63 ?_
              rw [rtkof r hm2]
              refine lv_iload_n hx hb dX7_mailAt_64 rfl (lv_at hl 1 rfl) ?_
              refine lv_icmp_eq (tgt := 74) hx hb dX7_mailAt_65 (by decide) (fun c_65 => ?_) (fun c_65 => ?_)
              · skip
                have hme : m5 = (mL D 8 (ix x)).getD (ix y - p5) 0 := ml_next o9 hi5 hmle hlo ((o9.2.1 m5 hm2).mp (hte.mp c_65))
                refine lv_iinc (k := 4) (v := (nI p5 - 1)) (lv' := [(4, _), (0, _), (1, _), (2, _), (3, _)]) hx hb dX7_mailAt_74 hl rfl hzz (by decide) rfl (fun ls hl => ?_)
                refine lv_goto (tgt := 50) hx hb dX7_mailAt_77 (by decide) ?_
                exact ih p5 (nI p5 - 1) (nI m5) (by omega) (by omega) rfl (by rw [if_neg (by omega), hme]) _ _ _ hM hS ((by rw [← hv]; exact lv_sub hl [1, 2, 3, 4, 0] rfl))
              · skip
                have hne : ¬ m5 = (mL D 8 (ix x)).getD (ix y - p5) 0 := fun q => c_65 (hte.mpr (by rw [q]; exact (o9.2.1 _ (cmem w hx1 hi5)).mpr (getD_mem hi5)))
                refine lv_iinc (k := 3) (v := (nI (m5 + 1))) (lv' := [(3, _), (0, _), (1, _), (2, _), (4, _)]) hx hb dX7_mailAt_68 hl rfl (by rw [hv]; exact nI_1 m5) (by decide) rfl (fun ls hl => ?_)
                refine lv_goto (tgt := 58) hx hb dX7_mailAt_71 (by decide) ?_
                exact ihb (m5 + 1) (nI (m5 + 1)) (by omega) rfl (by omega) (fun j hj => by have := hlo j hj; omega) _ _ _ hM hS (lv_sub hl [1, 2, 3, 0, 4] rfl)
      · exact absurd (show (0 : Int32) < 0 from c_40) (by decide)
    · skip
      refine lv_iconst (v := 2) hx hb dX7_mailAt_28 (by decide) ?_
      refine lv_goto (tgt := 33) hx hb dX7_mailAt_29 (by decide) ?_
      refine g_putI C hM hS clo_7 19 (by decide) rfl r70 rfl rfl rfl rfl dX7_mailAt_33 (Or.inl t_1317) (fun H locs hM hS => ?_)
      refine lv_aload_n hx hb dX7_mailAt_36 rfl (lv_at hl 0 rfl) ?_
      refine g_get C hM clo_7 19 (by decide) r70 t_1317 rfl (v := .int (mT _ 7 19 _)) rfl dX7_mailAt_37 ?_
      refine g_if_le (tgt := 45) hx hb dX7_mailAt_40 (by decide) (fun c_40 => ?_) (fun c_40 => ?_)
      · exact absurd (show ¬ (0 : Int32) < 2 from c_40) (by decide)
      · skip
        refine lv_iconst (v := 0) hx hb dX7_mailAt_43 (by decide) ?_
        exact g_iret C hr hM hS dX7_mailAt_44 (by decide) (by decide) ⟨trivial, by simp [rMailAt, c_6, show inN y (mL D 8 (ix x)).length = false from c_25], rfl, by simp [rMailAt, thI, c_6, show inN y (mL D 8 (ix x)).length = false from c_25]⟩
  · skip
    refine lv_iconst (v := 1) hx hb dX7_mailAt_9 (by decide) ?_
    refine lv_goto (tgt := 33) hx hb dX7_mailAt_10 (by decide) ?_
    refine g_putI C hM hS clo_7 19 (by decide) rfl r70 rfl rfl rfl rfl dX7_mailAt_33 (Or.inl t_1317) (fun H locs hM hS => ?_)
    refine lv_aload_n hx hb dX7_mailAt_36 rfl (lv_at hl 0 rfl) ?_
    refine g_get C hM clo_7 19 (by decide) r70 t_1317 rfl (v := .int (mT _ 7 19 _)) rfl dX7_mailAt_37 ?_
    refine g_if_le (tgt := 45) hx hb dX7_mailAt_40 (by decide) (fun c_40 => ?_) (fun c_40 => ?_)
    · exact absurd (show ¬ (0 : Int32) < 1 from c_40) (by decide)
    · skip
      refine lv_iconst (v := 0) hx hb dX7_mailAt_43 (by decide) ?_
      exact g_iret C hr hM hS dX7_mailAt_44 (by decide) (by decide) ⟨trivial, by simp [rMailAt, c_6], rfl, by simp [rMailAt, thI, c_6]⟩

