def lrnR (D M : Mem) (t : Nat) (x : Int32) : Mem := match mP D 4 11 t with
  | none => M
  | some q => sT (if inB (mT D 14 (toM D t) q + x) 0 9 = true then sT M 38 (6 * q + toM D t) 0 (mT D 14 (toM D t) q + x) else M) 32 t 0 (-1)
def opR (D M : Mem) (t : Nat) : Mem := if ohM D t = true then M else sT (sT (sT (lrnR D M t (-1)) 33 t 0 111) 27 t 0 0) 34 t 0 0
theorem mN_lrn {D M : Mem} {t : Nat} {x : Int32} : mN (lrnR D M t x) = mN M := by
  unfold lrnR
  split
  · rfl
  · split <;> rfl
theorem mT_lrn {D M : Mem} {t : Nat} {x : Int32} {k j i : Nat} (h : ¬ (k = 38 ∨ k = 32)) : mT (lrnR D M t x) k j i = mT M k j i := by
  unfold lrnR
  split
  · rfl
  · rw [mT_sT, if_neg (fun z => h (Or.inr z.1))]
    split
    · rw [mT_sT, if_neg (fun z => h (Or.inl z.1))]
    · rfl
theorem mN_op {D M : Mem} {t : Nat} : mN (opR D M t) = mN M := by
  unfold opR
  split
  · rfl
  · exact mN_lrn
theorem mT_op {D M : Mem} {t j i : Nat} : mT (opR D M t) 7 j i = mT M 7 j i := by
  unfold opR
  split
  · rfl
  · exact mT_lrn (by decide)
def mkR (D M : Mem) (c s u : Int32) : Mem := sT (sT (sT (sT (sT (sT (sT (sT M 24 (mN D 4) 0 c) 25 (mN D 4) 0 s) 26 (mN D 4) 0 u) 28 (mN D 4) 0 (-1)) 31 (mN D 4) 0 (-1)) 32 (mN D 4) 0 (-1)) 33 (mN D 4) 0 111) 7 22 0 (mT M 7 22 0 + 1)
set_option maxHeartbeats 1500000 in
set_option maxRecDepth 100000 in
theorem m_learns {l : Launch} (hfl : l.stackTraces = false) (Γ : Gm) (K : Nat → Nat → Nat) (M : Mem) (x y : Int32) (t : Nat) (D : Mem) (w : Wf D) (r : RC D M) (hx9 : x = nI t) (ht9 : t < mN D 4) : CT l Γ (gFree Γ) yX7_learns (wsO yX7_learns cX7_learns 4 none) 1 [.ref (K 7 0), .int x, .int y] K M (DD True none K (lrnR D M t y)) xNo 0 0 := by
  refine ct_intro hfl (by decide) (Nat.le_of_ble_eq_true rfl) ?_
  intro p e s m args below meth c C ht hr hnm hM ls hl
  have hx := C.1
  have hb := C.2.1
  have hS : va_S (gFree Γ) s.heap s.heap [] := va_S.rf
  have hl : lv_has ls 4 [(0, .ref (K 7 0)), (1, .int x), (2, .int y)] := hl
  have r70 := r7 r
  have rn0 := fun k h1 h2 => rn r k h1 h2
  have hb4 := wn4 w
  have hb0 := wn0 w
  have hb2 := wn2 w
  have hb3 := wn3 w
  have h1 := w.2.2.1 t ht9
  have hab : ∀ z, mP D 4 11 t = some z → z < 2 ^ 31 := fun z hz => by have := h1.2.2.2.2.2.1 z hz; omega
  refine lv_aload_n hx hb dX7_learns_0 rfl (lv_at hl 0 rfl) ?_
  refine g_get C hM clo_7 12 (by decide) r70 t_1310 rfl (v := _) (fv4 rfl) dX7_learns_1 ?_
  refine lv_iload_n hx hb dX7_learns_4 rfl (lv_at hl 1 rfl) ?_
  refine g_iald C hM rw_32 (rn0 32 (by decide) (by decide)) t hx9 (by omega) (by decide) dX7_learns_5 ?_
  rw [rsent r ht9]
  refine g_if_ge (tgt := 10) hx hb dX7_learns_6 (by decide) (fun c_6 => ?_) (fun c_6 => ?_)
  · skip
    obtain ⟨q, hq9⟩ : ∃ q, mP D 4 11 t = some q := Option.ne_none_iff_exists'.mp (fun z => c_6 ((oI_neg hab).mpr z))
    have hq6 := h1.2.2.2.2.2.1 q hq9
    refine lv_bipush (v := 6) hx hb dX7_learns_10 (by decide) ?_
    refine lv_aload_n hx hb dX7_learns_12 rfl (lv_at hl 0 rfl) ?_
    refine g_get C hM clo_7 12 (by decide) r70 t_1310 rfl (v := _) (fv4 rfl) dX7_learns_13 ?_
    refine lv_iload_n hx hb dX7_learns_16 rfl (lv_at hl 1 rfl) ?_
    refine g_iald C hM rw_32 (rn0 32 (by decide) (by decide)) t hx9 (by omega) (by decide) dX7_learns_17 ?_
    rw [rsent r ht9]
    refine lv_imul hx hb dX7_learns_18 ?_
    refine lv_aload_n hx hb dX7_learns_19 rfl (lv_at hl 0 rfl) ?_
    refine g_get C hM clo_7 6 (by decide) r70 t_1304 rfl (v := _) (fv4 rfl) dX7_learns_20 ?_
    refine lv_iload_n hx hb dX7_learns_23 rfl (lv_at hl 1 rfl) ?_
    refine g_iald C hM rw_26 (rn0 26 (by decide) (by decide)) t hx9 (by omega) (by decide) dX7_learns_24 ?_
    rw [rtop r ht9]
    have hidx : 6 * oI (mP D 4 11 t) + mT D 4 4 t = nI (6 * q + toM D t) := by rw [hq9, h1.2.2.1]; exact nI_idx
    have ht6 := h1.2.2.2.1
    refine lv_iadd hx hb dX7_learns_25 ?_
    refine lv_istore_n (lv' := [(3, _), (0, _), (1, _), (2, _)]) hx hb dX7_learns_26 rfl hl (by decide) rfl (fun ls hl => ?_)
    refine lv_aload_n hx hb dX7_learns_27 rfl (lv_at hl 1 rfl) ?_
    refine g_get C hM clo_7 18 (by decide) r70 t_1316 rfl (v := _) (fv4 rfl) dX7_learns_28 ?_
    refine lv_iload_n hx hb dX7_learns_31 rfl (lv_at hl 0 rfl) ?_
    refine g_iald C hM rw_38 (rn0 38 (by decide) (by decide)) (6 * q + toM D t) hidx (by omega) (by decide) dX7_learns_32 ?_
    rw [rwgt r hq6 ht6]
    refine lv_iload_n hx hb dX7_learns_33 rfl (lv_at hl 3 rfl) ?_
    refine lv_iadd hx hb dX7_learns_34 ?_
    refine lv_iconst (v := 0) hx hb dX7_learns_35 (by decide) ?_
    refine lv_bipush (v := 9) hx hb dX7_learns_36 (by decide) ?_
    refine g_cS C hS (fun _ h => h) hM hl (fun _ h => h.elim) (m_in hfl Γ _ _ _ _ _) kX7_in t_1399 dX7_learns_38 rfl rfl (Nat.le_of_ble_eq_true rfl) (by decide) rfl ⟨by decide, by decide⟩ xNo_goes (fun H locs hc_38 hM hS => ?_)
    refine g_ifeqB (tgt := 54) hx hb dX7_learns_41 (by decide) (fun c_41 => ?_) (fun c_41 => ?_)
    · skip
      refine lv_aload_n hx hb dX7_learns_54 rfl (lv_at hl 1 rfl) ?_
      refine g_get C hM clo_7 12 (by decide) r70 t_1310 rfl (v := _) (fv4 rfl) dX7_learns_55 ?_
      refine lv_iload_n hx hb dX7_learns_58 rfl (lv_at hl 2 rfl) ?_
      refine lv_iconst (v := -1) hx hb dX7_learns_59 (by decide) ?_
      refine g_iast C hM hS rw_32 (rn0 32 (by decide) (by decide)) t hx9 (by omega) (by decide) dX7_learns_60 (fun H locs hM hS => ?_)
      exact g_vret C hr hM hS dX7_learns_61 (by decide) (by decide) ⟨trivial, rfl, rfl, by rw [lrnR, hq9]; show _ = sT (if _ = true then _ else _) _ _ _ _; rw [c_41]; rfl⟩
    · skip
      refine lv_aload_n hx hb dX7_learns_44 rfl (lv_at hl 1 rfl) ?_
      refine g_get C hM clo_7 18 (by decide) r70 t_1316 rfl (v := _) (fv4 rfl) dX7_learns_45 ?_
      refine lv_iload_n hx hb dX7_learns_48 rfl (lv_at hl 0 rfl) ?_
      refine lv_dup2_11 hx hb dX7_learns_49 rfl rfl ?_
      refine g_iald C hM rw_38 (rn0 38 (by decide) (by decide)) (6 * q + toM D t) hidx (by omega) (by decide) dX7_learns_50 ?_
      rw [rwgt r hq6 ht6]
      refine lv_iload_n hx hb dX7_learns_51 rfl (lv_at hl 3 rfl) ?_
      refine lv_iadd hx hb dX7_learns_52 ?_
      refine g_iast C hM hS rw_38 (rn0 38 (by decide) (by decide)) (6 * q + toM D t) hidx (by omega) (by decide) dX7_learns_53 (fun H locs hM hS => ?_)
      refine lv_aload_n hx hb dX7_learns_54 rfl (lv_at hl 1 rfl) ?_
      refine g_get C hM clo_7 12 (by decide) r70 t_1310 rfl (v := _) (fv4 rfl) dX7_learns_55 ?_
      refine lv_iload_n hx hb dX7_learns_58 rfl (lv_at hl 2 rfl) ?_
      refine lv_iconst (v := -1) hx hb dX7_learns_59 (by decide) ?_
      refine g_iast C hM hS rw_32 (rn0 32 (by decide) (by decide)) t hx9 (by omega) (by decide) dX7_learns_60 (fun H locs hM hS => ?_)
      exact g_vret C hr hM hS dX7_learns_61 (by decide) (by decide) ⟨trivial, rfl, rfl, by rw [lrnR, hq9]; show _ = sT (if _ = true then _ else _) _ _ _ _; rw [c_41]; rfl⟩
  · skip
    exact g_vret C hr hM hS dX7_learns_9 (by decide) (by decide) ⟨trivial, rfl, rfl, by rw [lrnR, (oI_neg hab).mp c_6]⟩

set_option maxHeartbeats 1500000 in
set_option maxRecDepth 100000 in
theorem m_opens {l : Launch} (hfl : l.stackTraces = false) (Γ : Gm) (K : Nat → Nat → Nat) (M : Mem) (x : Int32) (t : Nat) (D : Mem) (w : Wf D) (r : RC D M) (hx9 : x = nI t) (ht9 : t < mN D 4) : CT l Γ (gFree Γ) yX7_opens (wsO yX7_opens cX7_opens 2 none) 2 [.ref (K 7 0), .int x] K M (DD True none K (opR D M t)) xNo 0 0 := by
  refine ct_intro hfl (by decide) (Nat.le_of_ble_eq_true rfl) ?_
  intro p e s m args below meth c C ht hr hnm hM ls hl
  have hx := C.1
  have hb := C.2.1
  have hS : va_S (gFree Γ) s.heap s.heap [] := va_S.rf
  have hl : lv_has ls 2 [(0, .ref (K 7 0)), (1, .int x)] := hl
  have r70 := r7 r
  have rn0 := fun k h1 h2 => rn r k h1 h2
  have hb4 := wn4 w
  have hb0 := wn0 w
  have hb2 := wn2 w
  have hb3 := wn3 w
  refine lv_aload_n hx hb dX7_opens_0 rfl (lv_at hl 0 rfl) ?_
  refine lv_iload_n hx hb dX7_opens_1 rfl (lv_at hl 1 rfl) ?_
  refine g_cV C hS (fun _ h => h) hM hl (fun _ h => h.elim) (m_isLive hfl Γ _ _ _ t D w r hx9 ht9) kX7_isLive t_1442 (HM.recv C hM clo_7 r70) dX7_opens_2 rfl rfl (Nat.le_of_ble_eq_true rfl) (by decide) rfl ⟨by decide, by decide⟩ xNo_goes (fun H locs hc_2 hM hS => ?_)
  refine g_ifeqB (tgt := 9) hx hb dX7_opens_5 (by decide) (fun c_5 => ?_) (fun c_5 => ?_)
  · skip
    refine lv_aload_n hx hb dX7_opens_9 rfl (lv_at hl 0 rfl) ?_
    refine lv_iload_n hx hb dX7_opens_10 rfl (lv_at hl 1 rfl) ?_
    refine lv_iconst (v := -1) hx hb dX7_opens_11 (by decide) ?_
    refine g_cV C hS (fun _ h => h) hM hl (fun _ h => h) (m_learns hfl Γ _ _ _ _ t D w r hx9 ht9) kX7_learns t_1458 (HM.recv C hM clo_7 r70) dX7_opens_12 rfl rfl (Nat.le_of_ble_eq_true rfl) (by decide) rfl ⟨by decide, by decide⟩ xNo_goes (fun H locs hc_12 hM hS => ?_)
    have q7 : 0 < mN (lrnR D M t (-1)) 7 := by rw [mN_lrn]; exact r7 r
    have q33 : 0 < mN (lrnR D M t (-1)) 33 := by rw [mN_lrn]; exact rn r 33 (by decide) (by decide)
    have q27 : 0 < mN (lrnR D M t (-1)) 27 := by rw [mN_lrn]; exact rn r 27 (by decide) (by decide)
    have q34 : 0 < mN (lrnR D M t (-1)) 34 := by rw [mN_lrn]; exact rn r 34 (by decide) (by decide)
    refine lv_aload_n hx hb dX7_opens_15 rfl (lv_at hl 0 rfl) ?_
    refine g_get C hM clo_7 13 (by decide) q7 t_1311 rfl (v := _) (fv4 rfl) dX7_opens_16 ?_
    refine lv_iload_n hx hb dX7_opens_19 rfl (lv_at hl 1 rfl) ?_
    refine lv_bipush (v := 111) hx hb dX7_opens_20 (by decide) ?_
    refine g_cast C hM hS rw_33 q33 t hx9 (by omega) (by decide) rfl dX7_opens_22 (fun H locs hM hS => ?_)
    refine lv_aload_n hx hb dX7_opens_23 rfl (lv_at hl 0 rfl) ?_
    refine g_get C hM clo_7 7 (by decide) q7 t_1305 rfl (v := _) (fv4 rfl) dX7_opens_24 ?_
    refine lv_iload_n hx hb dX7_opens_27 rfl (lv_at hl 1 rfl) ?_
    refine lv_iconst (v := 0) hx hb dX7_opens_28 (by decide) ?_
    refine g_iast C hM hS rw_27 q27 t hx9 (by omega) (by decide) dX7_opens_29 (fun H locs hM hS => ?_)
    refine lv_aload_n hx hb dX7_opens_30 rfl (lv_at hl 0 rfl) ?_
    refine g_get C hM clo_7 14 (by decide) q7 t_1312 rfl (v := _) (fv4 rfl) dX7_opens_31 ?_
    refine lv_iload_n hx hb dX7_opens_34 rfl (lv_at hl 1 rfl) ?_
    refine lv_iconst (v := 0) hx hb dX7_opens_35 (by decide) ?_
    refine g_zast C hM hS rw_34 q34 t hx9 (by omega) (by decide) rfl dX7_opens_36 (fun H locs hM hS => ?_)
    exact g_vret C hr hM hS dX7_opens_37 (by decide) (by decide) ⟨trivial, rfl, rfl, by rw [opR, c_5]; rfl⟩
  · skip
    exact g_vret C hr hM hS dX7_opens_8 (by decide) (by decide) ⟨trivial, rfl, rfl, by rw [opR, c_5]; rfl⟩

set_option maxHeartbeats 1500000 in
set_option maxRecDepth 100000 in
theorem m_makes {l : Launch} (hfl : l.stackTraces = false) (Γ : Gm) (K : Nat → Nat → Nat) (M : Mem) (x y u : Int32) (D : Mem) (w : Wf D) (r : RC D M) (hlt : mN D 4 < 40) : CT l Γ (gFree Γ) yX7_makes (wsO yX7_makes cX7_makes 4 none) 0 [.ref (K 7 0), .int x, .int y, .int u] K M (DD True none K (mkR D M x y u)) xNo 0 0 := by
  refine ct_intro hfl (by decide) (Nat.le_of_ble_eq_true rfl) ?_
  intro p e s m args below meth c C ht hr hnm hM ls hl
  have hx := C.1
  have hb := C.2.1
  have hS : va_S (gFree Γ) s.heap s.heap [] := va_S.rf
  have hl : lv_has ls 4 [(0, .ref (K 7 0)), (1, .int x), (2, .int y), (3, .int u)] := hl
  have r70 := r7 r
  have rn0 := fun k h1 h2 => rn r k h1 h2
  have hb4 := wn4 w
  have hb0 := wn0 w
  have hb2 := wn2 w
  have hb3 := wn3 w
  refine lv_aload_n hx hb dX7_makes_0 rfl (lv_at hl 0 rfl) ?_
  refine g_get C hM clo_7 4 (by decide) r70 t_1302 rfl (v := _) (fv4 rfl) dX7_makes_1 ?_
  refine lv_aload_n hx hb dX7_makes_4 rfl (lv_at hl 0 rfl) ?_
  refine g_get C hM clo_7 22 (by decide) r70 t_1320 rfl (v := .int (mT _ 7 22 _)) rfl dX7_makes_5 ?_
  refine lv_iload_n hx hb dX7_makes_8 rfl (lv_at hl 1 rfl) ?_
  refine g_iast C hM hS rw_24 (rn0 24 (by decide) (by decide)) (mN D 4) (by have q := rticks r; exact q) (by omega) (by decide) dX7_makes_9 (fun H locs hM hS => ?_)
  refine lv_aload_n hx hb dX7_makes_10 rfl (lv_at hl 0 rfl) ?_
  refine g_get C hM clo_7 5 (by decide) r70 t_1303 rfl (v := _) (fv4 rfl) dX7_makes_11 ?_
  refine lv_aload_n hx hb dX7_makes_14 rfl (lv_at hl 0 rfl) ?_
  refine g_get C hM clo_7 22 (by decide) r70 t_1320 rfl (v := .int (mT _ 7 22 _)) rfl dX7_makes_15 ?_
  refine lv_iload_n hx hb dX7_makes_18 rfl (lv_at hl 2 rfl) ?_
  refine g_iast C hM hS rw_25 (rn0 25 (by decide) (by decide)) (mN D 4) (by have q := rticks r; exact q) (by omega) (by decide) dX7_makes_19 (fun H locs hM hS => ?_)
  refine lv_aload_n hx hb dX7_makes_20 rfl (lv_at hl 0 rfl) ?_
  refine g_get C hM clo_7 6 (by decide) r70 t_1304 rfl (v := _) (fv4 rfl) dX7_makes_21 ?_
  refine lv_aload_n hx hb dX7_makes_24 rfl (lv_at hl 0 rfl) ?_
  refine g_get C hM clo_7 22 (by decide) r70 t_1320 rfl (v := .int (mT _ 7 22 _)) rfl dX7_makes_25 ?_
  refine lv_iload_n hx hb dX7_makes_28 rfl (lv_at hl 3 rfl) ?_
  refine g_iast C hM hS rw_26 (rn0 26 (by decide) (by decide)) (mN D 4) (by have q := rticks r; exact q) (by omega) (by decide) dX7_makes_29 (fun H locs hM hS => ?_)
  refine lv_aload_n hx hb dX7_makes_30 rfl (lv_at hl 0 rfl) ?_
  refine g_get C hM clo_7 8 (by decide) r70 t_1306 rfl (v := _) (fv4 rfl) dX7_makes_31 ?_
  refine lv_aload_n hx hb dX7_makes_34 rfl (lv_at hl 0 rfl) ?_
  refine g_get C hM clo_7 22 (by decide) r70 t_1320 rfl (v := .int (mT _ 7 22 _)) rfl dX7_makes_35 ?_
  refine lv_iconst (v := -1) hx hb dX7_makes_38 (by decide) ?_
  refine g_iast C hM hS rw_28 (rn0 28 (by decide) (by decide)) (mN D 4) (by have q := rticks r; exact q) (by omega) (by decide) dX7_makes_39 (fun H locs hM hS => ?_)
  refine lv_aload_n hx hb dX7_makes_40 rfl (lv_at hl 0 rfl) ?_
  refine g_get C hM clo_7 11 (by decide) r70 t_1309 rfl (v := _) (fv4 rfl) dX7_makes_41 ?_
  refine lv_aload_n hx hb dX7_makes_44 rfl (lv_at hl 0 rfl) ?_
  refine g_get C hM clo_7 22 (by decide) r70 t_1320 rfl (v := .int (mT _ 7 22 _)) rfl dX7_makes_45 ?_
  refine lv_iconst (v := -1) hx hb dX7_makes_48 (by decide) ?_
  refine g_iast C hM hS rw_31 (rn0 31 (by decide) (by decide)) (mN D 4) (by have q := rticks r; exact q) (by omega) (by decide) dX7_makes_49 (fun H locs hM hS => ?_)
  refine lv_aload_n hx hb dX7_makes_50 rfl (lv_at hl 0 rfl) ?_
  refine g_get C hM clo_7 12 (by decide) r70 t_1310 rfl (v := _) (fv4 rfl) dX7_makes_51 ?_
  refine lv_aload_n hx hb dX7_makes_54 rfl (lv_at hl 0 rfl) ?_
  refine g_get C hM clo_7 22 (by decide) r70 t_1320 rfl (v := .int (mT _ 7 22 _)) rfl dX7_makes_55 ?_
  refine lv_iconst (v := -1) hx hb dX7_makes_58 (by decide) ?_
  refine g_iast C hM hS rw_32 (rn0 32 (by decide) (by decide)) (mN D 4) (by have q := rticks r; exact q) (by omega) (by decide) dX7_makes_59 (fun H locs hM hS => ?_)
  refine lv_aload_n hx hb dX7_makes_60 rfl (lv_at hl 0 rfl) ?_
  refine g_get C hM clo_7 13 (by decide) r70 t_1311 rfl (v := _) (fv4 rfl) dX7_makes_61 ?_
  refine lv_aload_n hx hb dX7_makes_64 rfl (lv_at hl 0 rfl) ?_
  refine g_get C hM clo_7 22 (by decide) r70 t_1320 rfl (v := .int (mT _ 7 22 _)) rfl dX7_makes_65 ?_
  refine lv_bipush (v := 111) hx hb dX7_makes_68 (by decide) ?_
  refine g_cast C hM hS rw_33 (rn0 33 (by decide) (by decide)) (mN D 4) (by have q := rticks r; exact q) (by omega) (by decide) rfl dX7_makes_70 (fun H locs hM hS => ?_)
  refine lv_aload_n hx hb dX7_makes_71 rfl (lv_at hl 0 rfl) ?_
  refine lv_dup hx hb dX7_makes_72 rfl ?_
  refine g_get C hM clo_7 22 (by decide) r70 t_1320 rfl (v := .int (mT _ 7 22 _)) rfl dX7_makes_73 ?_
  refine lv_iconst (v := 1) hx hb dX7_makes_76 (by decide) ?_
  refine lv_iadd hx hb dX7_makes_77 ?_
  refine g_putI C hM hS clo_7 22 (by decide) rfl r70 rfl rfl rfl rfl dX7_makes_78 (Or.inl t_1320) (fun H locs hM hS => ?_)
  exact g_vret C hr hM hS dX7_makes_81 (by decide) (by decide) ⟨trivial, rfl, rfl, rfl⟩

def jlk (D : Mem) (c : Nat) (y : Int32) (n : Nat) : Bool := decide (cuM D n = c) && decide (mT D 4 2 n = y) && ctM D n
def jlN (D : Mem) (c : Nat) (y : Int32) : Nat → Option Nat
  | 0 => none
  | n + 1 => if jlk D c y n = true then (match jlN D c y n with
    | none => some n
    | some b => if laN D b (mN D 2) < laN D n (mN D 2) then some n else some b) else jlN D c y n
def jnR (D : Mem) (c : Nat) (y z : Int32) : Option Nat := if ¬ z < 0 ∧ cuM D (tkM D (ix z)) = c ∧ ctM D (tkM D (ix z)) = true then some (tkM D (ix z)) else jlN D c y (mN D 4)
theorem jlN_lt {D : Mem} {c : Nat} {y : Int32} : ∀ n, ∀ t, jlN D c y n = some t → t < n
  | 0, t, h => nomatch h
  | n + 1, t, h => by
    unfold jlN at h
    split at h
    · split at h
      · cases h; omega
      · rename_i b hb
        split at h
        · cases h; omega
        · cases h; have := jlN_lt n _ hb; omega
    · have := jlN_lt n t h; omega
theorem jnR_lt {D : Mem} {c : Nat} {y z : Int32} (w : Wf D) (hz : ¬ z < 0 → inN z (mN D 2) = true) : ∀ t, jnR D c y z = some t → t < mN D 4 := by
  intro t h
  unfold jnR at h
  split at h
  · rename_i h0
    cases h
    exact (tkM_eq w (inN_ix (hz h0.1) (by have := wn2 w; omega)).1).2
  · exact jlN_lt _ t h
set_option maxHeartbeats 1500000 in
set_option maxRecDepth 100000 in
theorem m_joined {l : Launch} (hfl : l.stackTraces = false) (Γ : Gm) (K : Nat → Nat → Nat) (M : Mem) (x y z : Int32) (c1 : Nat) (D : Mem) (w : Wf D) (r : RC D M) (hxc : x = nI c1) (hc8 : c1 < 8) (hz : ¬ z < 0 → inN z (mN D 2) = true) : CT l Γ pF yX7_joined (wsO yX7_joined cX7_joined 6 (some .int)) 3 [.ref (K 7 0), .int x, .int y, .int z] K M (DD True (some (.int (oI (jnR D c1 y z)))) K M) xNo 0 0 := by
  refine ct_intro hfl (by decide) (Nat.le_of_ble_eq_true rfl) ?_
  intro p e s m args below meth c C ht hr hnm hM ls hl
  have hx := C.1
  have hb := C.2.1
  have hS : va_S pF s.heap s.heap [] := va_S.rf
  have hl : lv_has ls 6 [(0, .ref (K 7 0)), (1, .int x), (2, .int y), (3, .int z)] := hl
  have r70 := r7 r
  have rn0 := fun k h1 h2 => rn r k h1 h2
  have hb4 := wn4 w
  have hb0 := wn0 w
  have hb2 := wn2 w
  have hb3 := wn3 w
  refine lv_iload_n hx hb dX7_joined_0 rfl (lv_at hl 3 rfl) ?_
  refine lv_if_lt (tgt := 39) hx hb dX7_joined_1 (by decide) (fun c_1 => ?_) (fun c_1 => ?_)
  · skip
    have hj : ¬ (¬ z < 0 ∧ cuM D (tkM D (ix z)) = c1 ∧ ctM D (tkM D (ix z)) = true) := fun q => q.1 c_1
    refine lv_iconst (v := -1) hx hb dX7_joined_39 (by decide) ?_
    refine lv_istore (lv' := [(4, _), (0, _), (1, _), (2, _), (3, _)]) hx hb dX7_joined_40 hl (by decide) rfl (fun ls hl => ?_)
    refine lv_iconst (v := 0) hx hb dX7_joined_42 (by decide) ?_
    refine lv_istore (lv' := [(5, _), (4, _), (0, _), (1, _), (2, _), (3, _)]) hx hb dX7_joined_43 hl (by decide) rfl (fun ls hl => ?_)
    suffices K45 : ∀ (n9 : Nat) (n : Nat), mN D 4 - n < n9 → (n ≤ mN D 4) → ∀ (H : Heap) (locs : List Loc) (ls : Array Slot), HM Γ K M H → va_S pF s.heap H locs → lv_has ls 6 [(0, .ref (K 7 0)), (1, .int x), (2, .int y), (3, .int z), (4, .int (oI (jlN D c1 y n))), (5, .int (nI n))] → W p l e (rmL 3 0 0) s m args below meth c H locs 0 0 (vx_MQ below (cQ Γ pF (DD True (some (.int (oI (jnR D c1 y z)))) K M)) (cX Γ pF K M xNo) args s 0 0 pF) (F0 m 45 ls []) by
      exact K45 _ 0 (Nat.lt_succ_self _) (Nat.zero_le _) _ _ _ hM hS (lv_sub hl [2, 3, 4, 5, 1, 0] rfl)
    intro n9
    induction n9 with
    | zero => intro n h9; exact absurd h9 (Nat.not_lt_zero _)
    | succ n9 ih =>
      intro n h9 hn H locs ls hM hS hl
      refine lv_iload hx hb dX7_joined_45 (lv_at hl 5 rfl) ?_
      refine lv_aload_n hx hb dX7_joined_47 rfl (lv_at hl 0 rfl) ?_
      refine g_get C hM clo_7 22 (by decide) r70 t_1320 rfl (v := .int (mT _ 7 22 _)) rfl dX7_joined_48 ?_
      refine g_icmp_ge (tgt := 118) hx hb dX7_joined_51 (by decide) (fun c_51 => ?_) (fun c_51 => ?_)
      · skip
        refine lv_iload hx hb dX7_joined_118 (lv_at hl 4 rfl) ?_
        exact g_iret C hr hM hS dX7_joined_120 (by decide) (by decide) ⟨trivial, by rw [jnR, if_neg hj, show n = mN D 4 by rw [rticks r] at c_51; have := (not_congr (nI_ltI (a := n) (b := mN D 4) (by omega) (by omega))).mp c_51; omega], rfl, rfl⟩
      · skip
        have h6 : n < mN D 4 := by rw [rticks r] at c_51; exact (nI_ltI (by omega) (by omega)).mp c_51
        have hcn : nI (cuM D n) = x ↔ cuM D n = c1 := by rw [hxc]; exact ⟨fun q => nI_inj (by have := (w.2.2.1 _ h6).2.1; omega) (by omega) q, fun q => by rw [q]⟩
        have hlt := jlN_lt (D := D) (c := c1) (y := y) n
        have hab : ∀ q, jlN D c1 y n = some q → q < 2 ^ 31 := fun q hq => by have := hlt q hq; omega
        refine lv_aload_n hx hb dX7_joined_54 rfl (lv_at hl 0 rfl) ?_
        refine g_get C hM clo_7 4 (by decide) r70 t_1302 rfl (v := _) (fv4 rfl) dX7_joined_55 ?_
        refine lv_iload hx hb dX7_joined_58 (lv_at hl 5 rfl) ?_
        refine g_iald C hM rw_24 (rn0 24 (by decide) (by decide)) n rfl (by omega) (by decide) dX7_joined_60 ?_
        rw [rcust r h6]
        refine lv_iload_n hx hb dX7_joined_61 rfl (lv_at hl 1 rfl) ?_
        refine lv_icmp_ne (tgt := 112) hx hb dX7_joined_62 (by decide) (fun c_62 => ?_) (fun c_62 => ?_)
        · skip
          have hal : jlk D c1 y n = false := by unfold jlk; rw [decide_eq_false (fun q => c_62 (hcn.mpr q))]; rfl --]
          refine lv_iinc (k := 5) (v := nI (n + 1)) (lv' := [(5, _), (0, _), (1, _), (2, _), (3, _), (4, _)]) hx hb dX7_joined_112 hl rfl (nI_1 n) (by decide) rfl (fun ls hl => ?_)
          refine lv_goto (tgt := 45) hx hb dX7_joined_115 (by decide) ?_
          exact ih (n + 1) (by omega) h6 _ _ _ hM hS ((by rw [jlN, hal]; exact lv_sub hl [1, 2, 3, 4, 5, 0] rfl))
        · skip
          refine lv_aload_n hx hb dX7_joined_65 rfl (lv_at hl 0 rfl) ?_
          refine g_get C hM clo_7 5 (by decide) r70 t_1303 rfl (v := _) (fv4 rfl) dX7_joined_66 ?_
          refine lv_iload hx hb dX7_joined_69 (lv_at hl 5 rfl) ?_
          refine g_iald C hM rw_25 (rn0 25 (by decide) (by decide)) n rfl (by omega) (by decide) dX7_joined_71 ?_
          rw [rsubj r h6]
          refine lv_iload_n hx hb dX7_joined_72 rfl (lv_at hl 2 rfl) ?_
          refine lv_icmp_ne (tgt := 112) hx hb dX7_joined_73 (by decide) (fun c_73 => ?_) (fun c_73 => ?_)
          · skip
            have hal : jlk D c1 y n = false := by unfold jlk; rw [decide_eq_false c_73, Bool.and_false]; rfl --]
            refine lv_iinc (k := 5) (v := nI (n + 1)) (lv' := [(5, _), (0, _), (1, _), (2, _), (3, _), (4, _)]) hx hb dX7_joined_112 hl rfl (nI_1 n) (by decide) rfl (fun ls hl => ?_)
            refine lv_goto (tgt := 45) hx hb dX7_joined_115 (by decide) ?_
            exact ih (n + 1) (by omega) h6 _ _ _ hM hS ((by rw [jlN, hal]; exact lv_sub hl [1, 2, 3, 4, 5, 0] rfl))
          · skip
            refine lv_aload_n hx hb dX7_joined_76 rfl (lv_at hl 0 rfl) ?_
            refine lv_iload hx hb dX7_joined_77 (lv_at hl 5 rfl) ?_
            refine g_cV C hS (fun _ h => h.elim) hM hl (fun _ h => h) (m_counts hfl Γ _ _ _ n D w r rfl h6) kX7_counts t_1438 (HM.recv C hM clo_7 r70) dX7_joined_79 rfl rfl (Nat.le_of_ble_eq_true rfl) (by decide) rfl ⟨by decide, by decide⟩ xNo_goes (fun H locs hc_79 hM hS => ?_)
            refine g_ifneB (tgt := 88) hx hb dX7_joined_82 (by decide) (fun c_82 => ?_) (fun c_82 => ?_)
            · skip
              have hal : jlk D c1 y n = true := by unfold jlk; rw [decide_eq_true (hcn.mp c_62), decide_eq_true c_73, c_82]; rfl
              refine lv_iload hx hb dX7_joined_88 (lv_at hl 4 rfl) ?_
              refine lv_if_lt (tgt := 108) hx hb dX7_joined_90 (by decide) (fun c_90 => ?_) (fun c_90 => ?_)
              · skip
                have hno := (oI_neg hab).mp c_90
                refine lv_iload hx hb dX7_joined_108 (lv_at hl 5 rfl) ?_
                refine lv_istore (lv' := [(4, _), (0, _), (1, _), (2, _), (3, _), (5, _)]) hx hb dX7_joined_110 hl (by decide) rfl (fun ls hl => ?_)
                refine lv_iinc (k := 5) (v := nI (n + 1)) (lv' := [(5, _), (4, _), (0, _), (1, _), (2, _), (3, _)]) hx hb dX7_joined_112 hl rfl (nI_1 n) (by decide) rfl (fun ls hl => ?_)
                refine lv_goto (tgt := 45) hx hb dX7_joined_115 (by decide) ?_
                exact ih (n + 1) (by omega) h6 _ _ _ hM hS ((by simp only [jlN, hal, hno, if_true]; exact lv_sub hl [2, 3, 4, 5, 1, 0] rfl))
              · skip
                obtain ⟨b, hbb⟩ : ∃ b, jlN D c1 y n = some b := Option.ne_none_iff_exists'.mp (fun q => c_90 ((oI_neg hab).mpr q))
                have hb5 : b < mN D 4 := by have := hlt b hbb; omega
                refine lv_aload_n hx hb dX7_joined_93 rfl (lv_at hl 0 rfl) ?_
                refine lv_iload hx hb dX7_joined_94 (lv_at hl 5 rfl) ?_
                refine g_cV C hS (fun _ h => h.elim) hM hl (fun _ h => h) (m_latest hfl Γ _ _ _ n D w r rfl h6) kX7_latest t_1446 (HM.recv C hM clo_7 r70) dX7_joined_96 rfl rfl (Nat.le_of_ble_eq_true rfl) (by decide) rfl ⟨by decide, by decide⟩ xNo_goes (fun H locs hc_96 hM hS => ?_)
                refine lv_aload_n hx hb dX7_joined_99 rfl (lv_at hl 0 rfl) ?_
                refine lv_iload hx hb dX7_joined_100 (lv_at hl 4 rfl) ?_
                refine g_cV C hS (fun _ h => h.elim) hM hl (fun _ h => h) (m_latest hfl Γ _ _ _ b D w r (by rw [hbb]; rfl) hb5) kX7_latest t_1446 (HM.recv C hM clo_7 r70) dX7_joined_102 rfl rfl (Nat.le_of_ble_eq_true rfl) (by decide) rfl ⟨by decide, by decide⟩ xNo_goes (fun H locs hc_102 hM hS => ?_)
                refine g_icmp_le (tgt := 112) hx hb dX7_joined_105 (by decide) (fun c_105 => ?_) (fun c_105 => ?_)
                · skip
                  refine lv_iinc (k := 5) (v := nI (n + 1)) (lv' := [(5, _), (0, _), (1, _), (2, _), (3, _), (4, _)]) hx hb dX7_joined_112 hl rfl (nI_1 n) (by decide) rfl (fun ls hl => ?_)
                  refine lv_goto (tgt := 45) hx hb dX7_joined_115 (by decide) ?_
                  exact ih (n + 1) (by omega) h6 _ _ _ hM hS ((by rw [show jlN D c1 y (n + 1) = jlN D c1 y n by simp [jlN, hal, hbb, c_105]]; exact lv_sub hl [1, 2, 3, 4, 5, 0] rfl))
                · skip
                  refine lv_iload hx hb dX7_joined_108 (lv_at hl 5 rfl) ?_
                  refine lv_istore (lv' := [(4, _), (0, _), (1, _), (2, _), (3, _), (5, _)]) hx hb dX7_joined_110 hl (by decide) rfl (fun ls hl => ?_)
                  refine lv_iinc (k := 5) (v := nI (n + 1)) (lv' := [(5, _), (4, _), (0, _), (1, _), (2, _), (3, _)]) hx hb dX7_joined_112 hl rfl (nI_1 n) (by decide) rfl (fun ls hl => ?_)
                  refine lv_goto (tgt := 45) hx hb dX7_joined_115 (by decide) ?_
                  exact ih (n + 1) (by omega) h6 _ _ _ hM hS ((by simp only [jlN, hal, hbb, c_105, if_true]; exact lv_sub hl [2, 3, 4, 5, 1, 0] rfl))
            · skip
              refine lv_goto (tgt := 112) hx hb dX7_joined_85 (by decide) ?_
              have hal : jlk D c1 y n = false := by unfold jlk; rw [c_82, Bool.and_false]
              refine lv_iinc (k := 5) (v := nI (n + 1)) (lv' := [(5, _), (0, _), (1, _), (2, _), (3, _), (4, _)]) hx hb dX7_joined_112 hl rfl (nI_1 n) (by decide) rfl (fun ls hl => ?_)
              refine lv_goto (tgt := 45) hx hb dX7_joined_115 (by decide) ?_
              exact ih (n + 1) (by omega) h6 _ _ _ hM hS ((by rw [jlN, hal]; exact lv_sub hl [1, 2, 3, 4, 5, 0] rfl))
  · skip
    obtain ⟨hz1, hz2⟩ := inN_ix (hz c_1) (by omega)
    have htk := (tkM_eq w hz1).2
    have hcu : nI (cuM D (tkM D (ix z))) = x ↔ cuM D (tkM D (ix z)) = c1 := by rw [hxc]; exact ⟨fun q => nI_inj (by have := (w.2.2.1 _ htk).2.1; omega) (by omega) q, fun q => by rw [q]⟩
    refine lv_aload_n hx hb dX7_joined_4 rfl (lv_at hl 0 rfl) ?_
    refine g_get C hM clo_7 4 (by decide) r70 t_1302 rfl (v := _) (fv4 rfl) dX7_joined_5 ?_
    refine lv_aload_n hx hb dX7_joined_8 rfl (lv_at hl 0 rfl) ?_
    refine g_get C hM clo_7 2 (by decide) r70 t_1300 rfl (v := _) (fv4 rfl) dX7_joined_9 ?_
    refine lv_iload_n hx hb dX7_joined_12 rfl (lv_at hl 3 rfl) ?_
    refine g_iald C hM rw_22 (rn0 22 (by decide) (by decide)) (ix z) hz2 (by omega) (by decide) dX7_joined_13 ?_
    rw [rtkof r hz1]
    refine g_iald C hM rw_24 (rn0 24 (by decide) (by decide)) (tkM D (ix z)) rfl (by omega) (by decide) dX7_joined_14 ?_
    rw [rcust r htk]
    refine lv_iload_n hx hb dX7_joined_15 rfl (lv_at hl 1 rfl) ?_
    refine lv_icmp_ne (tgt := 39) hx hb dX7_joined_16 (by decide) (fun c_16 => ?_) (fun c_16 => ?_)
    · skip
      have hj : ¬ (¬ z < 0 ∧ cuM D (tkM D (ix z)) = c1 ∧ ctM D (tkM D (ix z)) = true) := fun q => c_16 (hcu.mpr q.2.1)
      refine lv_iconst (v := -1) hx hb dX7_joined_39 (by decide) ?_
      refine lv_istore (lv' := [(4, _), (0, _), (1, _), (2, _), (3, _)]) hx hb dX7_joined_40 hl (by decide) rfl (fun ls hl => ?_)
      refine lv_iconst (v := 0) hx hb dX7_joined_42 (by decide) ?_
      refine lv_istore (lv' := [(5, _), (4, _), (0, _), (1, _), (2, _), (3, _)]) hx hb dX7_joined_43 hl (by decide) rfl (fun ls hl => ?_)
      suffices K45 : ∀ (n9 : Nat) (n : Nat), mN D 4 - n < n9 → (n ≤ mN D 4) → ∀ (H : Heap) (locs : List Loc) (ls : Array Slot), HM Γ K M H → va_S pF s.heap H locs → lv_has ls 6 [(0, .ref (K 7 0)), (1, .int x), (2, .int y), (3, .int z), (4, .int (oI (jlN D c1 y n))), (5, .int (nI n))] → W p l e (rmL 3 0 0) s m args below meth c H locs 0 0 (vx_MQ below (cQ Γ pF (DD True (some (.int (oI (jnR D c1 y z)))) K M)) (cX Γ pF K M xNo) args s 0 0 pF) (F0 m 45 ls []) by
        exact K45 _ 0 (Nat.lt_succ_self _) (Nat.zero_le _) _ _ _ hM hS (lv_sub hl [2, 3, 4, 5, 1, 0] rfl)
      intro n9
      induction n9 with
      | zero => intro n h9; exact absurd h9 (Nat.not_lt_zero _)
      | succ n9 ih =>
        intro n h9 hn H locs ls hM hS hl
        refine lv_iload hx hb dX7_joined_45 (lv_at hl 5 rfl) ?_
        refine lv_aload_n hx hb dX7_joined_47 rfl (lv_at hl 0 rfl) ?_
        refine g_get C hM clo_7 22 (by decide) r70 t_1320 rfl (v := .int (mT _ 7 22 _)) rfl dX7_joined_48 ?_
        refine g_icmp_ge (tgt := 118) hx hb dX7_joined_51 (by decide) (fun c_51 => ?_) (fun c_51 => ?_)
        · skip
          refine lv_iload hx hb dX7_joined_118 (lv_at hl 4 rfl) ?_
          exact g_iret C hr hM hS dX7_joined_120 (by decide) (by decide) ⟨trivial, by rw [jnR, if_neg hj, show n = mN D 4 by rw [rticks r] at c_51; have := (not_congr (nI_ltI (a := n) (b := mN D 4) (by omega) (by omega))).mp c_51; omega], rfl, rfl⟩
        · skip
          have h6 : n < mN D 4 := by rw [rticks r] at c_51; exact (nI_ltI (by omega) (by omega)).mp c_51
          have hcn : nI (cuM D n) = x ↔ cuM D n = c1 := by rw [hxc]; exact ⟨fun q => nI_inj (by have := (w.2.2.1 _ h6).2.1; omega) (by omega) q, fun q => by rw [q]⟩
          have hlt := jlN_lt (D := D) (c := c1) (y := y) n
          have hab : ∀ q, jlN D c1 y n = some q → q < 2 ^ 31 := fun q hq => by have := hlt q hq; omega
          refine lv_aload_n hx hb dX7_joined_54 rfl (lv_at hl 0 rfl) ?_
          refine g_get C hM clo_7 4 (by decide) r70 t_1302 rfl (v := _) (fv4 rfl) dX7_joined_55 ?_
          refine lv_iload hx hb dX7_joined_58 (lv_at hl 5 rfl) ?_
          refine g_iald C hM rw_24 (rn0 24 (by decide) (by decide)) n rfl (by omega) (by decide) dX7_joined_60 ?_
          rw [rcust r h6]
          refine lv_iload_n hx hb dX7_joined_61 rfl (lv_at hl 1 rfl) ?_
          refine lv_icmp_ne (tgt := 112) hx hb dX7_joined_62 (by decide) (fun c_62 => ?_) (fun c_62 => ?_)
          · skip
            have hal : jlk D c1 y n = false := by unfold jlk; rw [decide_eq_false (fun q => c_62 (hcn.mpr q))]; rfl --]
            refine lv_iinc (k := 5) (v := nI (n + 1)) (lv' := [(5, _), (0, _), (1, _), (2, _), (3, _), (4, _)]) hx hb dX7_joined_112 hl rfl (nI_1 n) (by decide) rfl (fun ls hl => ?_)
            refine lv_goto (tgt := 45) hx hb dX7_joined_115 (by decide) ?_
            exact ih (n + 1) (by omega) h6 _ _ _ hM hS ((by rw [jlN, hal]; exact lv_sub hl [1, 2, 3, 4, 5, 0] rfl))
          · skip
            refine lv_aload_n hx hb dX7_joined_65 rfl (lv_at hl 0 rfl) ?_
            refine g_get C hM clo_7 5 (by decide) r70 t_1303 rfl (v := _) (fv4 rfl) dX7_joined_66 ?_
            refine lv_iload hx hb dX7_joined_69 (lv_at hl 5 rfl) ?_
            refine g_iald C hM rw_25 (rn0 25 (by decide) (by decide)) n rfl (by omega) (by decide) dX7_joined_71 ?_
            rw [rsubj r h6]
            refine lv_iload_n hx hb dX7_joined_72 rfl (lv_at hl 2 rfl) ?_
            refine lv_icmp_ne (tgt := 112) hx hb dX7_joined_73 (by decide) (fun c_73 => ?_) (fun c_73 => ?_)
            · skip
              have hal : jlk D c1 y n = false := by unfold jlk; rw [decide_eq_false c_73, Bool.and_false]; rfl --]
              refine lv_iinc (k := 5) (v := nI (n + 1)) (lv' := [(5, _), (0, _), (1, _), (2, _), (3, _), (4, _)]) hx hb dX7_joined_112 hl rfl (nI_1 n) (by decide) rfl (fun ls hl => ?_)
              refine lv_goto (tgt := 45) hx hb dX7_joined_115 (by decide) ?_
              exact ih (n + 1) (by omega) h6 _ _ _ hM hS ((by rw [jlN, hal]; exact lv_sub hl [1, 2, 3, 4, 5, 0] rfl))
            · skip
              refine lv_aload_n hx hb dX7_joined_76 rfl (lv_at hl 0 rfl) ?_
              refine lv_iload hx hb dX7_joined_77 (lv_at hl 5 rfl) ?_
              refine g_cV C hS (fun _ h => h.elim) hM hl (fun _ h => h) (m_counts hfl Γ _ _ _ n D w r rfl h6) kX7_counts t_1438 (HM.recv C hM clo_7 r70) dX7_joined_79 rfl rfl (Nat.le_of_ble_eq_true rfl) (by decide) rfl ⟨by decide, by decide⟩ xNo_goes (fun H locs hc_79 hM hS => ?_)
              refine g_ifneB (tgt := 88) hx hb dX7_joined_82 (by decide) (fun c_82 => ?_) (fun c_82 => ?_)
              · skip
                have hal : jlk D c1 y n = true := by unfold jlk; rw [decide_eq_true (hcn.mp c_62), decide_eq_true c_73, c_82]; rfl
                refine lv_iload hx hb dX7_joined_88 (lv_at hl 4 rfl) ?_
                refine lv_if_lt (tgt := 108) hx hb dX7_joined_90 (by decide) (fun c_90 => ?_) (fun c_90 => ?_)
                · skip
                  have hno := (oI_neg hab).mp c_90
                  refine lv_iload hx hb dX7_joined_108 (lv_at hl 5 rfl) ?_
                  refine lv_istore (lv' := [(4, _), (0, _), (1, _), (2, _), (3, _), (5, _)]) hx hb dX7_joined_110 hl (by decide) rfl (fun ls hl => ?_)
                  refine lv_iinc (k := 5) (v := nI (n + 1)) (lv' := [(5, _), (4, _), (0, _), (1, _), (2, _), (3, _)]) hx hb dX7_joined_112 hl rfl (nI_1 n) (by decide) rfl (fun ls hl => ?_)
                  refine lv_goto (tgt := 45) hx hb dX7_joined_115 (by decide) ?_
                  exact ih (n + 1) (by omega) h6 _ _ _ hM hS ((by simp only [jlN, hal, hno, if_true]; exact lv_sub hl [2, 3, 4, 5, 1, 0] rfl))
                · skip
                  obtain ⟨b, hbb⟩ : ∃ b, jlN D c1 y n = some b := Option.ne_none_iff_exists'.mp (fun q => c_90 ((oI_neg hab).mpr q))
                  have hb5 : b < mN D 4 := by have := hlt b hbb; omega
                  refine lv_aload_n hx hb dX7_joined_93 rfl (lv_at hl 0 rfl) ?_
                  refine lv_iload hx hb dX7_joined_94 (lv_at hl 5 rfl) ?_
                  refine g_cV C hS (fun _ h => h.elim) hM hl (fun _ h => h) (m_latest hfl Γ _ _ _ n D w r rfl h6) kX7_latest t_1446 (HM.recv C hM clo_7 r70) dX7_joined_96 rfl rfl (Nat.le_of_ble_eq_true rfl) (by decide) rfl ⟨by decide, by decide⟩ xNo_goes (fun H locs hc_96 hM hS => ?_)
                  refine lv_aload_n hx hb dX7_joined_99 rfl (lv_at hl 0 rfl) ?_
                  refine lv_iload hx hb dX7_joined_100 (lv_at hl 4 rfl) ?_
                  refine g_cV C hS (fun _ h => h.elim) hM hl (fun _ h => h) (m_latest hfl Γ _ _ _ b D w r (by rw [hbb]; rfl) hb5) kX7_latest t_1446 (HM.recv C hM clo_7 r70) dX7_joined_102 rfl rfl (Nat.le_of_ble_eq_true rfl) (by decide) rfl ⟨by decide, by decide⟩ xNo_goes (fun H locs hc_102 hM hS => ?_)
                  refine g_icmp_le (tgt := 112) hx hb dX7_joined_105 (by decide) (fun c_105 => ?_) (fun c_105 => ?_)
                  · skip
                    refine lv_iinc (k := 5) (v := nI (n + 1)) (lv' := [(5, _), (0, _), (1, _), (2, _), (3, _), (4, _)]) hx hb dX7_joined_112 hl rfl (nI_1 n) (by decide) rfl (fun ls hl => ?_)
                    refine lv_goto (tgt := 45) hx hb dX7_joined_115 (by decide) ?_
                    exact ih (n + 1) (by omega) h6 _ _ _ hM hS ((by rw [show jlN D c1 y (n + 1) = jlN D c1 y n by simp [jlN, hal, hbb, c_105]]; exact lv_sub hl [1, 2, 3, 4, 5, 0] rfl))
                  · skip
                    refine lv_iload hx hb dX7_joined_108 (lv_at hl 5 rfl) ?_
                    refine lv_istore (lv' := [(4, _), (0, _), (1, _), (2, _), (3, _), (5, _)]) hx hb dX7_joined_110 hl (by decide) rfl (fun ls hl => ?_)
                    refine lv_iinc (k := 5) (v := nI (n + 1)) (lv' := [(5, _), (4, _), (0, _), (1, _), (2, _), (3, _)]) hx hb dX7_joined_112 hl rfl (nI_1 n) (by decide) rfl (fun ls hl => ?_)
                    refine lv_goto (tgt := 45) hx hb dX7_joined_115 (by decide) ?_
                    exact ih (n + 1) (by omega) h6 _ _ _ hM hS ((by simp only [jlN, hal, hbb, c_105, if_true]; exact lv_sub hl [2, 3, 4, 5, 1, 0] rfl))
              · skip
                refine lv_goto (tgt := 112) hx hb dX7_joined_85 (by decide) ?_
                have hal : jlk D c1 y n = false := by unfold jlk; rw [c_82, Bool.and_false]
                refine lv_iinc (k := 5) (v := nI (n + 1)) (lv' := [(5, _), (0, _), (1, _), (2, _), (3, _), (4, _)]) hx hb dX7_joined_112 hl rfl (nI_1 n) (by decide) rfl (fun ls hl => ?_)
                refine lv_goto (tgt := 45) hx hb dX7_joined_115 (by decide) ?_
                exact ih (n + 1) (by omega) h6 _ _ _ hM hS ((by rw [jlN, hal]; exact lv_sub hl [1, 2, 3, 4, 5, 0] rfl))
    · skip
      refine lv_aload_n hx hb dX7_joined_19 rfl (lv_at hl 0 rfl) ?_
      refine lv_aload_n hx hb dX7_joined_20 rfl (lv_at hl 0 rfl) ?_
      refine g_get C hM clo_7 2 (by decide) r70 t_1300 rfl (v := _) (fv4 rfl) dX7_joined_21 ?_
      refine lv_iload_n hx hb dX7_joined_24 rfl (lv_at hl 3 rfl) ?_
      refine g_iald C hM rw_22 (rn0 22 (by decide) (by decide)) (ix z) hz2 (by omega) (by decide) dX7_joined_25 ?_
      rw [rtkof r hz1]
      refine g_cV C hS (fun _ h => h.elim) hM hl (fun _ h => h) (m_counts hfl Γ _ _ _ (tkM D (ix z)) D w r rfl htk) kX7_counts t_1438 (HM.recv C hM clo_7 r70) dX7_joined_26 rfl rfl (Nat.le_of_ble_eq_true rfl) (by decide) rfl ⟨by decide, by decide⟩ xNo_goes (fun H locs hc_26 hM hS => ?_)
      refine g_ifeqB (tgt := 39) hx hb dX7_joined_29 (by decide) (fun c_29 => ?_) (fun c_29 => ?_)
      · skip
        have hj : ¬ (¬ z < 0 ∧ cuM D (tkM D (ix z)) = c1 ∧ ctM D (tkM D (ix z)) = true) := fun q => by rw [c_29] at q; cases q.2.2
        refine lv_iconst (v := -1) hx hb dX7_joined_39 (by decide) ?_
        refine lv_istore (lv' := [(4, _), (0, _), (1, _), (2, _), (3, _)]) hx hb dX7_joined_40 hl (by decide) rfl (fun ls hl => ?_)
        refine lv_iconst (v := 0) hx hb dX7_joined_42 (by decide) ?_
        refine lv_istore (lv' := [(5, _), (4, _), (0, _), (1, _), (2, _), (3, _)]) hx hb dX7_joined_43 hl (by decide) rfl (fun ls hl => ?_)
        suffices K45 : ∀ (n9 : Nat) (n : Nat), mN D 4 - n < n9 → (n ≤ mN D 4) → ∀ (H : Heap) (locs : List Loc) (ls : Array Slot), HM Γ K M H → va_S pF s.heap H locs → lv_has ls 6 [(0, .ref (K 7 0)), (1, .int x), (2, .int y), (3, .int z), (4, .int (oI (jlN D c1 y n))), (5, .int (nI n))] → W p l e (rmL 3 0 0) s m args below meth c H locs 0 0 (vx_MQ below (cQ Γ pF (DD True (some (.int (oI (jnR D c1 y z)))) K M)) (cX Γ pF K M xNo) args s 0 0 pF) (F0 m 45 ls []) by
          exact K45 _ 0 (Nat.lt_succ_self _) (Nat.zero_le _) _ _ _ hM hS (lv_sub hl [2, 3, 4, 5, 1, 0] rfl)
        intro n9
        induction n9 with
        | zero => intro n h9; exact absurd h9 (Nat.not_lt_zero _)
        | succ n9 ih =>
          intro n h9 hn H locs ls hM hS hl
          refine lv_iload hx hb dX7_joined_45 (lv_at hl 5 rfl) ?_
          refine lv_aload_n hx hb dX7_joined_47 rfl (lv_at hl 0 rfl) ?_
          refine g_get C hM clo_7 22 (by decide) r70 t_1320 rfl (v := .int (mT _ 7 22 _)) rfl dX7_joined_48 ?_
          refine g_icmp_ge (tgt := 118) hx hb dX7_joined_51 (by decide) (fun c_51 => ?_) (fun c_51 => ?_)
          · skip
            refine lv_iload hx hb dX7_joined_118 (lv_at hl 4 rfl) ?_
            exact g_iret C hr hM hS dX7_joined_120 (by decide) (by decide) ⟨trivial, by rw [jnR, if_neg hj, show n = mN D 4 by rw [rticks r] at c_51; have := (not_congr (nI_ltI (a := n) (b := mN D 4) (by omega) (by omega))).mp c_51; omega], rfl, rfl⟩
          · skip
            have h6 : n < mN D 4 := by rw [rticks r] at c_51; exact (nI_ltI (by omega) (by omega)).mp c_51
            have hcn : nI (cuM D n) = x ↔ cuM D n = c1 := by rw [hxc]; exact ⟨fun q => nI_inj (by have := (w.2.2.1 _ h6).2.1; omega) (by omega) q, fun q => by rw [q]⟩
            have hlt := jlN_lt (D := D) (c := c1) (y := y) n
            have hab : ∀ q, jlN D c1 y n = some q → q < 2 ^ 31 := fun q hq => by have := hlt q hq; omega
            refine lv_aload_n hx hb dX7_joined_54 rfl (lv_at hl 0 rfl) ?_
            refine g_get C hM clo_7 4 (by decide) r70 t_1302 rfl (v := _) (fv4 rfl) dX7_joined_55 ?_
            refine lv_iload hx hb dX7_joined_58 (lv_at hl 5 rfl) ?_
            refine g_iald C hM rw_24 (rn0 24 (by decide) (by decide)) n rfl (by omega) (by decide) dX7_joined_60 ?_
            rw [rcust r h6]
            refine lv_iload_n hx hb dX7_joined_61 rfl (lv_at hl 1 rfl) ?_
            refine lv_icmp_ne (tgt := 112) hx hb dX7_joined_62 (by decide) (fun c_62 => ?_) (fun c_62 => ?_)
            · skip
              have hal : jlk D c1 y n = false := by unfold jlk; rw [decide_eq_false (fun q => c_62 (hcn.mpr q))]; rfl --]
              refine lv_iinc (k := 5) (v := nI (n + 1)) (lv' := [(5, _), (0, _), (1, _), (2, _), (3, _), (4, _)]) hx hb dX7_joined_112 hl rfl (nI_1 n) (by decide) rfl (fun ls hl => ?_)
              refine lv_goto (tgt := 45) hx hb dX7_joined_115 (by decide) ?_
              exact ih (n + 1) (by omega) h6 _ _ _ hM hS ((by rw [jlN, hal]; exact lv_sub hl [1, 2, 3, 4, 5, 0] rfl))
            · skip
              refine lv_aload_n hx hb dX7_joined_65 rfl (lv_at hl 0 rfl) ?_
              refine g_get C hM clo_7 5 (by decide) r70 t_1303 rfl (v := _) (fv4 rfl) dX7_joined_66 ?_
              refine lv_iload hx hb dX7_joined_69 (lv_at hl 5 rfl) ?_
              refine g_iald C hM rw_25 (rn0 25 (by decide) (by decide)) n rfl (by omega) (by decide) dX7_joined_71 ?_
              rw [rsubj r h6]
              refine lv_iload_n hx hb dX7_joined_72 rfl (lv_at hl 2 rfl) ?_
              refine lv_icmp_ne (tgt := 112) hx hb dX7_joined_73 (by decide) (fun c_73 => ?_) (fun c_73 => ?_)
              · skip
                have hal : jlk D c1 y n = false := by unfold jlk; rw [decide_eq_false c_73, Bool.and_false]; rfl --]
                refine lv_iinc (k := 5) (v := nI (n + 1)) (lv' := [(5, _), (0, _), (1, _), (2, _), (3, _), (4, _)]) hx hb dX7_joined_112 hl rfl (nI_1 n) (by decide) rfl (fun ls hl => ?_)
                refine lv_goto (tgt := 45) hx hb dX7_joined_115 (by decide) ?_
                exact ih (n + 1) (by omega) h6 _ _ _ hM hS ((by rw [jlN, hal]; exact lv_sub hl [1, 2, 3, 4, 5, 0] rfl))
              · skip
                refine lv_aload_n hx hb dX7_joined_76 rfl (lv_at hl 0 rfl) ?_
                refine lv_iload hx hb dX7_joined_77 (lv_at hl 5 rfl) ?_
                refine g_cV C hS (fun _ h => h.elim) hM hl (fun _ h => h) (m_counts hfl Γ _ _ _ n D w r rfl h6) kX7_counts t_1438 (HM.recv C hM clo_7 r70) dX7_joined_79 rfl rfl (Nat.le_of_ble_eq_true rfl) (by decide) rfl ⟨by decide, by decide⟩ xNo_goes (fun H locs hc_79 hM hS => ?_)
                refine g_ifneB (tgt := 88) hx hb dX7_joined_82 (by decide) (fun c_82 => ?_) (fun c_82 => ?_)
                · skip
                  have hal : jlk D c1 y n = true := by unfold jlk; rw [decide_eq_true (hcn.mp c_62), decide_eq_true c_73, c_82]; rfl
                  refine lv_iload hx hb dX7_joined_88 (lv_at hl 4 rfl) ?_
                  refine lv_if_lt (tgt := 108) hx hb dX7_joined_90 (by decide) (fun c_90 => ?_) (fun c_90 => ?_)
                  · skip
                    have hno := (oI_neg hab).mp c_90
                    refine lv_iload hx hb dX7_joined_108 (lv_at hl 5 rfl) ?_
                    refine lv_istore (lv' := [(4, _), (0, _), (1, _), (2, _), (3, _), (5, _)]) hx hb dX7_joined_110 hl (by decide) rfl (fun ls hl => ?_)
                    refine lv_iinc (k := 5) (v := nI (n + 1)) (lv' := [(5, _), (4, _), (0, _), (1, _), (2, _), (3, _)]) hx hb dX7_joined_112 hl rfl (nI_1 n) (by decide) rfl (fun ls hl => ?_)
                    refine lv_goto (tgt := 45) hx hb dX7_joined_115 (by decide) ?_
                    exact ih (n + 1) (by omega) h6 _ _ _ hM hS ((by simp only [jlN, hal, hno, if_true]; exact lv_sub hl [2, 3, 4, 5, 1, 0] rfl))
                  · skip
                    obtain ⟨b, hbb⟩ : ∃ b, jlN D c1 y n = some b := Option.ne_none_iff_exists'.mp (fun q => c_90 ((oI_neg hab).mpr q))
                    have hb5 : b < mN D 4 := by have := hlt b hbb; omega
                    refine lv_aload_n hx hb dX7_joined_93 rfl (lv_at hl 0 rfl) ?_
                    refine lv_iload hx hb dX7_joined_94 (lv_at hl 5 rfl) ?_
                    refine g_cV C hS (fun _ h => h.elim) hM hl (fun _ h => h) (m_latest hfl Γ _ _ _ n D w r rfl h6) kX7_latest t_1446 (HM.recv C hM clo_7 r70) dX7_joined_96 rfl rfl (Nat.le_of_ble_eq_true rfl) (by decide) rfl ⟨by decide, by decide⟩ xNo_goes (fun H locs hc_96 hM hS => ?_)
                    refine lv_aload_n hx hb dX7_joined_99 rfl (lv_at hl 0 rfl) ?_
                    refine lv_iload hx hb dX7_joined_100 (lv_at hl 4 rfl) ?_
                    refine g_cV C hS (fun _ h => h.elim) hM hl (fun _ h => h) (m_latest hfl Γ _ _ _ b D w r (by rw [hbb]; rfl) hb5) kX7_latest t_1446 (HM.recv C hM clo_7 r70) dX7_joined_102 rfl rfl (Nat.le_of_ble_eq_true rfl) (by decide) rfl ⟨by decide, by decide⟩ xNo_goes (fun H locs hc_102 hM hS => ?_)
                    refine g_icmp_le (tgt := 112) hx hb dX7_joined_105 (by decide) (fun c_105 => ?_) (fun c_105 => ?_)
                    · skip
                      refine lv_iinc (k := 5) (v := nI (n + 1)) (lv' := [(5, _), (0, _), (1, _), (2, _), (3, _), (4, _)]) hx hb dX7_joined_112 hl rfl (nI_1 n) (by decide) rfl (fun ls hl => ?_)
                      refine lv_goto (tgt := 45) hx hb dX7_joined_115 (by decide) ?_
                      exact ih (n + 1) (by omega) h6 _ _ _ hM hS ((by rw [show jlN D c1 y (n + 1) = jlN D c1 y n by simp [jlN, hal, hbb, c_105]]; exact lv_sub hl [1, 2, 3, 4, 5, 0] rfl))
                    · skip
                      refine lv_iload hx hb dX7_joined_108 (lv_at hl 5 rfl) ?_
                      refine lv_istore (lv' := [(4, _), (0, _), (1, _), (2, _), (3, _), (5, _)]) hx hb dX7_joined_110 hl (by decide) rfl (fun ls hl => ?_)
                      refine lv_iinc (k := 5) (v := nI (n + 1)) (lv' := [(5, _), (4, _), (0, _), (1, _), (2, _), (3, _)]) hx hb dX7_joined_112 hl rfl (nI_1 n) (by decide) rfl (fun ls hl => ?_)
                      refine lv_goto (tgt := 45) hx hb dX7_joined_115 (by decide) ?_
                      exact ih (n + 1) (by omega) h6 _ _ _ hM hS ((by simp only [jlN, hal, hbb, c_105, if_true]; exact lv_sub hl [2, 3, 4, 5, 1, 0] rfl))
                · skip
                  refine lv_goto (tgt := 112) hx hb dX7_joined_85 (by decide) ?_
                  have hal : jlk D c1 y n = false := by unfold jlk; rw [c_82, Bool.and_false]
                  refine lv_iinc (k := 5) (v := nI (n + 1)) (lv' := [(5, _), (0, _), (1, _), (2, _), (3, _), (4, _)]) hx hb dX7_joined_112 hl rfl (nI_1 n) (by decide) rfl (fun ls hl => ?_)
                  refine lv_goto (tgt := 45) hx hb dX7_joined_115 (by decide) ?_
                  exact ih (n + 1) (by omega) h6 _ _ _ hM hS ((by rw [jlN, hal]; exact lv_sub hl [1, 2, 3, 4, 5, 0] rfl))
      · skip
        refine lv_aload_n hx hb dX7_joined_32 rfl (lv_at hl 0 rfl) ?_
        refine g_get C hM clo_7 2 (by decide) r70 t_1300 rfl (v := _) (fv4 rfl) dX7_joined_33 ?_
        refine lv_iload_n hx hb dX7_joined_36 rfl (lv_at hl 3 rfl) ?_
        refine g_iald C hM rw_22 (rn0 22 (by decide) (by decide)) (ix z) hz2 (by omega) (by decide) dX7_joined_37 ?_
        rw [rtkof r hz1]
        exact g_iret C hr hM hS dX7_joined_38 (by decide) (by decide) ⟨trivial, by rw [jnR, if_pos ⟨c_1, hcu.mp c_16, c_29⟩]; rfl, rfl, rfl⟩

