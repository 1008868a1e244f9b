def rAddAgentM (D : Mem) (x : Int32) : Nat := if inB x 0 63 = true then (if mN D 0 = 6 then 2 else 0) else 1
set_option maxHeartbeats 1500000 in
set_option maxRecDepth 100000 in
theorem m_addAgent {l : Launch} (hfl : l.stackTraces = false) (Γ : Gm) (K : Nat → Nat → Nat) (M : Mem) (x : Int32) (D : Mem) (w : Wf D) (r : RC D M) : CT l Γ (gFree Γ) yX7_addAgent (wsO yX7_addAgent cX7_addAgent 2 (some .int)) 6 [.ref (K 7 0), .int x] K M (DD True (some (.int (if rAddAgentM D x = 0 then nI (mN D 0) + 1 - 1 else 0))) K (if rAddAgentM D x = 0 then sT (sT (sT M 7 19 0 0) 36 (mN D 0) 0 x) 7 23 0 (nI (mN D 0) + 1) else sT M 7 19 0 (thI (rAddAgentM D x)))) xNo 0 0 := by
  refine ct_intro hfl (by decide) (Nat.le_of_ble_eq_true rfl) ?_
  intro p e s m args below meth c C ht hr hnm hM ls hl
  have hx := C.1
  have hb := C.2.1
  have hS : va_S (gFree Γ) s.heap s.heap [] := va_S.rf
  have hl : lv_has ls 2 [(0, .ref (K 7 0)), (1, .int x)] := hl
  have r70 := r7 r
  have rn0 := fun k h1 h2 => rn r k h1 h2
  have hb4 := wn4 w
  have hb0 := wn0 w
  have hb2 := wn2 w
  have hb3 := wn3 w
  have h6e : nI (mN D 0) = 6 ↔ mN D 0 = 6 := ⟨fun z => nI_inj (b := 6) (by omega) (by omega) z, fun z => by rw [z]; rfl⟩
  refine lv_aload_n hx hb dX7_addAgent_0 rfl (lv_at hl 0 rfl) ?_
  refine lv_iload_n hx hb dX7_addAgent_1 rfl (lv_at hl 1 rfl) ?_
  refine lv_iconst (v := 0) hx hb dX7_addAgent_2 (by decide) ?_
  refine lv_bipush (v := 63) hx hb dX7_addAgent_3 (by decide) ?_
  refine g_cS C hS (fun _ h => h) hM hl (fun _ h => h.elim) (m_in hfl Γ _ _ _ _ _) kX7_in t_1399 dX7_addAgent_5 rfl rfl (Nat.le_of_ble_eq_true rfl) (by decide) rfl ⟨by decide, by decide⟩ xNo_goes (fun H locs hc_5 hM hS => ?_)
  refine g_ifneB (tgt := 15) hx hb dX7_addAgent_8 (by decide) (fun c_8 => ?_) (fun c_8 => ?_)
  · skip
    refine lv_aload_n hx hb dX7_addAgent_15 rfl (lv_at hl 0 rfl) ?_
    refine g_get C hM clo_7 23 (by decide) r70 t_1321 rfl (v := .int (mT _ 7 23 _)) rfl dX7_addAgent_16 ?_
    rw [ragts r]
    refine lv_bipush (v := 6) hx hb dX7_addAgent_19 (by decide) ?_
    refine lv_icmp_ne (tgt := 28) hx hb dX7_addAgent_21 (by decide) (fun c_21 => ?_) (fun c_21 => ?_)
    · skip
      have hno : ¬ mN D 0 = 6 := fun z => c_21 (h6e.mpr z)
      refine lv_iconst (v := 0) hx hb dX7_addAgent_28 (by decide) ?_
      refine g_putI C hM hS clo_7 19 (by decide) rfl r70 rfl rfl rfl rfl dX7_addAgent_29 (Or.inl t_1317) (fun H locs hM hS => ?_)
      refine lv_aload_n hx hb dX7_addAgent_32 rfl (lv_at hl 0 rfl) ?_
      refine g_get C hM clo_7 19 (by decide) r70 t_1317 rfl (v := .int (mT _ 7 19 _)) rfl dX7_addAgent_33 ?_
      refine g_if_le (tgt := 41) hx hb dX7_addAgent_36 (by decide) (fun c_36 => ?_) (fun c_36 => ?_)
      · skip
        replace r : RC D (sT M 7 19 0 0) := r
        refine lv_aload_n hx hb dX7_addAgent_41 rfl (lv_at hl 0 rfl) ?_
        refine g_get C hM clo_7 16 (by decide) r70 t_1314 rfl (v := _) (fv4 rfl) dX7_addAgent_42 ?_
        refine lv_aload_n hx hb dX7_addAgent_45 rfl (lv_at hl 0 rfl) ?_
        refine g_get C hM clo_7 23 (by decide) r70 t_1321 rfl (v := .int (mT _ 7 23 _)) rfl dX7_addAgent_46 ?_
        rw [ragts r]
        refine lv_iload_n hx hb dX7_addAgent_49 rfl (lv_at hl 1 rfl) ?_
        refine g_iast C hM hS rw_36 (rn0 36 (by decide) (by decide)) (mN D 0) rfl (by omega) (by decide) dX7_addAgent_50 (fun H locs hM hS => ?_)
        refine lv_aload_n hx hb dX7_addAgent_51 rfl (lv_at hl 0 rfl) ?_
        refine lv_dup hx hb dX7_addAgent_52 rfl ?_
        refine g_get C hM clo_7 23 (by decide) r70 t_1321 rfl (v := .int (mT _ 7 23 _)) rfl dX7_addAgent_53 ?_
        rw [show mT (sT (sT M 7 19 0 0) 36 (mN D 0) 0 x) 7 23 0 = nI (mN D 0) from by have q := ragts r; exact q]
        refine lv_iconst (v := 1) hx hb dX7_addAgent_56 (by decide) ?_
        refine lv_iadd hx hb dX7_addAgent_57 ?_
        refine g_putI C hM hS clo_7 23 (by decide) rfl r70 rfl rfl rfl rfl dX7_addAgent_58 (Or.inl t_1321) (fun H locs hM hS => ?_)
        refine lv_aload_n hx hb dX7_addAgent_61 rfl (lv_at hl 0 rfl) ?_
        refine g_get C hM clo_7 23 (by decide) r70 t_1321 rfl (v := .int (mT _ 7 23 _)) rfl dX7_addAgent_62 ?_
        rw [show mT (sT (sT (sT M 7 19 0 0) 36 (mN D 0) 0 x) 7 23 0 (nI (mN D 0) + 1)) 7 23 0 = nI (mN D 0) + 1 by rw [mT_sT, if_pos ⟨rfl, rfl, rfl⟩]]
        refine lv_iconst (v := 1) hx hb dX7_addAgent_65 (by decide) ?_
        refine lv_isub hx hb dX7_addAgent_66 ?_
        exact g_iret C hr hM hS dX7_addAgent_67 (by decide) (by decide) ⟨trivial, by simp [rAddAgentM, c_8, hno], rfl, by simp [rAddAgentM, thI, c_8, hno]⟩
      · exact absurd (show (0 : Int32) < 0 from c_36) (by decide)
    · skip
      have hno := h6e.mp c_21
      refine lv_iconst (v := 2) hx hb dX7_addAgent_24 (by decide) ?_
      refine lv_goto (tgt := 29) hx hb dX7_addAgent_25 (by decide) ?_
      refine g_putI C hM hS clo_7 19 (by decide) rfl r70 rfl rfl rfl rfl dX7_addAgent_29 (Or.inl t_1317) (fun H locs hM hS => ?_)
      refine lv_aload_n hx hb dX7_addAgent_32 rfl (lv_at hl 0 rfl) ?_
      refine g_get C hM clo_7 19 (by decide) r70 t_1317 rfl (v := .int (mT _ 7 19 _)) rfl dX7_addAgent_33 ?_
      refine g_if_le (tgt := 41) hx hb dX7_addAgent_36 (by decide) (fun c_36 => ?_) (fun c_36 => ?_)
      · exact absurd (show ¬ (0 : Int32) < 2 from c_36) (by decide)
      · skip
        refine lv_iconst (v := 0) hx hb dX7_addAgent_39 (by decide) ?_
        exact g_iret C hr hM hS dX7_addAgent_40 (by decide) (by decide) ⟨trivial, by simp [rAddAgentM, c_8, hno], rfl, by simp [rAddAgentM, thI, c_8, hno]⟩
  · skip
    refine lv_iconst (v := 1) hx hb dX7_addAgent_11 (by decide) ?_
    refine lv_goto (tgt := 29) hx hb dX7_addAgent_12 (by decide) ?_
    refine g_putI C hM hS clo_7 19 (by decide) rfl r70 rfl rfl rfl rfl dX7_addAgent_29 (Or.inl t_1317) (fun H locs hM hS => ?_)
    refine lv_aload_n hx hb dX7_addAgent_32 rfl (lv_at hl 0 rfl) ?_
    refine g_get C hM clo_7 19 (by decide) r70 t_1317 rfl (v := .int (mT _ 7 19 _)) rfl dX7_addAgent_33 ?_
    refine g_if_le (tgt := 41) hx hb dX7_addAgent_36 (by decide) (fun c_36 => ?_) (fun c_36 => ?_)
    · exact absurd (show ¬ (0 : Int32) < 1 from c_36) (by decide)
    · skip
      refine lv_iconst (v := 0) hx hb dX7_addAgent_39 (by decide) ?_
      exact g_iret C hr hM hS dX7_addAgent_40 (by decide) (by decide) ⟨trivial, by simp [rAddAgentM, c_8], rfl, by simp [rAddAgentM, thI, c_8]⟩

def rAddAnswerM (D : Mem) (x : Int32) : Nat := if inB x 0 1023 = true then (if mN D 3 = 8 then 2 else 0) else 1
set_option maxHeartbeats 1500000 in
set_option maxRecDepth 100000 in
theorem m_addAnswer {l : Launch} (hfl : l.stackTraces = false) (Γ : Gm) (K : Nat → Nat → Nat) (M : Mem) (x : Int32) (D : Mem) (w : Wf D) (r : RC D M) : CT l Γ (gFree Γ) yX7_addAnswer (wsO yX7_addAnswer cX7_addAnswer 2 (some .int)) 6 [.ref (K 7 0), .int x] K M (DD True (some (.int (if rAddAnswerM D x = 0 then nI (mN D 3) + 1 - 1 else 0))) K (if rAddAnswerM D x = 0 then sT (sT (sT M 7 19 0 0) 37 (mN D 3) 0 x) 7 24 0 (nI (mN D 3) + 1) else sT M 7 19 0 (thI (rAddAnswerM D x)))) xNo 0 0 := by
  refine ct_intro hfl (by decide) (Nat.le_of_ble_eq_true rfl) ?_
  intro p e s m args below meth c C ht hr hnm hM ls hl
  have hx := C.1
  have hb := C.2.1
  have hS : va_S (gFree Γ) s.heap s.heap [] := va_S.rf
  have hl : lv_has ls 2 [(0, .ref (K 7 0)), (1, .int x)] := hl
  have r70 := r7 r
  have rn0 := fun k h1 h2 => rn r k h1 h2
  have hb4 := wn4 w
  have hb0 := wn0 w
  have hb2 := wn2 w
  have hb3 := wn3 w
  have h6e : nI (mN D 3) = 8 ↔ mN D 3 = 8 := ⟨fun z => nI_inj (b := 8) (by omega) (by omega) z, fun z => by rw [z]; rfl⟩
  refine lv_aload_n hx hb dX7_addAnswer_0 rfl (lv_at hl 0 rfl) ?_
  refine lv_iload_n hx hb dX7_addAnswer_1 rfl (lv_at hl 1 rfl) ?_
  refine lv_iconst (v := 0) hx hb dX7_addAnswer_2 (by decide) ?_
  refine lv_sipush (v := 1023) hx hb dX7_addAnswer_3 (by decide) ?_
  refine g_cS C hS (fun _ h => h) hM hl (fun _ h => h.elim) (m_in hfl Γ _ _ _ _ _) kX7_in t_1399 dX7_addAnswer_6 rfl rfl (Nat.le_of_ble_eq_true rfl) (by decide) rfl ⟨by decide, by decide⟩ xNo_goes (fun H locs hc_6 hM hS => ?_)
  refine g_ifneB (tgt := 16) hx hb dX7_addAnswer_9 (by decide) (fun c_9 => ?_) (fun c_9 => ?_)
  · skip
    refine lv_aload_n hx hb dX7_addAnswer_16 rfl (lv_at hl 0 rfl) ?_
    refine g_get C hM clo_7 24 (by decide) r70 t_1322 rfl (v := .int (mT _ 7 24 _)) rfl dX7_addAnswer_17 ?_
    rw [ranss r]
    refine lv_bipush (v := 8) hx hb dX7_addAnswer_20 (by decide) ?_
    refine lv_icmp_ne (tgt := 29) hx hb dX7_addAnswer_22 (by decide) (fun c_22 => ?_) (fun c_22 => ?_)
    · skip
      have hno : ¬ mN D 3 = 8 := fun z => c_22 (h6e.mpr z)
      refine lv_iconst (v := 0) hx hb dX7_addAnswer_29 (by decide) ?_
      refine g_putI C hM hS clo_7 19 (by decide) rfl r70 rfl rfl rfl rfl dX7_addAnswer_30 (Or.inl t_1317) (fun H locs hM hS => ?_)
      refine lv_aload_n hx hb dX7_addAnswer_33 rfl (lv_at hl 0 rfl) ?_
      refine g_get C hM clo_7 19 (by decide) r70 t_1317 rfl (v := .int (mT _ 7 19 _)) rfl dX7_addAnswer_34 ?_
      refine g_if_le (tgt := 42) hx hb dX7_addAnswer_37 (by decide) (fun c_37 => ?_) (fun c_37 => ?_)
      · skip
        replace r : RC D (sT M 7 19 0 0) := r
        refine lv_aload_n hx hb dX7_addAnswer_42 rfl (lv_at hl 0 rfl) ?_
        refine g_get C hM clo_7 17 (by decide) r70 t_1315 rfl (v := _) (fv4 rfl) dX7_addAnswer_43 ?_
        refine lv_aload_n hx hb dX7_addAnswer_46 rfl (lv_at hl 0 rfl) ?_
        refine g_get C hM clo_7 24 (by decide) r70 t_1322 rfl (v := .int (mT _ 7 24 _)) rfl dX7_addAnswer_47 ?_
        rw [ranss r]
        refine lv_iload_n hx hb dX7_addAnswer_50 rfl (lv_at hl 1 rfl) ?_
        refine g_iast C hM hS rw_37 (rn0 37 (by decide) (by decide)) (mN D 3) rfl (by omega) (by decide) dX7_addAnswer_51 (fun H locs hM hS => ?_)
        refine lv_aload_n hx hb dX7_addAnswer_52 rfl (lv_at hl 0 rfl) ?_
        refine lv_dup hx hb dX7_addAnswer_53 rfl ?_
        refine g_get C hM clo_7 24 (by decide) r70 t_1322 rfl (v := .int (mT _ 7 24 _)) rfl dX7_addAnswer_54 ?_
        rw [show mT (sT (sT M 7 19 0 0) 37 (mN D 3) 0 x) 7 24 0 = nI (mN D 3) from by have q := ranss r; exact q]
        refine lv_iconst (v := 1) hx hb dX7_addAnswer_57 (by decide) ?_
        refine lv_iadd hx hb dX7_addAnswer_58 ?_
        refine g_putI C hM hS clo_7 24 (by decide) rfl r70 rfl rfl rfl rfl dX7_addAnswer_59 (Or.inl t_1322) (fun H locs hM hS => ?_)
        refine lv_aload_n hx hb dX7_addAnswer_62 rfl (lv_at hl 0 rfl) ?_
        refine g_get C hM clo_7 24 (by decide) r70 t_1322 rfl (v := .int (mT _ 7 24 _)) rfl dX7_addAnswer_63 ?_
        rw [show mT (sT (sT (sT M 7 19 0 0) 37 (mN D 3) 0 x) 7 24 0 (nI (mN D 3) + 1)) 7 24 0 = nI (mN D 3) + 1 by rw [mT_sT, if_pos ⟨rfl, rfl, rfl⟩]]
        refine lv_iconst (v := 1) hx hb dX7_addAnswer_66 (by decide) ?_
        refine lv_isub hx hb dX7_addAnswer_67 ?_
        exact g_iret C hr hM hS dX7_addAnswer_68 (by decide) (by decide) ⟨trivial, by simp [rAddAnswerM, c_9, hno], rfl, by simp [rAddAnswerM, thI, c_9, hno]⟩
      · exact absurd (show (0 : Int32) < 0 from c_37) (by decide)
    · skip
      have hno := h6e.mp c_22
      refine lv_iconst (v := 2) hx hb dX7_addAnswer_25 (by decide) ?_
      refine lv_goto (tgt := 30) hx hb dX7_addAnswer_26 (by decide) ?_
      refine g_putI C hM hS clo_7 19 (by decide) rfl r70 rfl rfl rfl rfl dX7_addAnswer_30 (Or.inl t_1317) (fun H locs hM hS => ?_)
      refine lv_aload_n hx hb dX7_addAnswer_33 rfl (lv_at hl 0 rfl) ?_
      refine g_get C hM clo_7 19 (by decide) r70 t_1317 rfl (v := .int (mT _ 7 19 _)) rfl dX7_addAnswer_34 ?_
      refine g_if_le (tgt := 42) hx hb dX7_addAnswer_37 (by decide) (fun c_37 => ?_) (fun c_37 => ?_)
      · exact absurd (show ¬ (0 : Int32) < 2 from c_37) (by decide)
      · skip
        refine lv_iconst (v := 0) hx hb dX7_addAnswer_40 (by decide) ?_
        exact g_iret C hr hM hS dX7_addAnswer_41 (by decide) (by decide) ⟨trivial, by simp [rAddAnswerM, c_9, hno], rfl, by simp [rAddAnswerM, thI, c_9, hno]⟩
  · skip
    refine lv_iconst (v := 1) hx hb dX7_addAnswer_12 (by decide) ?_
    refine lv_goto (tgt := 30) hx hb dX7_addAnswer_13 (by decide) ?_
    refine g_putI C hM hS clo_7 19 (by decide) rfl r70 rfl rfl rfl rfl dX7_addAnswer_30 (Or.inl t_1317) (fun H locs hM hS => ?_)
    refine lv_aload_n hx hb dX7_addAnswer_33 rfl (lv_at hl 0 rfl) ?_
    refine g_get C hM clo_7 19 (by decide) r70 t_1317 rfl (v := .int (mT _ 7 19 _)) rfl dX7_addAnswer_34 ?_
    refine g_if_le (tgt := 42) hx hb dX7_addAnswer_37 (by decide) (fun c_37 => ?_) (fun c_37 => ?_)
    · exact absurd (show ¬ (0 : Int32) < 1 from c_37) (by decide)
    · skip
      refine lv_iconst (v := 0) hx hb dX7_addAnswer_40 (by decide) ?_
      exact g_iret C hr hM hS dX7_addAnswer_41 (by decide) (by decide) ⟨trivial, by simp [rAddAnswerM, c_9], rfl, by simp [rAddAnswerM, thI, c_9]⟩

set_option maxHeartbeats 1500000 in
set_option maxRecDepth 100000 in
theorem m_mergedInto {l : Launch} (hfl : l.stackTraces = false) (Γ : Gm) (K : Nat → Nat → Nat) (M : Mem) (x : Int32) (D : Mem) (w : Wf D) (r : RC D M) (rk : Nat → Nat) (hrk : ∀ t u, mP D 4 13 t = some u → rk u < rk t) : CT l Γ (gFree Γ) yX7_mergedInto (wsO yX7_mergedInto cX7_mergedInto 3 (some .int)) 6 [.ref (K 7 0), .int x] K M (DD True (some (.int (if rMergedInto D x = 0 then nI (rtM D (rk (ix x)) (ix x)) else 0))) K (if rMergedInto D x = 0 then sT M 7 19 0 0 else sT M 7 19 0 (thI (rMergedInto D x)))) xNo 0 0 := by
  refine ct_intro hfl (by decide) (Nat.le_of_ble_eq_true rfl) ?_
  intro p e s m args below meth c C ht hr hnm hM ls hl
  have hx := C.1
  have hb := C.2.1
  have hS : va_S (gFree Γ) s.heap s.heap [] := va_S.rf
  have hl : lv_has ls 3 [(0, .ref (K 7 0)), (1, .int x)] := hl
  have r70 := r7 r
  have rn0 := fun k h1 h2 => rn r k h1 h2
  have hb4 := wn4 w
  have hb0 := wn0 w
  have hb2 := wn2 w
  have hb3 := wn3 w
  refine lv_aload_n hx hb dX7_mergedInto_0 rfl (lv_at hl 0 rfl) ?_
  refine lv_aload_n hx hb dX7_mergedInto_1 rfl (lv_at hl 0 rfl) ?_
  refine lv_iload_n hx hb dX7_mergedInto_2 rfl (lv_at hl 1 rfl) ?_
  refine g_cV C hS (fun _ h => h) hM hl (fun _ h => h.elim) (m_isTicket hfl Γ _ _ _ D w r) kX7_isTicket t_1474 (HM.recv C hM clo_7 (r7 r)) dX7_mergedInto_3 rfl rfl (Nat.le_of_ble_eq_true rfl) (by decide) rfl ⟨by decide, by decide⟩ xNo_goes (fun H locs hc_3 hM hS => ?_)
  refine g_ifneB (tgt := 13) hx hb dX7_mergedInto_6 (by decide) (fun c_6 => ?_) (fun c_6 => ?_)
  · skip
    obtain ⟨hx1, hx2⟩ := inN_ix (n := mN D 4) c_6 (by omega)
    have hab : ∀ t, t < mN D 4 → ∀ z, mP D 4 13 t = some z → z < 2 ^ 31 := fun t ht z hz => by have := wf_into w ht hz; omega
    refine lv_aload_n hx hb dX7_mergedInto_13 rfl (lv_at hl 0 rfl) ?_
    refine g_get C hM clo_7 11 (by decide) r70 t_1309 rfl (v := _) (fv4 rfl) dX7_mergedInto_14 ?_
    refine lv_iload_n hx hb dX7_mergedInto_17 rfl (lv_at hl 1 rfl) ?_
    refine g_iald C hM rw_31 (rn0 31 (by decide) (by decide)) (ix x) hx2 (by omega) (by decide) dX7_mergedInto_18 ?_
    rw [rinto r hx1]
    refine g_if_ge (tgt := 26) hx hb dX7_mergedInto_19 (by decide) (fun c_19 => ?_) (fun c_19 => ?_)
    · skip
      have hno : ¬ mP D 4 13 (ix x) = none := fun z => c_19 ((oI_neg (hab _ hx1)).mpr z)
      refine lv_iconst (v := 0) hx hb dX7_mergedInto_26 (by decide) ?_
      refine g_putI C hM hS clo_7 19 (by decide) rfl r70 rfl rfl rfl rfl dX7_mergedInto_27 (Or.inl t_1317) (fun H locs hM hS => ?_)
      refine lv_aload_n hx hb dX7_mergedInto_30 rfl (lv_at hl 0 rfl) ?_
      refine g_get C hM clo_7 19 (by decide) r70 t_1317 rfl (v := .int (mT _ 7 19 _)) rfl dX7_mergedInto_31 ?_
      refine g_if_le (tgt := 39) hx hb dX7_mergedInto_34 (by decide) (fun c_34 => ?_) (fun c_34 => ?_)
      · skip
        replace r : RC D (sT M 7 19 0 0) := r
        refine lv_iload_n hx hb dX7_mergedInto_39 rfl (lv_at hl 1 rfl) ?_
        refine lv_istore_n (lv' := [(2, _), (0, _), (1, _)]) hx hb dX7_mergedInto_40 rfl hl (by decide) rfl (fun ls hl => ?_)
        suffices K41 : ∀ (n9 : Nat) (t : Nat) (z : Int32), rk t < n9 → (t < mN D 4) → (z = nI t) → (rtM D (rk (ix x)) (ix x) = rtM D (rk t) t) → ∀ (H : Heap) (locs : List Loc) (ls : Array Slot), HM Γ K (sT M 7 19 0 0) H → va_S (gFree Γ) s.heap H locs → lv_has ls 3 [(0, .ref (K 7 0)), (1, .int x), (2, .int z)] → W p l e (rmL 6 0 0) s m args below meth c H locs 0 0 (vx_MQ below (cQ Γ (gFree Γ) (DD True (some (.int (if rMergedInto D x = 0 then nI (rtM D (rk (ix x)) (ix x)) else 0))) K (if rMergedInto D x = 0 then sT M 7 19 0 0 else sT M 7 19 0 (thI (rMergedInto D x))))) (cX Γ (gFree Γ) K M xNo) args s 0 0 (gFree Γ)) (F0 m 41 ls []) by
          exact K41 _ (ix x) x (Nat.lt_succ_self _) hx1 hx2 rfl _ _ _ hM hS (lv_sub hl [1, 2, 0] rfl)
        intro n9
        induction n9 with
        | zero => intro t z h9; exact absurd h9 (Nat.not_lt_zero _)
        | succ n9 ih =>
          intro t z h9 ht4 hz hrt H locs ls hM hS hl
          refine lv_aload_n hx hb dX7_mergedInto_41 rfl (lv_at hl 0 rfl) ?_
          refine g_get C hM clo_7 11 (by decide) r70 t_1309 rfl (v := _) (fv4 rfl) dX7_mergedInto_42 ?_
          refine lv_iload_n hx hb dX7_mergedInto_45 rfl (lv_at hl 2 rfl) ?_
          refine g_iald C hM rw_31 (rn0 31 (by decide) (by decide)) t hz (by omega) (by decide) dX7_mergedInto_46 ?_
          rw [rinto r ht4]
          refine lv_if_lt (tgt := 60) hx hb dX7_mergedInto_47 (by decide) (fun c_47 => ?_) (fun c_47 => ?_)
          · skip
            have hne := (oI_neg (hab _ ht4)).mp c_47
            refine lv_iload_n hx hb dX7_mergedInto_60 rfl (lv_at hl 2 rfl) ?_
            exact g_iret C hr hM hS dX7_mergedInto_61 (by decide) (by decide) ⟨trivial, by rw [show rMergedInto D x = 0 by simp [rMergedInto, c_6, hno], hz, hrt, rt_end hne]; rfl, rfl, by simp [rMergedInto, thI, c_6, hno]⟩
          · skip
            obtain ⟨b, hbb⟩ : ∃ b, mP D 4 13 t = some b := Option.ne_none_iff_exists'.mp (fun q => c_47 ((oI_neg (hab _ ht4)).mpr q))
            refine lv_aload_n hx hb dX7_mergedInto_50 rfl (lv_at hl 0 rfl) ?_
            refine g_get C hM clo_7 11 (by decide) r70 t_1309 rfl (v := _) (fv4 rfl) dX7_mergedInto_51 ?_
            refine lv_iload_n hx hb dX7_mergedInto_54 rfl (lv_at hl 2 rfl) ?_
            refine g_iald C hM rw_31 (rn0 31 (by decide) (by decide)) t hz (by omega) (by decide) dX7_mergedInto_55 ?_
            rw [rinto r ht4]
            refine lv_istore_n (lv' := [(2, _), (0, _), (1, _)]) hx hb dX7_mergedInto_56 rfl hl (by decide) rfl (fun ls hl => ?_)
            refine lv_goto (tgt := 41) hx hb dX7_mergedInto_57 (by decide) ?_
            exact ih b (oI (mP D 4 13 t)) (by have := hrk _ _ hbb; omega) (wf_into w ht4 hbb) (by rw [hbb]; rfl) (hrt.trans (rt_go hrk hbb)) _ _ _ hM hS (lv_sub hl [1, 2, 0] rfl)
      · exact absurd (show (0 : Int32) < 0 from c_34) (by decide)
    · skip
      have hno := (oI_neg (hab _ hx1)).mp c_19
      refine lv_iconst (v := 2) hx hb dX7_mergedInto_22 (by decide) ?_
      refine lv_goto (tgt := 27) hx hb dX7_mergedInto_23 (by decide) ?_
      refine g_putI C hM hS clo_7 19 (by decide) rfl r70 rfl rfl rfl rfl dX7_mergedInto_27 (Or.inl t_1317) (fun H locs hM hS => ?_)
      refine lv_aload_n hx hb dX7_mergedInto_30 rfl (lv_at hl 0 rfl) ?_
      refine g_get C hM clo_7 19 (by decide) r70 t_1317 rfl (v := .int (mT _ 7 19 _)) rfl dX7_mergedInto_31 ?_
      refine g_if_le (tgt := 39) hx hb dX7_mergedInto_34 (by decide) (fun c_34 => ?_) (fun c_34 => ?_)
      · exact absurd (show ¬ (0 : Int32) < 2 from c_34) (by decide)
      · skip
        refine lv_iconst (v := 0) hx hb dX7_mergedInto_37 (by decide) ?_
        exact g_iret C hr hM hS dX7_mergedInto_38 (by decide) (by decide) ⟨trivial, by simp [rMergedInto, c_6, hno], rfl, by simp [rMergedInto, thI, c_6, hno]⟩
  · skip
    refine lv_iconst (v := 1) hx hb dX7_mergedInto_9 (by decide) ?_
    refine lv_goto (tgt := 27) hx hb dX7_mergedInto_10 (by decide) ?_
    refine g_putI C hM hS clo_7 19 (by decide) rfl r70 rfl rfl rfl rfl dX7_mergedInto_27 (Or.inl t_1317) (fun H locs hM hS => ?_)
    refine lv_aload_n hx hb dX7_mergedInto_30 rfl (lv_at hl 0 rfl) ?_
    refine g_get C hM clo_7 19 (by decide) r70 t_1317 rfl (v := .int (mT _ 7 19 _)) rfl dX7_mergedInto_31 ?_
    refine g_if_le (tgt := 39) hx hb dX7_mergedInto_34 (by decide) (fun c_34 => ?_) (fun c_34 => ?_)
    · exact absurd (show ¬ (0 : Int32) < 1 from c_34) (by decide)
    · skip
      refine lv_iconst (v := 0) hx hb dX7_mergedInto_37 (by decide) ?_
      exact g_iret C hr hM hS dX7_mergedInto_38 (by decide) (by decide) ⟨trivial, by simp [rMergedInto, c_6], rfl, by simp [rMergedInto, thI, c_6]⟩

def fcN (D : Mem) (a : Nat) : Nat → Int32
  | 0 => 0
  | n + 1 => fcN D a n + if fiM D a n = true then 1 else 0
set_option maxHeartbeats 1500000 in
set_option maxRecDepth 100000 in
theorem m_waiting {l : Launch} (hfl : l.stackTraces = false) (Γ : Gm) (K : Nat → Nat → Nat) (M : Mem) (x : Int32) (D : Mem) (w : Wf D) (r : RC D M) : CT l Γ (gFree Γ) yX7_waiting (wsO yX7_waiting cX7_waiting 4 (some .int)) 6 [.ref (K 7 0), .int x] K M (DD True (some (.int (if rWaiting D x = 0 then fcN D (ix x) (mN D 4) else 0))) K (if rWaiting D x = 0 then sT M 7 19 0 0 else sT M 7 19 0 (thI (rWaiting D x)))) xNo 0 0 := by
  refine ct_intro hfl (by decide) (Nat.le_of_ble_eq_true rfl) ?_
  intro p e s m args below meth c C ht hr hnm hM ls hl
  have hx := C.1
  have hb := C.2.1
  have hS : va_S (gFree Γ) s.heap s.heap [] := va_S.rf
  have hl : lv_has ls 4 [(0, .ref (K 7 0)), (1, .int x)] := hl
  have r70 := r7 r
  have rn0 := fun k h1 h2 => rn r k h1 h2
  have hb4 := wn4 w
  have hb0 := wn0 w
  have hb2 := wn2 w
  have hb3 := wn3 w
  refine lv_aload_n hx hb dX7_waiting_0 rfl (lv_at hl 0 rfl) ?_
  refine lv_aload_n hx hb dX7_waiting_1 rfl (lv_at hl 0 rfl) ?_
  refine lv_iload_n hx hb dX7_waiting_2 rfl (lv_at hl 1 rfl) ?_
  refine g_cV C hS (fun _ h => h) hM hl (fun _ h => h.elim) (m_isAgent hfl Γ _ _ _ D w r) kX7_isAgent t_1530 (HM.recv C hM clo_7 (r7 r)) dX7_waiting_3 rfl rfl (Nat.le_of_ble_eq_true rfl) (by decide) rfl ⟨by decide, by decide⟩ xNo_goes (fun H locs hc_3 hM hS => ?_)
  refine g_cV C hS (fun _ h => h) hM hl (fun _ h => h) (m_checked hfl Γ _ _ _ r70) kX7_checked t_1402 (HM.recv C hM clo_7 r70) dX7_waiting_6 rfl rfl (Nat.le_of_ble_eq_true rfl) (by decide) rfl ⟨by decide, by decide⟩ xNo_goes (fun H locs hc_6 hM hS => ?_)
  refine g_ifleN (tgt := 14) hx hb dX7_waiting_9 (by decide) (fun c_9 => ?_) (fun c_9 => ?_)
  · skip
    obtain ⟨hx1, hx2⟩ := inN_ix (n := mN D 0) (by simpa using c_9) (by omega)
    replace r : RC D (sT M 7 19 0 (bI (!inN x (mN D 0)))) := r
    refine lv_iconst (v := 0) hx hb dX7_waiting_14 (by decide) ?_
    refine lv_istore_n (lv' := [(2, _), (0, _), (1, _)]) hx hb dX7_waiting_15 rfl hl (by decide) rfl (fun ls hl => ?_)
    refine lv_iconst (v := 0) hx hb dX7_waiting_16 (by decide) ?_
    refine lv_istore_n (lv' := [(3, _), (2, _), (0, _), (1, _)]) hx hb dX7_waiting_17 rfl hl (by decide) rfl (fun ls hl => ?_)
    suffices K18 : ∀ (n9 : Nat) (n : Nat), mN D 4 - n < n9 → (n ≤ mN D 4) → ∀ (H : Heap) (locs : List Loc) (ls : Array Slot), HM Γ K (sT M 7 19 0 (bI (!inN x (mN D 0)))) H → va_S (gFree Γ) s.heap H locs → lv_has ls 4 [(0, .ref (K 7 0)), (1, .int x), (2, .int (fcN D (ix x) n)), (3, .int (nI n))] → W p l e (rmL 6 0 0) s m args below meth c H locs 0 0 (vx_MQ below (cQ Γ (gFree Γ) (DD True (some (.int (if rWaiting D x = 0 then fcN D (ix x) (mN D 4) else 0))) K (if rWaiting D x = 0 then sT M 7 19 0 0 else sT M 7 19 0 (thI (rWaiting D x))))) (cX Γ (gFree Γ) K M xNo) args s 0 0 (gFree Γ)) (F0 m 18 ls []) by
      exact K18 _ 0 (Nat.lt_succ_self _) (Nat.zero_le _) _ _ _ hM hS (lv_sub hl [2, 3, 1, 0] rfl)
    intro n9
    induction n9 with
    | zero => intro n h9; exact absurd h9 (Nat.not_lt_zero _)
    | succ n9 ih =>
      intro n h9 hn H locs ls hM hS hl
      refine lv_iload_n hx hb dX7_waiting_18 rfl (lv_at hl 3 rfl) ?_
      refine lv_aload_n hx hb dX7_waiting_19 rfl (lv_at hl 0 rfl) ?_
      refine g_get C hM clo_7 22 (by decide) r70 t_1320 rfl (v := .int (mT _ 7 22 _)) rfl dX7_waiting_20 ?_
      refine g_icmp_ge (tgt := 49) hx hb dX7_waiting_23 (by decide) (fun c_23 => ?_) (fun c_23 => ?_)
      · skip
        refine lv_iload_n hx hb dX7_waiting_49 rfl (lv_at hl 2 rfl) ?_
        exact g_iret C hr hM hS dX7_waiting_50 (by decide) (by decide) ⟨trivial, by rw [show rWaiting D x = 0 by simpa [rWaiting] using c_9, show n = mN D 4 by rw [rticks r] at c_23; have := (not_congr (nI_ltI (a := n) (b := mN D 4) (by omega) (by omega))).mp c_23; omega]; rfl, rfl, by simp [rWaiting, thI, bI, c_9]⟩
      · skip
        have h6 : n < mN D 4 := by rw [rticks r] at c_23; exact (nI_ltI (by omega) (by omega)).mp c_23
        refine lv_iload_n hx hb dX7_waiting_26 rfl (lv_at hl 2 rfl) ?_
        refine lv_aload_n hx hb dX7_waiting_27 rfl (lv_at hl 0 rfl) ?_
        refine lv_iload_n hx hb dX7_waiting_28 rfl (lv_at hl 1 rfl) ?_
        refine lv_iload_n hx hb dX7_waiting_29 rfl (lv_at hl 3 rfl) ?_
        refine g_cV C hS (fun _ h => h) hM hl (fun _ h => h.elim) (m_isFor hfl Γ _ _ _ _ (ix x) n D w r hx2 rfl hx1 h6) kX7_isFor t_1561 (HM.recv C hM clo_7 r70) dX7_waiting_30 rfl rfl (Nat.le_of_ble_eq_true rfl) (by decide) rfl ⟨by decide, by decide⟩ xNo_goes (fun H locs hc_30 hM hS => ?_)
        refine g_ifeqB (tgt := 40) hx hb dX7_waiting_33 (by decide) (fun c_33 => ?_) (fun c_33 => ?_)
        · skip
          refine lv_iconst (v := 0) hx hb dX7_waiting_40 (by decide) ?_
          refine lv_iadd hx hb dX7_waiting_41 ?_
          refine lv_istore_n (lv' := [(2, _), (0, _), (1, _), (3, _)]) hx hb dX7_waiting_42 rfl hl (by decide) rfl (fun ls hl => ?_)
          refine lv_iinc (k := 3) (v := nI (n + 1)) (lv' := [(3, _), (2, _), (0, _), (1, _)]) hx hb dX7_waiting_43 hl rfl (nI_1 n) (by decide) rfl (fun ls hl => ?_)
          refine lv_goto (tgt := 18) hx hb dX7_waiting_46 (by decide) ?_
          exact ih (n + 1) (by omega) h6 _ _ _ hM hS ((by rw [fcN, c_33]; exact lv_sub hl [2, 3, 1, 0] rfl))
        · skip
          refine lv_iconst (v := 1) hx hb dX7_waiting_36 (by decide) ?_
          refine lv_goto (tgt := 41) hx hb dX7_waiting_37 (by decide) ?_
          refine lv_iadd hx hb dX7_waiting_41 ?_
          refine lv_istore_n (lv' := [(2, _), (0, _), (1, _), (3, _)]) hx hb dX7_waiting_42 rfl hl (by decide) rfl (fun ls hl => ?_)
          refine lv_iinc (k := 3) (v := nI (n + 1)) (lv' := [(3, _), (2, _), (0, _), (1, _)]) hx hb dX7_waiting_43 hl rfl (nI_1 n) (by decide) rfl (fun ls hl => ?_)
          refine lv_goto (tgt := 18) hx hb dX7_waiting_46 (by decide) ?_
          exact ih (n + 1) (by omega) h6 _ _ _ hM hS ((by rw [fcN, c_33]; exact lv_sub hl [2, 3, 1, 0] rfl))
  · skip
    refine lv_iconst (v := 0) hx hb dX7_waiting_12 (by decide) ?_
    exact g_iret C hr hM hS dX7_waiting_13 (by decide) (by decide) ⟨trivial, by simp [rWaiting, thI, bI, c_9], rfl, by simp [rWaiting, thI, bI, c_9]⟩

def scM (D M : Mem) (t n : Nat) : Int32 := btN (mT D 3 0 n &&& woN D M t (mN D 2)) 10
def smS (D M : Mem) (t n : Nat) (z : Int32 × Int32) : Int32 × Int32 := if ¬ scM D M t n = 0 ∧ z.2 < 10 * scM D M t n + mT D 14 (toM D t) n then (nI n, 10 * scM D M t n + mT D 14 (toM D t) n) else z
def smN (D M : Mem) (t : Nat) : Nat → Int32 × Int32
  | 0 => (-1, 0)
  | n + 1 => smS D M t n (smN D M t n)
theorem woN_thr {D M : Mem} {t : Nat} {v : Int32} : ∀ n, woN D (sT M 7 19 0 v) t n = woN D M t n
  | 0 => rfl
  | n + 1 => by unfold woN; rw [woN_thr n]; rfl
def sugR (D M : Mem) (x : Int32) : Mem := if inN x (mN D 4) = true then sT (sT M 7 19 0 0) 7 19 0 (if (smN D M (ix x) (mN D 3)).1 < 0 then 2 else 0) else sT M 7 19 0 1
set_option maxHeartbeats 1500000 in
set_option maxRecDepth 100000 in
theorem m_suggestion {l : Launch} (hfl : l.stackTraces = false) (Γ : Gm) (K : Nat → Nat → Nat) (M : Mem) (x : Int32) (D : Mem) (w : Wf D) (r : RC D M) : CT l Γ (gFree Γ) yX7_suggestion (wsO yX7_suggestion cX7_suggestion 7 (some .int)) 6 [.ref (K 7 0), .int x] K M (DD True (some (.int (if inN x (mN D 4) = true then (smN D M (ix x) (mN D 3)).1 else 0))) K (sugR D M x)) xNo 0 0 := by
  refine ct_intro hfl (by decide) (Nat.le_of_ble_eq_true rfl) ?_
  intro p e s m args below meth c C ht hr hnm hM ls hl
  have hx := C.1
  have hb := C.2.1
  have hS : va_S (gFree Γ) s.heap s.heap [] := va_S.rf
  have hl : lv_has ls 7 [(0, .ref (K 7 0)), (1, .int x)] := hl
  have r70 := r7 r
  have rn0 := fun k h1 h2 => rn r k h1 h2
  have hb4 := wn4 w
  have hb0 := wn0 w
  have hb2 := wn2 w
  have hb3 := wn3 w
  refine lv_aload_n hx hb dX7_suggestion_0 rfl (lv_at hl 0 rfl) ?_
  refine lv_aload_n hx hb dX7_suggestion_1 rfl (lv_at hl 0 rfl) ?_
  refine lv_iload_n hx hb dX7_suggestion_2 rfl (lv_at hl 1 rfl) ?_
  refine g_cV C hS (fun _ h => h) hM hl (fun _ h => h.elim) (m_isTicket hfl Γ _ _ _ D w r) kX7_isTicket t_1474 (HM.recv C hM clo_7 (r7 r)) dX7_suggestion_3 rfl rfl (Nat.le_of_ble_eq_true rfl) (by decide) rfl ⟨by decide, by decide⟩ xNo_goes (fun H locs hc_3 hM hS => ?_)
  refine g_cV C hS (fun _ h => h) hM hl (fun _ h => h) (m_checked hfl Γ _ _ _ r70) kX7_checked t_1402 (HM.recv C hM clo_7 r70) dX7_suggestion_6 rfl rfl (Nat.le_of_ble_eq_true rfl) (by decide) rfl ⟨by decide, by decide⟩ xNo_goes (fun H locs hc_6 hM hS => ?_)
  refine g_ifleN (tgt := 14) hx hb dX7_suggestion_9 (by decide) (fun c_9 => ?_) (fun c_9 => ?_)
  · skip
    obtain ⟨hx1, hx2⟩ := inN_ix (n := mN D 4) (by simpa using c_9) (by omega)
    replace r : RC D (sT M 7 19 0 (bI (!inN x (mN D 4)))) := r
    have h1 := w.2.2.1 _ hx1
    refine lv_iconst (v := -1) hx hb dX7_suggestion_14 (by decide) ?_
    refine lv_istore_n (lv' := [(2, _), (0, _), (1, _)]) hx hb dX7_suggestion_15 rfl hl (by decide) rfl (fun ls hl => ?_)
    refine lv_iconst (v := 0) hx hb dX7_suggestion_16 (by decide) ?_
    refine lv_istore_n (lv' := [(3, _), (2, _), (0, _), (1, _)]) hx hb dX7_suggestion_17 rfl hl (by decide) rfl (fun ls hl => ?_)
    refine lv_iconst (v := 0) hx hb dX7_suggestion_18 (by decide) ?_
    refine lv_istore (lv' := [(4, _), (3, _), (2, _), (0, _), (1, _)]) hx hb dX7_suggestion_19 hl (by decide) rfl (fun ls hl => ?_)
    suffices K21 : ∀ (n9 : Nat) (n : Nat), mN D 3 - n < n9 → (n ≤ mN D 3) → ∀ (H : Heap) (locs : List Loc) (ls : Array Slot), HM Γ K (sT M 7 19 0 (bI (!inN x (mN D 4)))) H → va_S (gFree Γ) s.heap H locs → lv_has ls 7 [(0, .ref (K 7 0)), (1, .int x), (2, .int (smN D M (ix x) n).1), (3, .int (smN D M (ix x) n).2), (4, .int (nI n))] → W p l e (rmL 6 0 0) s m args below meth c H locs 0 0 (vx_MQ below (cQ Γ (gFree Γ) (DD True (some (.int (if inN x (mN D 4) = true then (smN D M (ix x) (mN D 3)).1 else 0))) K (sugR D M x))) (cX Γ (gFree Γ) K M xNo) args s 0 0 (gFree Γ)) (F0 m 21 ls []) by
      exact K21 _ 0 (Nat.lt_succ_self _) (Nat.zero_le _) _ _ _ hM hS (lv_sub hl [3, 4, 2, 1, 0] rfl)
    intro n9
    induction n9 with
    | zero => intro n h9; exact absurd h9 (Nat.not_lt_zero _)
    | succ n9 ih =>
      intro n h9 hn H locs ls hM hS hl
      refine lv_iload hx hb dX7_suggestion_21 (lv_at hl 4 rfl) ?_
      refine lv_aload_n hx hb dX7_suggestion_23 rfl (lv_at hl 0 rfl) ?_
      refine g_get C hM clo_7 24 (by decide) (r7 r) t_1322 rfl (v := .int (mT _ 7 24 _)) rfl dX7_suggestion_24 ?_
      refine g_icmp_ge (tgt := 99) hx hb dX7_suggestion_27 (by decide) (fun c_27 => ?_) (fun c_27 => ?_)
      · skip
        have hend : n = mN D 3 := by rw [ranss r] at c_27; have := (not_congr (nI_ltI (a := n) (b := mN D 3) (by omega) (by omega))).mp c_27; omega
        have hin : inN x (mN D 4) = true := by simpa using c_9
        rw [hend] at hl
        refine lv_aload_n hx hb dX7_suggestion_99 rfl (lv_at hl 0 rfl) ?_
        refine lv_iload_n hx hb dX7_suggestion_100 rfl (lv_at hl 2 rfl) ?_
        refine g_if_ge (tgt := 108) hx hb dX7_suggestion_101 (by decide) (fun c_101 => ?_) (fun c_101 => ?_)
        · skip
          refine lv_iconst (v := 0) hx hb dX7_suggestion_108 (by decide) ?_
          refine g_putI C hM hS clo_7 19 (by decide) rfl (r7 r) rfl rfl rfl rfl dX7_suggestion_109 (Or.inl t_1317) (fun H locs hM hS => ?_)
          refine lv_iload_n hx hb dX7_suggestion_112 rfl (lv_at hl 2 rfl) ?_
          exact g_iret C hr hM hS dX7_suggestion_113 (by decide) (by decide) ⟨trivial, by rw [if_pos hin], rfl, by rw [sugR, if_pos hin, if_neg c_101, hin]; rfl⟩
        · skip
          refine lv_iconst (v := 2) hx hb dX7_suggestion_104 (by decide) ?_
          refine lv_goto (tgt := 109) hx hb dX7_suggestion_105 (by decide) ?_
          refine g_putI C hM hS clo_7 19 (by decide) rfl (r7 r) rfl rfl rfl rfl dX7_suggestion_109 (Or.inl t_1317) (fun H locs hM hS => ?_)
          refine lv_iload_n hx hb dX7_suggestion_112 rfl (lv_at hl 2 rfl) ?_
          exact g_iret C hr hM hS dX7_suggestion_113 (by decide) (by decide) ⟨trivial, by rw [if_pos hin], rfl, by rw [sugR, if_pos hin, if_pos c_101, hin]; rfl⟩
      · skip
        have h6 : n < mN D 3 := by rw [ranss r] at c_27; exact (nI_ltI (by omega) (by omega)).mp c_27
        refine lv_aload_n hx hb dX7_suggestion_30 rfl (lv_at hl 0 rfl) ?_
        refine g_get C hM clo_7 17 (by decide) (r7 r) t_1315 rfl (v := _) (fv4 rfl) dX7_suggestion_31 ?_
        refine lv_iload hx hb dX7_suggestion_34 (lv_at hl 4 rfl) ?_
        refine g_iald C hM rw_37 (rn0 37 (by decide) (by decide)) n rfl (by omega) (by decide) dX7_suggestion_36 ?_
        rw [rwds r h6]
        refine lv_aload_n hx hb dX7_suggestion_37 rfl (lv_at hl 0 rfl) ?_
        refine lv_iload_n hx hb dX7_suggestion_38 rfl (lv_at hl 1 rfl) ?_
        refine g_cV C hS (fun _ h => h) hM hl (fun _ h => h.elim) (m_wordsOf hfl Γ _ _ _ (ix x) D w r hx2 hx1) kX7_wordsOf t_1630 (HM.recv C hM clo_7 r70) dX7_suggestion_39 rfl rfl (Nat.le_of_ble_eq_true rfl) (by decide) rfl ⟨by decide, by decide⟩ xNo_goes (fun H locs hc_39 hM hS => ?_)
        rw [woN_thr]
        refine lv_iand hx hb dX7_suggestion_42 ?_
        refine g_cS C hS (fun _ h => h) hM hl (fun _ h => h.elim) (m_bits hfl Γ _ _ _) kX7_bits t_1534 dX7_suggestion_43 rfl rfl (Nat.le_of_ble_eq_true rfl) (by decide) rfl ⟨by decide, by decide⟩ xNo_goes (fun H locs hc_43 hM hS => ?_)
        refine lv_istore (lv' := [(5, _), (0, _), (1, _), (2, _), (3, _), (4, _)]) hx hb dX7_suggestion_46 hl (by decide) rfl (fun ls hl => ?_)
        refine lv_bipush (v := 10) hx hb dX7_suggestion_48 (by decide) ?_
        refine lv_iload hx hb dX7_suggestion_50 (lv_at hl 0 rfl) ?_
        refine lv_imul hx hb dX7_suggestion_52 ?_
        refine lv_aload_n hx hb dX7_suggestion_53 rfl (lv_at hl 1 rfl) ?_
        refine g_get C hM clo_7 18 (by decide) (r7 r) t_1316 rfl (v := _) (fv4 rfl) dX7_suggestion_54 ?_
        refine lv_bipush (v := 6) hx hb dX7_suggestion_57 (by decide) ?_
        refine lv_iload hx hb dX7_suggestion_59 (lv_at hl 5 rfl) ?_
        refine lv_imul hx hb dX7_suggestion_61 ?_
        refine lv_aload_n hx hb dX7_suggestion_62 rfl (lv_at hl 1 rfl) ?_
        refine g_get C hM clo_7 6 (by decide) (r7 r) t_1304 rfl (v := _) (fv4 rfl) dX7_suggestion_63 ?_
        refine lv_iload_n hx hb dX7_suggestion_66 rfl (lv_at hl 2 rfl) ?_
        refine g_iald C hM rw_26 (rn0 26 (by decide) (by decide)) (ix x) hx2 (by omega) (by decide) dX7_suggestion_67 ?_
        rw [rtop r hx1]
        have hidx : 6 * nI n + mT D 4 4 (ix x) = nI (6 * n + toM D (ix x)) := by rw [h1.2.2.1, nI_idx]
        have ht6 := h1.2.2.2.1
        refine lv_iadd hx hb dX7_suggestion_68 ?_
        refine g_iald C hM rw_38 (rn0 38 (by decide) (by decide)) (6 * n + toM D (ix x)) hidx (by omega) (by decide) dX7_suggestion_69 ?_
        rw [rwgt r h6 ht6]
        refine lv_iadd hx hb dX7_suggestion_70 ?_
        refine lv_istore (lv' := [(6, _), (5, _), (0, _), (1, _), (2, _), (3, _), (4, _)]) hx hb dX7_suggestion_71 hl (by decide) rfl (fun ls hl => ?_)
        refine lv_iload hx hb dX7_suggestion_73 (lv_at hl 1 rfl) ?_
        refine lv_if_eq (tgt := 93) hx hb dX7_suggestion_75 (by decide) (fun c_75 => ?_) (fun c_75 => ?_)
        · skip
          refine lv_iinc (k := 6) (v := nI (n + 1)) (lv' := [(4, _), (6, _), (5, _), (0, _), (1, _), (2, _), (3, _)]) hx hb dX7_suggestion_93 hl rfl (nI_1 n) (by decide) rfl (fun ls hl => ?_)
          refine lv_goto (tgt := 21) hx hb dX7_suggestion_96 (by decide) ?_
          exact ih (n + 1) (by omega) h6 _ _ _ hM hS ((by rw [smN, smS, if_neg (fun z => z.1 c_75)]; exact lv_sub hl [3, 4, 5, 6, 0] rfl))
        · skip
          refine lv_iload hx hb dX7_suggestion_78 (lv_at hl 0 rfl) ?_
          refine lv_iload_n hx hb dX7_suggestion_80 rfl (lv_at hl 5 rfl) ?_
          refine lv_icmp_gt (tgt := 87) hx hb dX7_suggestion_81 (by decide) (fun c_81 => ?_) (fun c_81 => ?_)
          · skip
            refine lv_iload hx hb dX7_suggestion_87 (lv_at hl 6 rfl) ?_
            refine lv_istore_n (lv' := [(2, _), (6, _), (5, _), (0, _), (1, _), (3, _), (4, _)]) hx hb dX7_suggestion_89 rfl hl (by decide) rfl (fun ls hl => ?_)
            refine lv_iload hx hb dX7_suggestion_90 (lv_at hl 1 rfl) ?_
            refine lv_istore_n (lv' := [(3, _), (2, _), (6, _), (5, _), (0, _), (1, _), (4, _)]) hx hb dX7_suggestion_92 rfl hl (by decide) rfl (fun ls hl => ?_)
            refine lv_iinc (k := 6) (v := nI (n + 1)) (lv' := [(4, _), (3, _), (2, _), (6, _), (5, _), (0, _), (1, _)]) hx hb dX7_suggestion_93 hl rfl (nI_1 n) (by decide) rfl (fun ls hl => ?_)
            refine lv_goto (tgt := 21) hx hb dX7_suggestion_96 (by decide) ?_
            exact ih (n + 1) (by omega) h6 _ _ _ hM hS ((by rw [smN, smS, if_pos ⟨c_75, c_81⟩]; exact lv_sub hl [5, 6, 2, 1, 0] rfl))
          · skip
            refine lv_goto (tgt := 93) hx hb dX7_suggestion_84 (by decide) ?_
            refine lv_iinc (k := 6) (v := nI (n + 1)) (lv' := [(4, _), (6, _), (5, _), (0, _), (1, _), (2, _), (3, _)]) hx hb dX7_suggestion_93 hl rfl (nI_1 n) (by decide) rfl (fun ls hl => ?_)
            refine lv_goto (tgt := 21) hx hb dX7_suggestion_96 (by decide) ?_
            exact ih (n + 1) (by omega) h6 _ _ _ hM hS ((by rw [smN, smS, if_neg (fun z => c_81 z.2)]; exact lv_sub hl [3, 4, 5, 6, 0] rfl))
  · skip
    refine lv_iconst (v := 0) hx hb dX7_suggestion_12 (by decide) ?_
    exact g_iret C hr hM hS dX7_suggestion_13 (by decide) (by decide) ⟨trivial, by rw [if_neg (by simpa using c_9)], rfl, by rw [sugR, if_neg (by simpa using c_9), show inN x (mN D 4) = false by simpa using c_9]; rfl⟩

set_option maxHeartbeats 1500000 in
set_option maxRecDepth 100000 in
theorem m_suggestionByWords {l : Launch} (hfl : l.stackTraces = false) (Γ : Gm) (K : Nat → Nat → Nat) (M : Mem) (x : Int32) (D : Mem) (w : Wf D) (r : RC D M) : CT l Γ (gFree Γ) yX7_suggestionByWords (wsO yX7_suggestionByWords cX7_suggestionByWords 2 (some .int)) 7 [.ref (K 7 0), .int x] K M (DD True (some (.int (if inN x (mN D 4) = true then (smN D M (ix x) (mN D 3)).1 else 0))) K (sugR D M x)) xNo 0 0 := by
  refine ct_intro hfl (by decide) (Nat.le_of_ble_eq_true rfl) ?_
  intro p e s m args below meth c C ht hr hnm hM ls hl
  have hx := C.1
  have hb := C.2.1
  have hS : va_S (gFree Γ) s.heap s.heap [] := va_S.rf
  have hl : lv_has ls 2 [(0, .ref (K 7 0)), (1, .int x)] := hl
  have r70 := r7 r
  have rn0 := fun k h1 h2 => rn r k h1 h2
  have hb4 := wn4 w
  have hb0 := wn0 w
  have hb2 := wn2 w
  have hb3 := wn3 w
  refine lv_aload_n hx hb dX7_suggestionByWords_0 rfl (lv_at hl 0 rfl) ?_
  refine lv_iload_n hx hb dX7_suggestionByWords_1 rfl (lv_at hl 1 rfl) ?_
  refine g_cV C hS (fun _ h => h) hM hl (fun _ h => h) (m_suggestion hfl Γ _ _ _ D w r) kX7_suggestion t_1638 (HM.recv C hM clo_7 r70) dX7_suggestionByWords_2 rfl rfl (Nat.le_of_ble_eq_true rfl) (by decide) rfl ⟨by decide, by decide⟩ xNo_goes (fun H locs hc_2 hM hS => ?_)
  exact g_iret C hr hM hS dX7_suggestionByWords_5 (by decide) (by decide) ⟨trivial, rfl, rfl, rfl⟩

