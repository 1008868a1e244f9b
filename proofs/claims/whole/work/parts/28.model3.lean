theorem nI_idx {q t : Nat} : (6 : Int32) * nI q + nI t = nI (6 * q + t) := by
  show Int32.ofNat 6 * Int32.ofNat q + Int32.ofNat t = Int32.ofNat (6 * q + t)
  rw [Int32.ofNat_add, Int32.ofNat_mul]
def rNextM (D : Mem) (x : Int32) : Nat := if inN x (mN D 0) = true then (if mnN D (ix x) (mN D 4) = none then 2 else 0) else 1
def rTakeM (D : Mem) (x : Int32) : Nat := if inN x (mN D 0) = true then (if mT D 0 2 (ix x) = 0 ∨ heN D (ix x) (mN D 4) = 3 then 2 else if mnN D (ix x) (mN D 4) = none then 3 else 0) else 1
def rHandM (D : Mem) (x y : Int32) : Nat := if inN x (mN D 4) = true ∧ inN y (mN D 0) = true then (if mP D 4 9 (ix x) = none ∨ mP D 4 9 (ix x) = some (ix y) ∨ heN D (ix y) (mN D 4) = 3 then 2 else if caM D (ix y) (mT D 4 4 (ix x)) = true then 0 else 3) else 1
def rTurns (D : Mem) (x f : Int32) : Nat := if inN x (mN D 4) = true then (if mT D 4 6 (ix x) = f then 0 else 2) else 1
theorem RC_agent {D M : Mem} {t : Nat} {o : Option Nat} (r : RC D M) : RC (sP D 4 9 t o) (sT M 28 t 0 (oI o)) := by
  obtain ⟨r1, r2, r3, r4, r5, r6, r7⟩ := r
  refine ⟨r1, r2, r3, r4, r5, fun u hu => ?_, r7⟩
  obtain ⟨a1, a2, a3, a4, a5, a6⟩ := r6 u hu
  refine ⟨a1, a2, a3, a4, ?_, a6⟩
  rw [mT_sT, mP_sP]
  by_cases e : u = t
  · rw [if_pos ⟨rfl, e, rfl⟩, if_pos ⟨rfl, rfl, e⟩]
  · rw [if_neg (fun z => e z.2.1), if_neg (fun z => e z.2.2)]; exact a5
theorem RC_topic {D M : Mem} {t : Nat} {v : Int32} (r : RC D M) : RC (sT D 4 4 t v) (sT M 26 t 0 v) := by
  obtain ⟨r1, r2, r3, r4, r5, r6, r7⟩ := r
  refine ⟨r1, r2, r3, r4, r5, fun u hu => ?_, r7⟩
  obtain ⟨a1, a2, a3, a6⟩ := r6 u hu
  refine ⟨a1, a2, ?_, a6⟩
  rw [mT_sT, mT_sT]
  by_cases e : u = t
  · rw [if_pos ⟨rfl, e, rfl⟩, if_pos ⟨rfl, rfl, e⟩]
  · rw [if_neg (fun z => e z.2.1), if_neg (fun z => e z.2.2)]; exact a3
set_option maxHeartbeats 4000000 in
set_option maxRecDepth 100000 in
theorem m_nextFor {l : Launch} (hfl : l.stackTraces = false) (Γ : Gm) (K : Nat → Nat → Nat) (M : Mem) (x : Int32) (D : Mem) (w : Wf D) (r : RC D M) : CT l Γ (gFree Γ) yX7_nextFor (wsO yX7_nextFor cX7_nextFor 2 (some .int)) 6 [.ref (K 7 0), .int x] K M (DD True (some (.int (if rNextM D x = 0 then oI (mnN D (ix x) (mN D 4)) else 0))) K (if rNextM D x = 0 then sT M 7 19 0 0 else sT M 7 19 0 (thI (rNextM D x)))) xNo 0 0 := by
  refine ct_intro hfl (by decide) (Nat.le_of_ble_eq_true rfl) ?_
  intro p e s m args below meth c C ht hr hnm hM ls hl
  have hx := C.1
  have hb := C.2.1
  have hS : va_S (gFree Γ) s.heap s.heap [] := va_S.rf
  have hl : lv_has ls 2 [(0, .ref (K 7 0)), (1, .int x)] := hl
  have r70 := r7 r
  have rn0 := fun k h1 h2 => rn r k h1 h2
  have hb4 := wn4 w
  have hb0 := wn0 w
  have hb2 := wn2 w
  have hb3 := wn3 w
  refine lv_aload_n hx hb dX7_nextFor_0 rfl (lv_at hl 0 rfl) ?_
  refine lv_aload_n hx hb dX7_nextFor_1 rfl (lv_at hl 0 rfl) ?_
  refine lv_iload_n hx hb dX7_nextFor_2 rfl (lv_at hl 1 rfl) ?_
  refine g_cV C hS (fun _ h => h) hM hl (fun _ h => h.elim) (m_isAgent hfl Γ _ _ _ D w r) kX7_isAgent t_1530 (HM.recv C hM clo_7 (r7 r)) dX7_nextFor_3 rfl rfl (Nat.le_of_ble_eq_true rfl) (by decide) rfl ⟨by decide, by decide⟩ xNo_goes (fun H locs hc_3 hM hS => ?_)
  refine g_ifneB (tgt := 13) hx hb dX7_nextFor_6 (by decide) (fun c_6 => ?_) (fun c_6 => ?_)
  · skip
    obtain ⟨hx1, hx2⟩ := inN_ix (n := mN D 0) c_6 (by omega)
    have hlt := mnN_lt (D := D) (a := ix x) (mN D 4)
    have hab : ∀ z, mnN D (ix x) (mN D 4) = some z → z < 2 ^ 31 := fun z hz => by have := hlt z hz; omega
    refine lv_aload_n hx hb dX7_nextFor_13 rfl (lv_at hl 0 rfl) ?_
    refine lv_iload_n hx hb dX7_nextFor_14 rfl (lv_at hl 1 rfl) ?_
    refine g_cV C hS (fun _ h => h) hM hl (fun _ h => h.elim) (m_next hfl Γ _ _ _ (ix x) D w r hx2 hx1) kX7_next t_1557 (HM.recv C hM clo_7 r70) dX7_nextFor_15 rfl rfl (Nat.le_of_ble_eq_true rfl) (by decide) rfl ⟨by decide, by decide⟩ xNo_goes (fun H locs hc_15 hM hS => ?_)
    refine g_if_ge (tgt := 25) hx hb dX7_nextFor_18 (by decide) (fun c_18 => ?_) (fun c_18 => ?_)
    · skip
      have hno : ¬ mnN D (ix x) (mN D 4) = none := fun z => c_18 ((oI_neg hab).mpr z)
      refine lv_iconst (v := 0) hx hb dX7_nextFor_25 (by decide) ?_
      refine g_putI C hM hS clo_7 19 (by decide) rfl r70 rfl rfl rfl rfl dX7_nextFor_26 (Or.inl t_1317) (fun H locs hM hS => ?_)
      refine lv_aload_n hx hb dX7_nextFor_29 rfl (lv_at hl 0 rfl) ?_
      refine g_get C hM clo_7 19 (by decide) r70 t_1317 rfl (v := .int (mT _ 7 19 _)) rfl dX7_nextFor_30 ?_
      refine g_if_le (tgt := 40) hx hb dX7_nextFor_33 (by decide) (fun c_33 => ?_) (fun c_33 => ?_)
      · skip
        replace r : RC D (sT M 7 19 0 0) := r
        refine lv_aload_n hx hb dX7_nextFor_40 rfl (lv_at hl 0 rfl) ?_
        refine lv_iload_n hx hb dX7_nextFor_41 rfl (lv_at hl 1 rfl) ?_
        refine g_cV C hS (fun _ h => h) hM hl (fun _ h => h.elim) (m_next hfl Γ _ _ _ (ix x) D w r hx2 hx1) kX7_next t_1557 (HM.recv C hM clo_7 r70) dX7_nextFor_42 rfl rfl (Nat.le_of_ble_eq_true rfl) (by decide) rfl ⟨by decide, by decide⟩ xNo_goes (fun H locs hc_42 hM hS => ?_)
        exact g_iret C hr hM hS dX7_nextFor_45 (by decide) (by decide) ⟨trivial, by simp [rNextM, c_6, hno], rfl, by simp [rNextM, thI, c_6, hno]⟩
      · exact absurd (show (0 : Int32) < 0 from c_33) (by decide)
    · skip
      have hno := (oI_neg hab).mp c_18
      refine lv_iconst (v := 2) hx hb dX7_nextFor_21 (by decide) ?_
      refine lv_goto (tgt := 26) hx hb dX7_nextFor_22 (by decide) ?_
      refine g_putI C hM hS clo_7 19 (by decide) rfl r70 rfl rfl rfl rfl dX7_nextFor_26 (Or.inl t_1317) (fun H locs hM hS => ?_)
      refine lv_aload_n hx hb dX7_nextFor_29 rfl (lv_at hl 0 rfl) ?_
      refine g_get C hM clo_7 19 (by decide) r70 t_1317 rfl (v := .int (mT _ 7 19 _)) rfl dX7_nextFor_30 ?_
      refine g_if_le (tgt := 40) hx hb dX7_nextFor_33 (by decide) (fun c_33 => ?_) (fun c_33 => ?_)
      · exact absurd (show ¬ (0 : Int32) < 2 from c_33) (by decide)
      · skip
        refine lv_iconst (v := 0) hx hb dX7_nextFor_36 (by decide) ?_
        refine lv_goto (tgt := 45) hx hb dX7_nextFor_37 (by decide) ?_
        exact g_iret C hr hM hS dX7_nextFor_45 (by decide) (by decide) ⟨trivial, by simp [rNextM, c_6, hno], rfl, by simp [rNextM, thI, c_6, hno]⟩
  · skip
    refine lv_iconst (v := 1) hx hb dX7_nextFor_9 (by decide) ?_
    refine lv_goto (tgt := 26) hx hb dX7_nextFor_10 (by decide) ?_
    refine g_putI C hM hS clo_7 19 (by decide) rfl r70 rfl rfl rfl rfl dX7_nextFor_26 (Or.inl t_1317) (fun H locs hM hS => ?_)
    refine lv_aload_n hx hb dX7_nextFor_29 rfl (lv_at hl 0 rfl) ?_
    refine g_get C hM clo_7 19 (by decide) r70 t_1317 rfl (v := .int (mT _ 7 19 _)) rfl dX7_nextFor_30 ?_
    refine g_if_le (tgt := 40) hx hb dX7_nextFor_33 (by decide) (fun c_33 => ?_) (fun c_33 => ?_)
    · exact absurd (show ¬ (0 : Int32) < 1 from c_33) (by decide)
    · skip
      refine lv_iconst (v := 0) hx hb dX7_nextFor_36 (by decide) ?_
      refine lv_goto (tgt := 45) hx hb dX7_nextFor_37 (by decide) ?_
      exact g_iret C hr hM hS dX7_nextFor_45 (by decide) (by decide) ⟨trivial, by simp [rNextM, c_6], rfl, by simp [rNextM, thI, c_6]⟩

set_option maxHeartbeats 4000000 in
set_option maxRecDepth 100000 in
theorem m_nextByTickets {l : Launch} (hfl : l.stackTraces = false) (Γ : Gm) (K : Nat → Nat → Nat) (M : Mem) (x : Int32) (D : Mem) (w : Wf D) (r : RC D M) : CT l Γ (gFree Γ) yX7_nextByTickets (wsO yX7_nextByTickets cX7_nextByTickets 2 (some .int)) 7 [.ref (K 7 0), .int x] K M (DD True (some (.int (if rNextM D x = 0 then oI (mnN D (ix x) (mN D 4)) else 0))) K (if rNextM D x = 0 then sT M 7 19 0 0 else sT M 7 19 0 (thI (rNextM D x)))) xNo 0 0 := by
  refine ct_intro hfl (by decide) (Nat.le_of_ble_eq_true rfl) ?_
  intro p e s m args below meth c C ht hr hnm hM ls hl
  have hx := C.1
  have hb := C.2.1
  have hS : va_S (gFree Γ) s.heap s.heap [] := va_S.rf
  have hl : lv_has ls 2 [(0, .ref (K 7 0)), (1, .int x)] := hl
  have r70 := r7 r
  have rn0 := fun k h1 h2 => rn r k h1 h2
  have hb4 := wn4 w
  have hb0 := wn0 w
  have hb2 := wn2 w
  have hb3 := wn3 w
  refine lv_aload_n hx hb dX7_nextByTickets_0 rfl (lv_at hl 0 rfl) ?_
  refine lv_iload_n hx hb dX7_nextByTickets_1 rfl (lv_at hl 1 rfl) ?_
  refine g_cV C hS (fun _ h => h) hM hl (fun _ h => h) (m_nextFor hfl Γ _ _ _ D w r) kX7_nextFor t_1577 (HM.recv C hM clo_7 r70) dX7_nextByTickets_2 rfl rfl (Nat.le_of_ble_eq_true rfl) (by decide) rfl ⟨by decide, by decide⟩ xNo_goes (fun H locs hc_2 hM hS => ?_)
  exact g_iret C hr hM hS dX7_nextByTickets_5 (by decide) (by decide) ⟨trivial, rfl, rfl, rfl⟩

set_option maxHeartbeats 4000000 in
set_option maxRecDepth 100000 in
theorem m_take {l : Launch} (hfl : l.stackTraces = false) (Γ : Gm) (K : Nat → Nat → Nat) (M : Mem) (x : Int32) (D : Mem) (w : Wf D) (r : RC D M) : CT l Γ (gFree Γ) yX7_take (wsO yX7_take cX7_take 3 (some .int)) 6 [.ref (K 7 0), .int x] K M (DD True (some (.int (if rTakeM D x = 0 then oI (mnN D (ix x) (mN D 4)) else 0))) K (if rTakeM D x = 0 then sT (sT M 7 19 0 0) 28 ((mnN D (ix x) (mN D 4)).getD 0) 0 x else sT M 7 19 0 (thI (rTakeM D x)))) xNo 0 0 := by
  refine ct_intro hfl (by decide) (Nat.le_of_ble_eq_true rfl) ?_
  intro p e s m args below meth c C ht hr hnm hM ls hl
  have hx := C.1
  have hb := C.2.1
  have hS : va_S (gFree Γ) s.heap s.heap [] := va_S.rf
  have hl : lv_has ls 3 [(0, .ref (K 7 0)), (1, .int x)] := hl
  have r70 := r7 r
  have rn0 := fun k h1 h2 => rn r k h1 h2
  have hb4 := wn4 w
  have hb0 := wn0 w
  have hb2 := wn2 w
  have hb3 := wn3 w
  refine lv_aload_n hx hb dX7_take_0 rfl (lv_at hl 0 rfl) ?_
  refine lv_aload_n hx hb dX7_take_1 rfl (lv_at hl 0 rfl) ?_
  refine lv_iload_n hx hb dX7_take_2 rfl (lv_at hl 1 rfl) ?_
  refine g_cV C hS (fun _ h => h) hM hl (fun _ h => h.elim) (m_isAgent hfl Γ _ _ _ D w r) kX7_isAgent t_1530 (HM.recv C hM clo_7 (r7 r)) dX7_take_3 rfl rfl (Nat.le_of_ble_eq_true rfl) (by decide) rfl ⟨by decide, by decide⟩ xNo_goes (fun H locs hc_3 hM hS => ?_)
  refine g_ifneB (tgt := 13) hx hb dX7_take_6 (by decide) (fun c_6 => ?_) (fun c_6 => ?_)
  · skip
    obtain ⟨hx1, hx2⟩ := inN_ix (n := mN D 0) c_6 (by omega)
    have hlt := mnN_lt (D := D) (a := ix x) (mN D 4)
    have hab : ∀ z, mnN D (ix x) (mN D 4) = some z → z < 2 ^ 31 := fun z hz => by have := hlt z hz; omega
    refine lv_aload_n hx hb dX7_take_13 rfl (lv_at hl 0 rfl) ?_
    refine g_get C hM clo_7 15 (by decide) r70 t_1313 rfl (v := _) (fv4 rfl) dX7_take_14 ?_
    refine lv_iload_n hx hb dX7_take_17 rfl (lv_at hl 1 rfl) ?_
    refine g_zald C hM rw_35 (rn0 35 (by decide) (by decide)) (ix x) hx2 (by omega) (by decide) dX7_take_18 ?_
    rw [ron r hx1]
    refine lv_if_eq (tgt := 31) hx hb dX7_take_19 (by decide) (fun c_19 => ?_) (fun c_19 => ?_)
    · skip
      refine lv_iconst (v := 2) hx hb dX7_take_31 (by decide) ?_
      refine lv_goto (tgt := 48) hx hb dX7_take_32 (by decide) ?_
      refine g_putI C hM hS clo_7 19 (by decide) rfl r70 rfl rfl rfl rfl dX7_take_48 (Or.inl t_1317) (fun H locs hM hS => ?_)
      refine lv_aload_n hx hb dX7_take_51 rfl (lv_at hl 0 rfl) ?_
      refine g_get C hM clo_7 19 (by decide) r70 t_1317 rfl (v := .int (mT _ 7 19 _)) rfl dX7_take_52 ?_
      refine g_if_le (tgt := 60) hx hb dX7_take_55 (by decide) (fun c_55 => ?_) (fun c_55 => ?_)
      · exact absurd (show ¬ (0 : Int32) < 2 from c_55) (by decide)
      · skip
        refine lv_iconst (v := 0) hx hb dX7_take_58 (by decide) ?_
        exact g_iret C hr hM hS dX7_take_59 (by decide) (by decide) ⟨trivial, by simp [rTakeM, c_6, c_19], rfl, by simp [rTakeM, thI, c_6, c_19]⟩
    · skip
      refine lv_aload_n hx hb dX7_take_22 rfl (lv_at hl 0 rfl) ?_
      refine lv_iload_n hx hb dX7_take_23 rfl (lv_at hl 1 rfl) ?_
      refine g_cV C hS (fun _ h => h) hM hl (fun _ h => h.elim) (m_heldBy hfl Γ _ _ _ (ix x) D w r hx2 hx1) kX7_heldBy t_1545 (HM.recv C hM clo_7 r70) dX7_take_24 rfl rfl (Nat.le_of_ble_eq_true rfl) (by decide) rfl ⟨by decide, by decide⟩ xNo_goes (fun H locs hc_24 hM hS => ?_)
      refine lv_iconst (v := 3) hx hb dX7_take_27 (by decide) ?_
      refine lv_icmp_ne (tgt := 35) hx hb dX7_take_28 (by decide) (fun c_28 => ?_) (fun c_28 => ?_)
      · skip
        refine lv_aload_n hx hb dX7_take_35 rfl (lv_at hl 0 rfl) ?_
        refine lv_iload_n hx hb dX7_take_36 rfl (lv_at hl 1 rfl) ?_
        refine g_cV C hS (fun _ h => h) hM hl (fun _ h => h.elim) (m_next hfl Γ _ _ _ (ix x) D w r hx2 hx1) kX7_next t_1557 (HM.recv C hM clo_7 r70) dX7_take_37 rfl rfl (Nat.le_of_ble_eq_true rfl) (by decide) rfl ⟨by decide, by decide⟩ xNo_goes (fun H locs hc_37 hM hS => ?_)
        refine g_if_ge (tgt := 47) hx hb dX7_take_40 (by decide) (fun c_40 => ?_) (fun c_40 => ?_)
        · skip
          have hno : ¬ mnN D (ix x) (mN D 4) = none := fun z => c_40 ((oI_neg hab).mpr z)
          refine lv_iconst (v := 0) hx hb dX7_take_47 (by decide) ?_
          refine g_putI C hM hS clo_7 19 (by decide) rfl r70 rfl rfl rfl rfl dX7_take_48 (Or.inl t_1317) (fun H locs hM hS => ?_)
          refine lv_aload_n hx hb dX7_take_51 rfl (lv_at hl 0 rfl) ?_
          refine g_get C hM clo_7 19 (by decide) r70 t_1317 rfl (v := .int (mT _ 7 19 _)) rfl dX7_take_52 ?_
          refine g_if_le (tgt := 60) hx hb dX7_take_55 (by decide) (fun c_55 => ?_) (fun c_55 => ?_)
          · skip
            replace r : RC D (sT M 7 19 0 0) := r
            obtain ⟨b, hbb⟩ : ∃ b, mnN D (ix x) (mN D 4) = some b := Option.ne_none_iff_exists'.mp hno
            have hb5 := hlt b hbb
            refine lv_aload_n hx hb dX7_take_60 rfl (lv_at hl 0 rfl) ?_
            refine lv_iload_n hx hb dX7_take_61 rfl (lv_at hl 1 rfl) ?_
            refine g_cV C hS (fun _ h => h) hM hl (fun _ h => h.elim) (m_next hfl Γ _ _ _ (ix x) D w r hx2 hx1) kX7_next t_1557 (HM.recv C hM clo_7 r70) dX7_take_62 rfl rfl (Nat.le_of_ble_eq_true rfl) (by decide) rfl ⟨by decide, by decide⟩ xNo_goes (fun H locs hc_62 hM hS => ?_)
            refine lv_istore_n (lv' := [(2, _), (0, _), (1, _)]) hx hb dX7_take_65 rfl hl (by decide) rfl (fun ls hl => ?_)
            refine lv_aload_n hx hb dX7_take_66 rfl (lv_at hl 1 rfl) ?_
            refine g_get C hM clo_7 8 (by decide) r70 t_1306 rfl (v := _) (fv4 rfl) dX7_take_67 ?_
            refine lv_iload_n hx hb dX7_take_70 rfl (lv_at hl 0 rfl) ?_
            refine lv_iload_n hx hb dX7_take_71 rfl (lv_at hl 2 rfl) ?_
            refine g_iast C hM hS rw_28 (rn0 28 (by decide) (by decide)) b (by rw [hbb]; rfl) (by omega) (by decide) dX7_take_72 (fun H locs hM hS => ?_)
            refine lv_iload_n hx hb dX7_take_73 rfl (lv_at hl 0 rfl) ?_
            exact g_iret C hr hM hS dX7_take_74 (by decide) (by decide) ⟨trivial, by simp [rTakeM, c_6, c_19, c_28, hno, hbb], rfl, by simp [rTakeM, thI, c_6, c_19, c_28, hno, hbb]⟩
          · exact absurd (show (0 : Int32) < 0 from c_55) (by decide)
        · skip
          have hno := (oI_neg hab).mp c_40
          refine lv_iconst (v := 3) hx hb dX7_take_43 (by decide) ?_
          refine lv_goto (tgt := 48) hx hb dX7_take_44 (by decide) ?_
          refine g_putI C hM hS clo_7 19 (by decide) rfl r70 rfl rfl rfl rfl dX7_take_48 (Or.inl t_1317) (fun H locs hM hS => ?_)
          refine lv_aload_n hx hb dX7_take_51 rfl (lv_at hl 0 rfl) ?_
          refine g_get C hM clo_7 19 (by decide) r70 t_1317 rfl (v := .int (mT _ 7 19 _)) rfl dX7_take_52 ?_
          refine g_if_le (tgt := 60) hx hb dX7_take_55 (by decide) (fun c_55 => ?_) (fun c_55 => ?_)
          · exact absurd (show ¬ (0 : Int32) < 3 from c_55) (by decide)
          · skip
            refine lv_iconst (v := 0) hx hb dX7_take_58 (by decide) ?_
            exact g_iret C hr hM hS dX7_take_59 (by decide) (by decide) ⟨trivial, by simp [rTakeM, c_6, c_19, c_28, hno], rfl, by simp [rTakeM, thI, c_6, c_19, c_28, hno]⟩
      · skip
        refine lv_iconst (v := 2) hx hb dX7_take_31 (by decide) ?_
        refine lv_goto (tgt := 48) hx hb dX7_take_32 (by decide) ?_
        refine g_putI C hM hS clo_7 19 (by decide) rfl r70 rfl rfl rfl rfl dX7_take_48 (Or.inl t_1317) (fun H locs hM hS => ?_)
        refine lv_aload_n hx hb dX7_take_51 rfl (lv_at hl 0 rfl) ?_
        refine g_get C hM clo_7 19 (by decide) r70 t_1317 rfl (v := .int (mT _ 7 19 _)) rfl dX7_take_52 ?_
        refine g_if_le (tgt := 60) hx hb dX7_take_55 (by decide) (fun c_55 => ?_) (fun c_55 => ?_)
        · exact absurd (show ¬ (0 : Int32) < 2 from c_55) (by decide)
        · skip
          refine lv_iconst (v := 0) hx hb dX7_take_58 (by decide) ?_
          exact g_iret C hr hM hS dX7_take_59 (by decide) (by decide) ⟨trivial, by simp [rTakeM, c_6, c_19, c_28], rfl, by simp [rTakeM, thI, c_6, c_19, c_28]⟩
  · skip
    refine lv_iconst (v := 1) hx hb dX7_take_9 (by decide) ?_
    refine lv_goto (tgt := 48) hx hb dX7_take_10 (by decide) ?_
    refine g_putI C hM hS clo_7 19 (by decide) rfl r70 rfl rfl rfl rfl dX7_take_48 (Or.inl t_1317) (fun H locs hM hS => ?_)
    refine lv_aload_n hx hb dX7_take_51 rfl (lv_at hl 0 rfl) ?_
    refine g_get C hM clo_7 19 (by decide) r70 t_1317 rfl (v := .int (mT _ 7 19 _)) rfl dX7_take_52 ?_
    refine g_if_le (tgt := 60) hx hb dX7_take_55 (by decide) (fun c_55 => ?_) (fun c_55 => ?_)
    · exact absurd (show ¬ (0 : Int32) < 1 from c_55) (by decide)
    · skip
      refine lv_iconst (v := 0) hx hb dX7_take_58 (by decide) ?_
      exact g_iret C hr hM hS dX7_take_59 (by decide) (by decide) ⟨trivial, by simp [rTakeM, c_6], rfl, by simp [rTakeM, thI, c_6]⟩

set_option maxHeartbeats 4000000 in
set_option maxRecDepth 100000 in
theorem m_turns {l : Launch} (hfl : l.stackTraces = false) (Γ : Gm) (K : Nat → Nat → Nat) (M : Mem) (x : Int32) (f : Int32) (g : Int32) (D : Mem) (w : Wf D) (r : RC D M) (hg : narrow .char (.int g) = .int g) : CT l Γ (gFree Γ) yX7_turns (wsO yX7_turns cX7_turns 4 (some .int)) 6 [.ref (K 7 0), .int x, .int f, .int g] K M (DD True (some (.int (if rTurns D x f = 0 then mT D 4 7 (ix x) else 0))) K (if rTurns D x f = 0 then sT (sT M 7 19 0 0) 33 (ix x) 0 g else sT M 7 19 0 (thI (rTurns D x f)))) xNo 0 0 := by
  refine ct_intro hfl (by decide) (Nat.le_of_ble_eq_true rfl) ?_
  intro p e s m args below meth c C ht hr hnm hM ls hl
  have hx := C.1
  have hb := C.2.1
  have hS : va_S (gFree Γ) s.heap s.heap [] := va_S.rf
  have hl : lv_has ls 4 [(0, .ref (K 7 0)), (1, .int x), (2, .int f), (3, .int g)] := hl
  have r70 := r7 r
  have rn0 := fun k h1 h2 => rn r k h1 h2
  have hb4 := wn4 w
  have hb0 := wn0 w
  have hb2 := wn2 w
  have hb3 := wn3 w
  refine lv_aload_n hx hb dX7_turns_0 rfl (lv_at hl 0 rfl) ?_
  refine lv_aload_n hx hb dX7_turns_1 rfl (lv_at hl 0 rfl) ?_
  refine lv_iload_n hx hb dX7_turns_2 rfl (lv_at hl 1 rfl) ?_
  refine g_cV C hS (fun _ h => h) hM hl (fun _ h => h.elim) (m_isTicket hfl Γ _ _ _ D w r) kX7_isTicket t_1474 (HM.recv C hM clo_7 (r7 r)) dX7_turns_3 rfl rfl (Nat.le_of_ble_eq_true rfl) (by decide) rfl ⟨by decide, by decide⟩ xNo_goes (fun H locs hc_3 hM hS => ?_)
  refine g_ifneB (tgt := 13) hx hb dX7_turns_6 (by decide) (fun c_6 => ?_) (fun c_6 => ?_)
  · skip
    obtain ⟨hx1, hx2⟩ := inN_ix (n := mN D 4) c_6 (by omega)
    refine lv_aload_n hx hb dX7_turns_13 rfl (lv_at hl 0 rfl) ?_
    refine g_get C hM clo_7 13 (by decide) r70 t_1311 rfl (v := _) (fv4 rfl) dX7_turns_14 ?_
    refine lv_iload_n hx hb dX7_turns_17 rfl (lv_at hl 1 rfl) ?_
    refine g_cald C hM rw_33 (rn0 33 (by decide) (by decide)) (ix x) hx2 (by omega) (by decide) dX7_turns_18 ?_
    rw [rst r hx1]
    refine lv_iload_n hx hb dX7_turns_19 rfl (lv_at hl 2 rfl) ?_
    refine lv_icmp_eq (tgt := 27) hx hb dX7_turns_20 (by decide) (fun c_20 => ?_) (fun c_20 => ?_)
    · skip
      refine lv_iconst (v := 0) hx hb dX7_turns_27 (by decide) ?_
      refine g_putI C hM hS clo_7 19 (by decide) rfl r70 rfl rfl rfl rfl dX7_turns_28 (Or.inl t_1317) (fun H locs hM hS => ?_)
      refine lv_aload_n hx hb dX7_turns_31 rfl (lv_at hl 0 rfl) ?_
      refine g_get C hM clo_7 19 (by decide) r70 t_1317 rfl (v := .int (mT _ 7 19 _)) rfl dX7_turns_32 ?_
      refine g_if_le (tgt := 40) hx hb dX7_turns_35 (by decide) (fun c_35 => ?_) (fun c_35 => ?_)
      · skip
        replace r : RC D (sT M 7 19 0 0) := r
        refine lv_aload_n hx hb dX7_turns_40 rfl (lv_at hl 0 rfl) ?_
        refine g_get C hM clo_7 13 (by decide) r70 t_1311 rfl (v := _) (fv4 rfl) dX7_turns_41 ?_
        refine lv_iload_n hx hb dX7_turns_44 rfl (lv_at hl 1 rfl) ?_
        refine lv_iload_n hx hb dX7_turns_45 rfl (lv_at hl 3 rfl) ?_
        refine g_cast C hM hS rw_33 (rn0 33 (by decide) (by decide)) (ix x) hx2 (by omega) (by decide) hg dX7_turns_46 (fun H locs hM hS => ?_)
        refine lv_aload_n hx hb dX7_turns_47 rfl (lv_at hl 0 rfl) ?_
        refine g_get C hM clo_7 7 (by decide) r70 t_1305 rfl (v := _) (fv4 rfl) dX7_turns_48 ?_
        refine lv_iload_n hx hb dX7_turns_51 rfl (lv_at hl 1 rfl) ?_
        refine g_iald C hM rw_27 (rn0 27 (by decide) (by decide)) (ix x) hx2 (by omega) (by decide) dX7_turns_52 ?_
        rw [show mT (sT (sT M 7 19 0 0) 33 (ix x) 0 g) 27 (ix x) 0 = mT D 4 7 (ix x) from rclk r hx1]
        exact g_iret C hr hM hS dX7_turns_53 (by decide) (by decide) ⟨trivial, by simp [rTurns, thI, bI, c_6, c_20], rfl, by simp [rTurns, thI, bI, c_6, c_20]⟩
      · exact absurd (show (0 : Int32) < 0 from c_35) (by decide)
    · skip
      refine lv_iconst (v := 2) hx hb dX7_turns_23 (by decide) ?_
      refine lv_goto (tgt := 28) hx hb dX7_turns_24 (by decide) ?_
      refine g_putI C hM hS clo_7 19 (by decide) rfl r70 rfl rfl rfl rfl dX7_turns_28 (Or.inl t_1317) (fun H locs hM hS => ?_)
      refine lv_aload_n hx hb dX7_turns_31 rfl (lv_at hl 0 rfl) ?_
      refine g_get C hM clo_7 19 (by decide) r70 t_1317 rfl (v := .int (mT _ 7 19 _)) rfl dX7_turns_32 ?_
      refine g_if_le (tgt := 40) hx hb dX7_turns_35 (by decide) (fun c_35 => ?_) (fun c_35 => ?_)
      · exact absurd (show ¬ (0 : Int32) < 2 from c_35) (by decide)
      · skip
        refine lv_iconst (v := 0) hx hb dX7_turns_38 (by decide) ?_
        exact g_iret C hr hM hS dX7_turns_39 (by decide) (by decide) ⟨trivial, by simp [rTurns, thI, bI, c_6, c_20], rfl, by simp [rTurns, thI, bI, c_6, c_20]⟩
  · skip
    refine lv_iconst (v := 1) hx hb dX7_turns_9 (by decide) ?_
    refine lv_goto (tgt := 28) hx hb dX7_turns_10 (by decide) ?_
    refine g_putI C hM hS clo_7 19 (by decide) rfl r70 rfl rfl rfl rfl dX7_turns_28 (Or.inl t_1317) (fun H locs hM hS => ?_)
    refine lv_aload_n hx hb dX7_turns_31 rfl (lv_at hl 0 rfl) ?_
    refine g_get C hM clo_7 19 (by decide) r70 t_1317 rfl (v := .int (mT _ 7 19 _)) rfl dX7_turns_32 ?_
    refine g_if_le (tgt := 40) hx hb dX7_turns_35 (by decide) (fun c_35 => ?_) (fun c_35 => ?_)
    · exact absurd (show ¬ (0 : Int32) < 1 from c_35) (by decide)
    · skip
      refine lv_iconst (v := 0) hx hb dX7_turns_38 (by decide) ?_
      exact g_iret C hr hM hS dX7_turns_39 (by decide) (by decide) ⟨trivial, by simp [rTurns, thI, bI, c_6], rfl, by simp [rTurns, thI, bI, c_6]⟩

set_option maxHeartbeats 4000000 in
set_option maxRecDepth 100000 in
theorem m_hold {l : Launch} (hfl : l.stackTraces = false) (Γ : Gm) (K : Nat → Nat → Nat) (M : Mem) (x : Int32) (D : Mem) (w : Wf D) (r : RC D M) : CT l Γ (gFree Γ) yX7_hold (wsO yX7_hold cX7_hold 2 (some .int)) 7 [.ref (K 7 0), .int x] K M (DD True (some (.int (if rTurns D x 111 = 0 then mT D 4 7 (ix x) else 0))) K (if rTurns D x 111 = 0 then sT (sT M 7 19 0 0) 33 (ix x) 0 104 else sT M 7 19 0 (thI (rTurns D x 111)))) xNo 0 0 := by
  refine ct_intro hfl (by decide) (Nat.le_of_ble_eq_true rfl) ?_
  intro p e s m args below meth c C ht hr hnm hM ls hl
  have hx := C.1
  have hb := C.2.1
  have hS : va_S (gFree Γ) s.heap s.heap [] := va_S.rf
  have hl : lv_has ls 2 [(0, .ref (K 7 0)), (1, .int x)] := hl
  have r70 := r7 r
  have rn0 := fun k h1 h2 => rn r k h1 h2
  have hb4 := wn4 w
  have hb0 := wn0 w
  have hb2 := wn2 w
  have hb3 := wn3 w
  refine lv_aload_n hx hb dX7_hold_0 rfl (lv_at hl 0 rfl) ?_
  refine lv_iload_n hx hb dX7_hold_1 rfl (lv_at hl 1 rfl) ?_
  refine lv_bipush (v := 111) hx hb dX7_hold_2 (by decide) ?_
  refine lv_bipush (v := 104) hx hb dX7_hold_4 (by decide) ?_
  refine g_cV C hS (fun _ h => h) hM hl (fun _ h => h) (m_turns hfl Γ _ _ _ _ _ D w r rfl) kX7_turns t_1598 (HM.recv C hM clo_7 r70) dX7_hold_6 rfl rfl (Nat.le_of_ble_eq_true rfl) (by decide) rfl ⟨by decide, by decide⟩ xNo_goes (fun H locs hc_6 hM hS => ?_)
  exact g_iret C hr hM hS dX7_hold_9 (by decide) (by decide) ⟨trivial, rfl, rfl, rfl⟩

set_option maxHeartbeats 4000000 in
set_option maxRecDepth 100000 in
theorem m_resume {l : Launch} (hfl : l.stackTraces = false) (Γ : Gm) (K : Nat → Nat → Nat) (M : Mem) (x : Int32) (D : Mem) (w : Wf D) (r : RC D M) : CT l Γ (gFree Γ) yX7_resume (wsO yX7_resume cX7_resume 2 (some .int)) 7 [.ref (K 7 0), .int x] K M (DD True (some (.int (if rTurns D x 104 = 0 then mT D 4 7 (ix x) else 0))) K (if rTurns D x 104 = 0 then sT (sT M 7 19 0 0) 33 (ix x) 0 111 else sT M 7 19 0 (thI (rTurns D x 104)))) xNo 0 0 := by
  refine ct_intro hfl (by decide) (Nat.le_of_ble_eq_true rfl) ?_
  intro p e s m args below meth c C ht hr hnm hM ls hl
  have hx := C.1
  have hb := C.2.1
  have hS : va_S (gFree Γ) s.heap s.heap [] := va_S.rf
  have hl : lv_has ls 2 [(0, .ref (K 7 0)), (1, .int x)] := hl
  have r70 := r7 r
  have rn0 := fun k h1 h2 => rn r k h1 h2
  have hb4 := wn4 w
  have hb0 := wn0 w
  have hb2 := wn2 w
  have hb3 := wn3 w
  refine lv_aload_n hx hb dX7_resume_0 rfl (lv_at hl 0 rfl) ?_
  refine lv_iload_n hx hb dX7_resume_1 rfl (lv_at hl 1 rfl) ?_
  refine lv_bipush (v := 104) hx hb dX7_resume_2 (by decide) ?_
  refine lv_bipush (v := 111) hx hb dX7_resume_4 (by decide) ?_
  refine g_cV C hS (fun _ h => h) hM hl (fun _ h => h) (m_turns hfl Γ _ _ _ _ _ D w r rfl) kX7_turns t_1598 (HM.recv C hM clo_7 r70) dX7_resume_6 rfl rfl (Nat.le_of_ble_eq_true rfl) (by decide) rfl ⟨by decide, by decide⟩ xNo_goes (fun H locs hc_6 hM hS => ?_)
  exact g_iret C hr hM hS dX7_resume_9 (by decide) (by decide) ⟨trivial, rfl, rfl, rfl⟩

def stoR (D M : Mem) (i : Nat) (y : Int32) : Mem := match mP D 4 9 i with
  | none => sT M 26 i 0 y
  | some a => if hsM D a y = true then sT M 26 i 0 y else sT (sT M 26 i 0 y) 28 i 0 (-1)
set_option maxHeartbeats 4000000 in
set_option maxRecDepth 100000 in
theorem m_setTopic {l : Launch} (hfl : l.stackTraces = false) (Γ : Gm) (K : Nat → Nat → Nat) (M : Mem) (x : Int32) (y : Int32) (D : Mem) (w : Wf D) (r : RC D M) : CT l Γ (gFree Γ) yX7_setTopic (wsO yX7_setTopic cX7_setTopic 4 (some .int)) 6 [.ref (K 7 0), .int x, .int y] K M (DD True (some (.int (if rSetTopic D x y = 0 then mT D 4 4 (ix x) else 0))) K (if rSetTopic D x y = 0 then stoR D (sT M 7 19 0 0) (ix x) y else sT M 7 19 0 (thI (rSetTopic D x y)))) xNo 0 0 := by
  refine ct_intro hfl (by decide) (Nat.le_of_ble_eq_true rfl) ?_
  intro p e s m args below meth c C ht hr hnm hM ls hl
  have hx := C.1
  have hb := C.2.1
  have hS : va_S (gFree Γ) s.heap s.heap [] := va_S.rf
  have hl : lv_has ls 4 [(0, .ref (K 7 0)), (1, .int x), (2, .int y)] := hl
  have r70 := r7 r
  have rn0 := fun k h1 h2 => rn r k h1 h2
  have hb4 := wn4 w
  have hb0 := wn0 w
  have hb2 := wn2 w
  have hb3 := wn3 w
  refine lv_aload_n hx hb dX7_setTopic_0 rfl (lv_at hl 0 rfl) ?_
  refine lv_aload_n hx hb dX7_setTopic_1 rfl (lv_at hl 0 rfl) ?_
  refine lv_iload_n hx hb dX7_setTopic_2 rfl (lv_at hl 1 rfl) ?_
  refine g_cV C hS (fun _ h => h) hM hl (fun _ h => h.elim) (m_isTicket hfl Γ _ _ _ D w r) kX7_isTicket t_1474 (HM.recv C hM clo_7 (r7 r)) dX7_setTopic_3 rfl rfl (Nat.le_of_ble_eq_true rfl) (by decide) rfl ⟨by decide, by decide⟩ xNo_goes (fun H locs hc_3 hM hS => ?_)
  refine g_ifneB (tgt := 13) hx hb dX7_setTopic_6 (by decide) (fun c_6 => ?_) (fun c_6 => ?_)
  · skip
    obtain ⟨hx1, hx2⟩ := inN_ix (n := mN D 4) c_6 (by omega)
    have hab : ∀ z, mP D 4 9 (ix x) = some z → z < 2 ^ 31 := fun z hz => by have := (w.2.2.1 _ hx1).2.2.2.2.1 z hz; omega
    refine lv_iload_n hx hb dX7_setTopic_13 rfl (lv_at hl 2 rfl) ?_
    refine lv_iconst (v := 0) hx hb dX7_setTopic_14 (by decide) ?_
    refine lv_iconst (v := 5) hx hb dX7_setTopic_15 (by decide) ?_
    refine g_cS C hS (fun _ h => h) hM hl (fun _ h => h.elim) (m_in hfl Γ _ _ _ _ _) kX7_in t_1399 dX7_setTopic_16 rfl rfl (Nat.le_of_ble_eq_true rfl) (by decide) rfl ⟨by decide, by decide⟩ xNo_goes (fun H locs hc_16 hM hS => ?_)
    refine g_ifneB (tgt := 26) hx hb dX7_setTopic_19 (by decide) (fun c_19 => ?_) (fun c_19 => ?_)
    · skip
      refine lv_aload_n hx hb dX7_setTopic_26 rfl (lv_at hl 0 rfl) ?_
      refine lv_iload_n hx hb dX7_setTopic_27 rfl (lv_at hl 1 rfl) ?_
      refine g_cV C hS (fun _ h => h) hM hl (fun _ h => h.elim) (m_isLive hfl Γ _ _ _ (ix x) D w r hx2 hx1) kX7_isLive t_1442 (HM.recv C hM clo_7 r70) dX7_setTopic_28 rfl rfl (Nat.le_of_ble_eq_true rfl) (by decide) rfl ⟨by decide, by decide⟩ xNo_goes (fun H locs hc_28 hM hS => ?_)
      refine g_ifneB (tgt := 38) hx hb dX7_setTopic_31 (by decide) (fun c_31 => ?_) (fun c_31 => ?_)
      · skip
        refine lv_iconst (v := 0) hx hb dX7_setTopic_38 (by decide) ?_
        refine g_putI C hM hS clo_7 19 (by decide) rfl r70 rfl rfl rfl rfl dX7_setTopic_39 (Or.inl t_1317) (fun H locs hM hS => ?_)
        refine lv_aload_n hx hb dX7_setTopic_42 rfl (lv_at hl 0 rfl) ?_
        refine g_get C hM clo_7 19 (by decide) r70 t_1317 rfl (v := .int (mT _ 7 19 _)) rfl dX7_setTopic_43 ?_
        refine g_if_le (tgt := 51) hx hb dX7_setTopic_46 (by decide) (fun c_46 => ?_) (fun c_46 => ?_)
        · skip
          replace r : RC D (sT M 7 19 0 0) := r
          obtain ⟨hy1, hy2⟩ := inB_ix (n := 6) c_19 (by omega)
          refine lv_aload_n hx hb dX7_setTopic_51 rfl (lv_at hl 0 rfl) ?_
          refine g_get C hM clo_7 6 (by decide) r70 t_1304 rfl (v := _) (fv4 rfl) dX7_setTopic_52 ?_
          refine lv_iload_n hx hb dX7_setTopic_55 rfl (lv_at hl 1 rfl) ?_
          refine g_iald C hM rw_26 (rn0 26 (by decide) (by decide)) (ix x) hx2 (by omega) (by decide) dX7_setTopic_56 ?_
          rw [rtop r hx1]
          refine lv_istore_n (lv' := [(3, _), (0, _), (1, _), (2, _)]) hx hb dX7_setTopic_57 rfl hl (by decide) rfl (fun ls hl => ?_)
          refine lv_aload_n hx hb dX7_setTopic_58 rfl (lv_at hl 1 rfl) ?_
          refine g_get C hM clo_7 6 (by decide) r70 t_1304 rfl (v := _) (fv4 rfl) dX7_setTopic_59 ?_
          refine lv_iload_n hx hb dX7_setTopic_62 rfl (lv_at hl 2 rfl) ?_
          refine lv_iload_n hx hb dX7_setTopic_63 rfl (lv_at hl 3 rfl) ?_
          refine g_iast C hM hS rw_26 (rn0 26 (by decide) (by decide)) (ix x) hx2 (by omega) (by decide) dX7_setTopic_64 (fun H locs hM hS => ?_)
          refine lv_aload_n hx hb dX7_setTopic_65 rfl (lv_at hl 1 rfl) ?_
          refine g_get C hM clo_7 8 (by decide) r70 t_1306 rfl (v := _) (fv4 rfl) dX7_setTopic_66 ?_
          refine lv_iload_n hx hb dX7_setTopic_69 rfl (lv_at hl 2 rfl) ?_
          refine g_iald C hM rw_28 (rn0 28 (by decide) (by decide)) (ix x) hx2 (by omega) (by decide) dX7_setTopic_70 ?_
          rw [show mT (sT (sT M 7 19 0 0) 26 (ix x) 0 y) 28 (ix x) 0 = oI (mP D 4 9 (ix x)) from ragt r hx1]
          refine lv_if_lt (tgt := 95) hx hb dX7_setTopic_71 (by decide) (fun c_71 => ?_) (fun c_71 => ?_)
          · skip
            have hno := (oI_neg hab).mp c_71
            refine lv_iload_n hx hb dX7_setTopic_95 rfl (lv_at hl 0 rfl) ?_
            exact g_iret C hr hM hS dX7_setTopic_96 (by decide) (by decide) ⟨trivial, by simp [rSetTopic, c_6, c_19, c_31, hno], rfl, by simp [rSetTopic, stoR, c_6, c_19, c_31, hno]⟩
          · skip
            refine lv_aload_n hx hb dX7_setTopic_74 rfl (lv_at hl 1 rfl) ?_
            refine lv_aload_n hx hb dX7_setTopic_75 rfl (lv_at hl 1 rfl) ?_
            refine g_get C hM clo_7 8 (by decide) r70 t_1306 rfl (v := _) (fv4 rfl) dX7_setTopic_76 ?_
            refine lv_iload_n hx hb dX7_setTopic_79 rfl (lv_at hl 2 rfl) ?_
            refine g_iald C hM rw_28 (rn0 28 (by decide) (by decide)) (ix x) hx2 (by omega) (by decide) dX7_setTopic_80 ?_
            rw [show mT (sT (sT M 7 19 0 0) 26 (ix x) 0 y) 28 (ix x) 0 = oI (mP D 4 9 (ix x)) from ragt r hx1]
            obtain ⟨b, hbb⟩ : ∃ b, mP D 4 9 (ix x) = some b := Option.ne_none_iff_exists'.mp (fun z => c_71 ((oI_neg hab).mpr z))
            have hb5 := (w.2.2.1 _ hx1).2.2.2.2.1 b hbb
            have wt : Wf (sT D 4 4 (ix x) y) := by rw [hy2]; exact wf_topic hy1 w
            refine lv_iload_n hx hb dX7_setTopic_81 rfl (lv_at hl 3 rfl) ?_
            refine g_cV C hS (fun _ h => h) hM hl (fun _ h => h.elim) (m_hasSkill hfl Γ _ _ _ _ b (sT D 4 4 (ix x) y) wt (RC_topic r) (by rw [hbb]; rfl) hb5) kX7_hasSkill t_1502 (HM.recv C hM clo_7 r70) dX7_setTopic_82 rfl rfl (Nat.le_of_ble_eq_true rfl) (by decide) rfl ⟨by decide, by decide⟩ xNo_goes (fun H locs hc_82 hM hS => ?_)
            refine g_ifneB (tgt := 95) hx hb dX7_setTopic_85 (by decide) (fun c_85 => ?_) (fun c_85 => ?_)
            · skip
              refine lv_iload_n hx hb dX7_setTopic_95 rfl (lv_at hl 0 rfl) ?_
              exact g_iret C hr hM hS dX7_setTopic_96 (by decide) (by decide) ⟨trivial, by simp [rSetTopic, c_6, c_19, c_31, hbb, show hsM D b y = _ from c_85], rfl, by simp [rSetTopic, stoR, c_6, c_19, c_31, hbb, show hsM D b y = _ from c_85]⟩
            · skip
              refine lv_aload_n hx hb dX7_setTopic_88 rfl (lv_at hl 1 rfl) ?_
              refine g_get C hM clo_7 8 (by decide) r70 t_1306 rfl (v := _) (fv4 rfl) dX7_setTopic_89 ?_
              refine lv_iload_n hx hb dX7_setTopic_92 rfl (lv_at hl 2 rfl) ?_
              refine lv_iconst (v := -1) hx hb dX7_setTopic_93 (by decide) ?_
              refine g_iast C hM hS rw_28 (rn0 28 (by decide) (by decide)) (ix x) hx2 (by omega) (by decide) dX7_setTopic_94 (fun H locs hM hS => ?_)
              refine lv_iload_n hx hb dX7_setTopic_95 rfl (lv_at hl 0 rfl) ?_
              exact g_iret C hr hM hS dX7_setTopic_96 (by decide) (by decide) ⟨trivial, by simp [rSetTopic, c_6, c_19, c_31, hbb, show hsM D b y = _ from c_85], rfl, by simp [rSetTopic, stoR, c_6, c_19, c_31, hbb, show hsM D b y = _ from c_85]⟩
        · exact absurd (show (0 : Int32) < 0 from c_46) (by decide)
      · skip
        refine lv_iconst (v := 3) hx hb dX7_setTopic_34 (by decide) ?_
        refine lv_goto (tgt := 39) hx hb dX7_setTopic_35 (by decide) ?_
        refine g_putI C hM hS clo_7 19 (by decide) rfl r70 rfl rfl rfl rfl dX7_setTopic_39 (Or.inl t_1317) (fun H locs hM hS => ?_)
        refine lv_aload_n hx hb dX7_setTopic_42 rfl (lv_at hl 0 rfl) ?_
        refine g_get C hM clo_7 19 (by decide) r70 t_1317 rfl (v := .int (mT _ 7 19 _)) rfl dX7_setTopic_43 ?_
        refine g_if_le (tgt := 51) hx hb dX7_setTopic_46 (by decide) (fun c_46 => ?_) (fun c_46 => ?_)
        · exact absurd (show ¬ (0 : Int32) < 3 from c_46) (by decide)
        · skip
          refine lv_iconst (v := 0) hx hb dX7_setTopic_49 (by decide) ?_
          exact g_iret C hr hM hS dX7_setTopic_50 (by decide) (by decide) ⟨trivial, by simp [rSetTopic, thI, bI, c_6, c_19, c_31], rfl, by simp [rSetTopic, thI, bI, c_6, c_19, c_31]⟩
    · skip
      refine lv_iconst (v := 2) hx hb dX7_setTopic_22 (by decide) ?_
      refine lv_goto (tgt := 39) hx hb dX7_setTopic_23 (by decide) ?_
      refine g_putI C hM hS clo_7 19 (by decide) rfl r70 rfl rfl rfl rfl dX7_setTopic_39 (Or.inl t_1317) (fun H locs hM hS => ?_)
      refine lv_aload_n hx hb dX7_setTopic_42 rfl (lv_at hl 0 rfl) ?_
      refine g_get C hM clo_7 19 (by decide) r70 t_1317 rfl (v := .int (mT _ 7 19 _)) rfl dX7_setTopic_43 ?_
      refine g_if_le (tgt := 51) hx hb dX7_setTopic_46 (by decide) (fun c_46 => ?_) (fun c_46 => ?_)
      · exact absurd (show ¬ (0 : Int32) < 2 from c_46) (by decide)
      · skip
        refine lv_iconst (v := 0) hx hb dX7_setTopic_49 (by decide) ?_
        exact g_iret C hr hM hS dX7_setTopic_50 (by decide) (by decide) ⟨trivial, by simp [rSetTopic, thI, bI, c_6, c_19], rfl, by simp [rSetTopic, thI, bI, c_6, c_19]⟩
  · skip
    refine lv_iconst (v := 1) hx hb dX7_setTopic_9 (by decide) ?_
    refine lv_goto (tgt := 39) hx hb dX7_setTopic_10 (by decide) ?_
    refine g_putI C hM hS clo_7 19 (by decide) rfl r70 rfl rfl rfl rfl dX7_setTopic_39 (Or.inl t_1317) (fun H locs hM hS => ?_)
    refine lv_aload_n hx hb dX7_setTopic_42 rfl (lv_at hl 0 rfl) ?_
    refine g_get C hM clo_7 19 (by decide) r70 t_1317 rfl (v := .int (mT _ 7 19 _)) rfl dX7_setTopic_43 ?_
    refine g_if_le (tgt := 51) hx hb dX7_setTopic_46 (by decide) (fun c_46 => ?_) (fun c_46 => ?_)
    · exact absurd (show ¬ (0 : Int32) < 1 from c_46) (by decide)
    · skip
      refine lv_iconst (v := 0) hx hb dX7_setTopic_49 (by decide) ?_
      exact g_iret C hr hM hS dX7_setTopic_50 (by decide) (by decide) ⟨trivial, by simp [rSetTopic, thI, bI, c_6], rfl, by simp [rSetTopic, thI, bI, c_6]⟩

set_option maxHeartbeats 4000000 in
set_option maxRecDepth 100000 in
theorem m_learn {l : Launch} (hfl : l.stackTraces = false) (Γ : Gm) (K : Nat → Nat → Nat) (M : Mem) (x : Int32) (y : Int32) (D : Mem) (w : Wf D) (r : RC D M) : CT l Γ (gFree Γ) yX7_learn (wsO yX7_learn cX7_learn 3 (some .int)) 6 [.ref (K 7 0), .int x, .int y] K M (DD True (some (.int (if rLearn D x y = 0 then btN (mT D 0 1 (ix x) ||| 1 <<< (y &&& 31)) 10 else 0))) K (if rLearn D x y = 0 then sT (sT M 7 19 0 0) 36 (ix x) 0 (mT D 0 1 (ix x) ||| 1 <<< (y &&& 31)) else sT M 7 19 0 (thI (rLearn D x y)))) xNo 0 0 := by
  refine ct_intro hfl (by decide) (Nat.le_of_ble_eq_true rfl) ?_
  intro p e s m args below meth c C ht hr hnm hM ls hl
  have hx := C.1
  have hb := C.2.1
  have hS : va_S (gFree Γ) s.heap s.heap [] := va_S.rf
  have hl : lv_has ls 3 [(0, .ref (K 7 0)), (1, .int x), (2, .int y)] := hl
  have r70 := r7 r
  have rn0 := fun k h1 h2 => rn r k h1 h2
  have hb4 := wn4 w
  have hb0 := wn0 w
  have hb2 := wn2 w
  have hb3 := wn3 w
  refine lv_aload_n hx hb dX7_learn_0 rfl (lv_at hl 0 rfl) ?_
  refine lv_aload_n hx hb dX7_learn_1 rfl (lv_at hl 0 rfl) ?_
  refine lv_iload_n hx hb dX7_learn_2 rfl (lv_at hl 1 rfl) ?_
  refine g_cV C hS (fun _ h => h) hM hl (fun _ h => h.elim) (m_isAgent hfl Γ _ _ _ D w r) kX7_isAgent t_1530 (HM.recv C hM clo_7 (r7 r)) dX7_learn_3 rfl rfl (Nat.le_of_ble_eq_true rfl) (by decide) rfl ⟨by decide, by decide⟩ xNo_goes (fun H locs hc_3 hM hS => ?_)
  refine g_ifneB (tgt := 13) hx hb dX7_learn_6 (by decide) (fun c_6 => ?_) (fun c_6 => ?_)
  · skip
    obtain ⟨hx1, hx2⟩ := inN_ix (n := mN D 0) c_6 (by omega)
    refine lv_iload_n hx hb dX7_learn_13 rfl (lv_at hl 2 rfl) ?_
    refine lv_iconst (v := 0) hx hb dX7_learn_14 (by decide) ?_
    refine lv_iconst (v := 5) hx hb dX7_learn_15 (by decide) ?_
    refine g_cS C hS (fun _ h => h) hM hl (fun _ h => h.elim) (m_in hfl Γ _ _ _ _ _) kX7_in t_1399 dX7_learn_16 rfl rfl (Nat.le_of_ble_eq_true rfl) (by decide) rfl ⟨by decide, by decide⟩ xNo_goes (fun H locs hc_16 hM hS => ?_)
    refine g_ifneB (tgt := 26) hx hb dX7_learn_19 (by decide) (fun c_19 => ?_) (fun c_19 => ?_)
    · skip
      refine lv_aload_n hx hb dX7_learn_26 rfl (lv_at hl 0 rfl) ?_
      refine lv_iload_n hx hb dX7_learn_27 rfl (lv_at hl 1 rfl) ?_
      refine lv_iload_n hx hb dX7_learn_28 rfl (lv_at hl 2 rfl) ?_
      refine g_cV C hS (fun _ h => h) hM hl (fun _ h => h.elim) (m_hasSkill hfl Γ _ _ _ _ (ix x) D w r hx2 hx1) kX7_hasSkill t_1502 (HM.recv C hM clo_7 r70) dX7_learn_29 rfl rfl (Nat.le_of_ble_eq_true rfl) (by decide) rfl ⟨by decide, by decide⟩ xNo_goes (fun H locs hc_29 hM hS => ?_)
      refine g_ifeqB (tgt := 39) hx hb dX7_learn_32 (by decide) (fun c_32 => ?_) (fun c_32 => ?_)
      · skip
        refine lv_iconst (v := 0) hx hb dX7_learn_39 (by decide) ?_
        refine g_putI C hM hS clo_7 19 (by decide) rfl r70 rfl rfl rfl rfl dX7_learn_40 (Or.inl t_1317) (fun H locs hM hS => ?_)
        refine lv_aload_n hx hb dX7_learn_43 rfl (lv_at hl 0 rfl) ?_
        refine g_get C hM clo_7 19 (by decide) r70 t_1317 rfl (v := .int (mT _ 7 19 _)) rfl dX7_learn_44 ?_
        refine g_if_le (tgt := 52) hx hb dX7_learn_47 (by decide) (fun c_47 => ?_) (fun c_47 => ?_)
        · skip
          replace r : RC D (sT M 7 19 0 0) := r
          refine lv_aload_n hx hb dX7_learn_52 rfl (lv_at hl 0 rfl) ?_
          refine g_get C hM clo_7 16 (by decide) r70 t_1314 rfl (v := _) (fv4 rfl) dX7_learn_53 ?_
          refine lv_iload_n hx hb dX7_learn_56 rfl (lv_at hl 1 rfl) ?_
          refine lv_dup2_11 hx hb dX7_learn_57 rfl rfl ?_
          refine g_iald C hM rw_36 (rn0 36 (by decide) (by decide)) (ix x) hx2 (by omega) (by decide) dX7_learn_58 ?_
          rw [rskil r hx1]
          refine lv_iconst (v := 1) hx hb dX7_learn_59 (by decide) ?_
          refine lv_iload_n hx hb dX7_learn_60 rfl (lv_at hl 2 rfl) ?_
          refine lv_ishl hx hb dX7_learn_61 ?_
          refine lv_ior hx hb dX7_learn_62 ?_
          refine g_iast C hM hS rw_36 (rn0 36 (by decide) (by decide)) (ix x) hx2 (by omega) (by decide) dX7_learn_63 (fun H locs hM hS => ?_)
          refine lv_aload_n hx hb dX7_learn_64 rfl (lv_at hl 0 rfl) ?_
          refine g_get C hM clo_7 16 (by decide) r70 t_1314 rfl (v := _) (fv4 rfl) dX7_learn_65 ?_
          refine lv_iload_n hx hb dX7_learn_68 rfl (lv_at hl 1 rfl) ?_
          refine g_iald C hM rw_36 (rn0 36 (by decide) (by decide)) (ix x) hx2 (by omega) (by decide) dX7_learn_69 ?_
          rw [show mT (sT (sT M 7 19 0 0) 36 (ix x) 0 (mT D 0 1 (ix x) ||| 1 <<< (y &&& 31))) 36 (ix x) 0 = mT D 0 1 (ix x) ||| 1 <<< (y &&& 31) from u3_self _ _ _ _ _]
          refine g_cS C hS (fun _ h => h) hM hl (fun _ h => h.elim) (m_bits hfl Γ _ _ _) kX7_bits t_1534 dX7_learn_70 rfl rfl (Nat.le_of_ble_eq_true rfl) (by decide) rfl ⟨by decide, by decide⟩ xNo_goes (fun H locs hc_70 hM hS => ?_)
          exact g_iret C hr hM hS dX7_learn_73 (by decide) (by decide) ⟨trivial, by simp [rLearn, thI, bI, c_6, c_19, c_32], rfl, by simp [rLearn, thI, bI, c_6, c_19, c_32]⟩
        · exact absurd (show (0 : Int32) < 0 from c_47) (by decide)
      · skip
        refine lv_iconst (v := 3) hx hb dX7_learn_35 (by decide) ?_
        refine lv_goto (tgt := 40) hx hb dX7_learn_36 (by decide) ?_
        refine g_putI C hM hS clo_7 19 (by decide) rfl r70 rfl rfl rfl rfl dX7_learn_40 (Or.inl t_1317) (fun H locs hM hS => ?_)
        refine lv_aload_n hx hb dX7_learn_43 rfl (lv_at hl 0 rfl) ?_
        refine g_get C hM clo_7 19 (by decide) r70 t_1317 rfl (v := .int (mT _ 7 19 _)) rfl dX7_learn_44 ?_
        refine g_if_le (tgt := 52) hx hb dX7_learn_47 (by decide) (fun c_47 => ?_) (fun c_47 => ?_)
        · exact absurd (show ¬ (0 : Int32) < 3 from c_47) (by decide)
        · skip
          refine lv_iconst (v := 0) hx hb dX7_learn_50 (by decide) ?_
          exact g_iret C hr hM hS dX7_learn_51 (by decide) (by decide) ⟨trivial, by simp [rLearn, thI, bI, c_6, c_19, c_32], rfl, by simp [rLearn, thI, bI, c_6, c_19, c_32]⟩
    · skip
      refine lv_iconst (v := 2) hx hb dX7_learn_22 (by decide) ?_
      refine lv_goto (tgt := 40) hx hb dX7_learn_23 (by decide) ?_
      refine g_putI C hM hS clo_7 19 (by decide) rfl r70 rfl rfl rfl rfl dX7_learn_40 (Or.inl t_1317) (fun H locs hM hS => ?_)
      refine lv_aload_n hx hb dX7_learn_43 rfl (lv_at hl 0 rfl) ?_
      refine g_get C hM clo_7 19 (by decide) r70 t_1317 rfl (v := .int (mT _ 7 19 _)) rfl dX7_learn_44 ?_
      refine g_if_le (tgt := 52) hx hb dX7_learn_47 (by decide) (fun c_47 => ?_) (fun c_47 => ?_)
      · exact absurd (show ¬ (0 : Int32) < 2 from c_47) (by decide)
      · skip
        refine lv_iconst (v := 0) hx hb dX7_learn_50 (by decide) ?_
        exact g_iret C hr hM hS dX7_learn_51 (by decide) (by decide) ⟨trivial, by simp [rLearn, thI, bI, c_6, c_19], rfl, by simp [rLearn, thI, bI, c_6, c_19]⟩
  · skip
    refine lv_iconst (v := 1) hx hb dX7_learn_9 (by decide) ?_
    refine lv_goto (tgt := 40) hx hb dX7_learn_10 (by decide) ?_
    refine g_putI C hM hS clo_7 19 (by decide) rfl r70 rfl rfl rfl rfl dX7_learn_40 (Or.inl t_1317) (fun H locs hM hS => ?_)
    refine lv_aload_n hx hb dX7_learn_43 rfl (lv_at hl 0 rfl) ?_
    refine g_get C hM clo_7 19 (by decide) r70 t_1317 rfl (v := .int (mT _ 7 19 _)) rfl dX7_learn_44 ?_
    refine g_if_le (tgt := 52) hx hb dX7_learn_47 (by decide) (fun c_47 => ?_) (fun c_47 => ?_)
    · exact absurd (show ¬ (0 : Int32) < 1 from c_47) (by decide)
    · skip
      refine lv_iconst (v := 0) hx hb dX7_learn_50 (by decide) ?_
      exact g_iret C hr hM hS dX7_learn_51 (by decide) (by decide) ⟨trivial, by simp [rLearn, thI, bI, c_6], rfl, by simp [rLearn, thI, bI, c_6]⟩

set_option maxHeartbeats 4000000 in
set_option maxRecDepth 100000 in
theorem m_weight {l : Launch} (hfl : l.stackTraces = false) (Γ : Gm) (K : Nat → Nat → Nat) (M : Mem) (x : Int32) (y : Int32) (D : Mem) (w : Wf D) (r : RC D M) : CT l Γ (gFree Γ) yX7_weight (wsO yX7_weight cX7_weight 3 (some .int)) 6 [.ref (K 7 0), .int x, .int y] K M (DD True (some (.int (if rWeight D x y = 0 then mT D 14 (ix y) (ix x) else 0))) K (if rWeight D x y = 0 then sT M 7 19 0 0 else sT M 7 19 0 (thI (rWeight D x y)))) xNo 0 0 := by
  refine ct_intro hfl (by decide) (Nat.le_of_ble_eq_true rfl) ?_
  intro p e s m args below meth c C ht hr hnm hM ls hl
  have hx := C.1
  have hb := C.2.1
  have hS : va_S (gFree Γ) s.heap s.heap [] := va_S.rf
  have hl : lv_has ls 3 [(0, .ref (K 7 0)), (1, .int x), (2, .int y)] := hl
  have r70 := r7 r
  have rn0 := fun k h1 h2 => rn r k h1 h2
  have hb4 := wn4 w
  have hb0 := wn0 w
  have hb2 := wn2 w
  have hb3 := wn3 w
  refine lv_aload_n hx hb dX7_weight_0 rfl (lv_at hl 0 rfl) ?_
  refine lv_iload_n hx hb dX7_weight_1 rfl (lv_at hl 1 rfl) ?_
  refine lv_iconst (v := 0) hx hb dX7_weight_2 (by decide) ?_
  refine lv_aload_n hx hb dX7_weight_3 rfl (lv_at hl 0 rfl) ?_
  refine g_get C hM clo_7 24 (by decide) r70 t_1322 rfl (v := .int (mT _ 7 24 _)) rfl dX7_weight_4 ?_
  refine lv_iconst (v := 1) hx hb dX7_weight_7 (by decide) ?_
  refine lv_isub hx hb dX7_weight_8 ?_
  rw [ranss r]
  refine g_cS C hS (fun _ h => h) hM hl (fun _ h => h.elim) (m_in hfl Γ _ _ _ _ _) kX7_in t_1399 dX7_weight_9 rfl rfl (Nat.le_of_ble_eq_true rfl) (by decide) rfl ⟨by decide, by decide⟩ xNo_goes (fun H locs hc_9 hM hS => ?_)
  rw [show inB x 0 (nI (mN D 3) - 1) = inN x (mN D 3) from rfl]
  refine g_ifneB (tgt := 19) hx hb dX7_weight_12 (by decide) (fun c_12 => ?_) (fun c_12 => ?_)
  · skip
    refine lv_iload_n hx hb dX7_weight_19 rfl (lv_at hl 2 rfl) ?_
    refine lv_iconst (v := 0) hx hb dX7_weight_20 (by decide) ?_
    refine lv_iconst (v := 5) hx hb dX7_weight_21 (by decide) ?_
    refine g_cS C hS (fun _ h => h) hM hl (fun _ h => h.elim) (m_in hfl Γ _ _ _ _ _) kX7_in t_1399 dX7_weight_22 rfl rfl (Nat.le_of_ble_eq_true rfl) (by decide) rfl ⟨by decide, by decide⟩ xNo_goes (fun H locs hc_22 hM hS => ?_)
    refine g_ifneB (tgt := 32) hx hb dX7_weight_25 (by decide) (fun c_25 => ?_) (fun c_25 => ?_)
    · skip
      refine lv_iconst (v := 0) hx hb dX7_weight_32 (by decide) ?_
      refine g_putI C hM hS clo_7 19 (by decide) rfl r70 rfl rfl rfl rfl dX7_weight_33 (Or.inl t_1317) (fun H locs hM hS => ?_)
      refine lv_aload_n hx hb dX7_weight_36 rfl (lv_at hl 0 rfl) ?_
      refine g_get C hM clo_7 19 (by decide) r70 t_1317 rfl (v := .int (mT _ 7 19 _)) rfl dX7_weight_37 ?_
      refine g_if_le (tgt := 47) hx hb dX7_weight_40 (by decide) (fun c_40 => ?_) (fun c_40 => ?_)
      · skip
        replace r : RC D (sT M 7 19 0 0) := r
        obtain ⟨hx1, hx2⟩ := inN_ix (n := mN D 3) c_12 (by omega)
        obtain ⟨hy1, hy2⟩ := inB_ix (n := 6) c_25 (by omega)
        have hxy : 6 * x + y = nI (6 * ix x + ix y) := by rw [← nI_idx, ← hx2, ← hy2]
        refine lv_aload_n hx hb dX7_weight_47 rfl (lv_at hl 0 rfl) ?_
        refine g_get C hM clo_7 18 (by decide) r70 t_1316 rfl (v := _) (fv4 rfl) dX7_weight_48 ?_
        refine lv_bipush (v := 6) hx hb dX7_weight_51 (by decide) ?_
        refine lv_iload_n hx hb dX7_weight_53 rfl (lv_at hl 1 rfl) ?_
        refine lv_imul hx hb dX7_weight_54 ?_
        refine lv_iload_n hx hb dX7_weight_55 rfl (lv_at hl 2 rfl) ?_
        refine lv_iadd hx hb dX7_weight_56 ?_
        refine g_iald C hM rw_38 (rn0 38 (by decide) (by decide)) (6 * ix x + ix y) hxy (by omega) (by decide) dX7_weight_57 ?_
        rw [rwgt r hx1 hy1]
        exact g_iret C hr hM hS dX7_weight_58 (by decide) (by decide) ⟨trivial, by simp [rWeight, thI, bI, c_12, c_25], rfl, by simp [rWeight, thI, bI, c_12, c_25]⟩
      · exact absurd (show (0 : Int32) < 0 from c_40) (by decide)
    · skip
      refine lv_iconst (v := 2) hx hb dX7_weight_28 (by decide) ?_
      refine lv_goto (tgt := 33) hx hb dX7_weight_29 (by decide) ?_
      refine g_putI C hM hS clo_7 19 (by decide) rfl r70 rfl rfl rfl rfl dX7_weight_33 (Or.inl t_1317) (fun H locs hM hS => ?_)
      refine lv_aload_n hx hb dX7_weight_36 rfl (lv_at hl 0 rfl) ?_
      refine g_get C hM clo_7 19 (by decide) r70 t_1317 rfl (v := .int (mT _ 7 19 _)) rfl dX7_weight_37 ?_
      refine g_if_le (tgt := 47) hx hb dX7_weight_40 (by decide) (fun c_40 => ?_) (fun c_40 => ?_)
      · exact absurd (show ¬ (0 : Int32) < 2 from c_40) (by decide)
      · skip
        refine lv_iconst (v := 0) hx hb dX7_weight_43 (by decide) ?_
        refine lv_goto (tgt := 58) hx hb dX7_weight_44 (by decide) ?_
        exact g_iret C hr hM hS dX7_weight_58 (by decide) (by decide) ⟨trivial, by simp [rWeight, thI, bI, c_12, c_25], rfl, by simp [rWeight, thI, bI, c_12, c_25]⟩
  · skip
    refine lv_iconst (v := 1) hx hb dX7_weight_15 (by decide) ?_
    refine lv_goto (tgt := 33) hx hb dX7_weight_16 (by decide) ?_
    refine g_putI C hM hS clo_7 19 (by decide) rfl r70 rfl rfl rfl rfl dX7_weight_33 (Or.inl t_1317) (fun H locs hM hS => ?_)
    refine lv_aload_n hx hb dX7_weight_36 rfl (lv_at hl 0 rfl) ?_
    refine g_get C hM clo_7 19 (by decide) r70 t_1317 rfl (v := .int (mT _ 7 19 _)) rfl dX7_weight_37 ?_
    refine g_if_le (tgt := 47) hx hb dX7_weight_40 (by decide) (fun c_40 => ?_) (fun c_40 => ?_)
    · exact absurd (show ¬ (0 : Int32) < 1 from c_40) (by decide)
    · skip
      refine lv_iconst (v := 0) hx hb dX7_weight_43 (by decide) ?_
      refine lv_goto (tgt := 58) hx hb dX7_weight_44 (by decide) ?_
      exact g_iret C hr hM hS dX7_weight_58 (by decide) (by decide) ⟨trivial, by simp [rWeight, thI, bI, c_12], rfl, by simp [rWeight, thI, bI, c_12]⟩

set_option maxHeartbeats 4000000 in
set_option maxRecDepth 100000 in
theorem m_handOver {l : Launch} (hfl : l.stackTraces = false) (Γ : Gm) (K : Nat → Nat → Nat) (M : Mem) (x : Int32) (y : Int32) (D : Mem) (w : Wf D) (r : RC D M) : CT l Γ (gFree Γ) yX7_handOver (wsO yX7_handOver cX7_handOver 3 (some .int)) 6 [.ref (K 7 0), .int x, .int y] K M (DD True (some (.int (if rHandM D x y = 0 then mT D 4 10 (ix x) + 1 else 0))) K (if rHandM D x y = 0 then sT (sT (sT M 7 19 0 0) 28 (ix x) 0 y) 29 (ix x) 0 (mT D 4 10 (ix x) + 1) else sT M 7 19 0 (thI (rHandM D x y)))) xNo 0 0 := by
  refine ct_intro hfl (by decide) (Nat.le_of_ble_eq_true rfl) ?_
  intro p e s m args below meth c C ht hr hnm hM ls hl
  have hx := C.1
  have hb := C.2.1
  have hS : va_S (gFree Γ) s.heap s.heap [] := va_S.rf
  have hl : lv_has ls 3 [(0, .ref (K 7 0)), (1, .int x), (2, .int y)] := hl
  have r70 := r7 r
  have rn0 := fun k h1 h2 => rn r k h1 h2
  have hb4 := wn4 w
  have hb0 := wn0 w
  have hb2 := wn2 w
  have hb3 := wn3 w
  refine lv_aload_n hx hb dX7_handOver_0 rfl (lv_at hl 0 rfl) ?_
  refine lv_aload_n hx hb dX7_handOver_1 rfl (lv_at hl 0 rfl) ?_
  refine lv_iload_n hx hb dX7_handOver_2 rfl (lv_at hl 1 rfl) ?_
  refine g_cV C hS (fun _ h => h) hM hl (fun _ h => h.elim) (m_isTicket hfl Γ _ _ _ D w r) kX7_isTicket t_1474 (HM.recv C hM clo_7 (r7 r)) dX7_handOver_3 rfl rfl (Nat.le_of_ble_eq_true rfl) (by decide) rfl ⟨by decide, by decide⟩ xNo_goes (fun H locs hc_3 hM hS => ?_)
  refine g_ifeqB (tgt := 17) hx hb dX7_handOver_6 (by decide) (fun c_6 => ?_) (fun c_6 => ?_)
  · skip
    refine lv_iconst (v := 1) hx hb dX7_handOver_17 (by decide) ?_
    refine lv_goto (tgt := 67) hx hb dX7_handOver_18 (by decide) ?_
    refine g_putI C hM hS clo_7 19 (by decide) rfl r70 rfl rfl rfl rfl dX7_handOver_67 (Or.inl t_1317) (fun H locs hM hS => ?_)
    refine lv_aload_n hx hb dX7_handOver_70 rfl (lv_at hl 0 rfl) ?_
    refine g_get C hM clo_7 19 (by decide) r70 t_1317 rfl (v := .int (mT _ 7 19 _)) rfl dX7_handOver_71 ?_
    refine g_if_le (tgt := 79) hx hb dX7_handOver_74 (by decide) (fun c_74 => ?_) (fun c_74 => ?_)
    · exact absurd (show ¬ (0 : Int32) < 1 from c_74) (by decide)
    · skip
      refine lv_iconst (v := 0) hx hb dX7_handOver_77 (by decide) ?_
      exact g_iret C hr hM hS dX7_handOver_78 (by decide) (by decide) ⟨trivial, by simp [rHandM, c_6], rfl, by simp [rHandM, thI, c_6]⟩
  · skip
    refine lv_aload_n hx hb dX7_handOver_9 rfl (lv_at hl 0 rfl) ?_
    refine lv_iload_n hx hb dX7_handOver_10 rfl (lv_at hl 2 rfl) ?_
    refine g_cV C hS (fun _ h => h) hM hl (fun _ h => h.elim) (m_isAgent hfl Γ _ _ _ D w r) kX7_isAgent t_1530 (HM.recv C hM clo_7 (r7 r)) dX7_handOver_11 rfl rfl (Nat.le_of_ble_eq_true rfl) (by decide) rfl ⟨by decide, by decide⟩ xNo_goes (fun H locs hc_11 hM hS => ?_)
    refine g_ifneB (tgt := 21) hx hb dX7_handOver_14 (by decide) (fun c_14 => ?_) (fun c_14 => ?_)
    · skip
      obtain ⟨hx1, hx2⟩ := inN_ix (n := mN D 4) c_6 (by omega)
      obtain ⟨hy1, hy2⟩ := inN_ix (n := mN D 0) c_14 (by omega)
      have hab : ∀ z, mP D 4 9 (ix x) = some z → z < 2 ^ 31 := fun z hz => by have := (w.2.2.1 _ hx1).2.2.2.2.1 z hz; omega
      have hyo : oI (mP D 4 9 (ix x)) = y ↔ mP D 4 9 (ix x) = some (ix y) := (show oI (mP D 4 9 (ix x)) = y ↔ oI (mP D 4 9 (ix x)) = nI (ix y) by rw [← hy2]).trans (oI_eq hab (by omega))
      refine lv_aload_n hx hb dX7_handOver_21 rfl (lv_at hl 0 rfl) ?_
      refine g_get C hM clo_7 8 (by decide) r70 t_1306 rfl (v := _) (fv4 rfl) dX7_handOver_22 ?_
      refine lv_iload_n hx hb dX7_handOver_25 rfl (lv_at hl 1 rfl) ?_
      refine g_iald C hM rw_28 (rn0 28 (by decide) (by decide)) (ix x) hx2 (by omega) (by decide) dX7_handOver_26 ?_
      rw [ragt r hx1]
      refine lv_if_lt (tgt := 49) hx hb dX7_handOver_27 (by decide) (fun c_27 => ?_) (fun c_27 => ?_)
      · skip
        have hno := (oI_neg hab).mp c_27
        refine lv_iconst (v := 2) hx hb dX7_handOver_49 (by decide) ?_
        refine lv_goto (tgt := 67) hx hb dX7_handOver_50 (by decide) ?_
        refine g_putI C hM hS clo_7 19 (by decide) rfl r70 rfl rfl rfl rfl dX7_handOver_67 (Or.inl t_1317) (fun H locs hM hS => ?_)
        refine lv_aload_n hx hb dX7_handOver_70 rfl (lv_at hl 0 rfl) ?_
        refine g_get C hM clo_7 19 (by decide) r70 t_1317 rfl (v := .int (mT _ 7 19 _)) rfl dX7_handOver_71 ?_
        refine g_if_le (tgt := 79) hx hb dX7_handOver_74 (by decide) (fun c_74 => ?_) (fun c_74 => ?_)
        · exact absurd (show ¬ (0 : Int32) < 2 from c_74) (by decide)
        · skip
          refine lv_iconst (v := 0) hx hb dX7_handOver_77 (by decide) ?_
          exact g_iret C hr hM hS dX7_handOver_78 (by decide) (by decide) ⟨trivial, by simp [rHandM, c_6, c_14, hno], rfl, by simp [rHandM, thI, c_6, c_14, hno]⟩
      · skip
        have hno : ¬ mP D 4 9 (ix x) = none := fun z => c_27 ((oI_neg hab).mpr z)
        refine lv_aload_n hx hb dX7_handOver_30 rfl (lv_at hl 0 rfl) ?_
        refine g_get C hM clo_7 8 (by decide) r70 t_1306 rfl (v := _) (fv4 rfl) dX7_handOver_31 ?_
        refine lv_iload_n hx hb dX7_handOver_34 rfl (lv_at hl 1 rfl) ?_
        refine g_iald C hM rw_28 (rn0 28 (by decide) (by decide)) (ix x) hx2 (by omega) (by decide) dX7_handOver_35 ?_
        rw [ragt r hx1]
        refine lv_iload_n hx hb dX7_handOver_36 rfl (lv_at hl 2 rfl) ?_
        refine lv_icmp_eq (tgt := 49) hx hb dX7_handOver_37 (by decide) (fun c_37 => ?_) (fun c_37 => ?_)
        · skip
          have hne := hyo.mp c_37
          refine lv_iconst (v := 2) hx hb dX7_handOver_49 (by decide) ?_
          refine lv_goto (tgt := 67) hx hb dX7_handOver_50 (by decide) ?_
          refine g_putI C hM hS clo_7 19 (by decide) rfl r70 rfl rfl rfl rfl dX7_handOver_67 (Or.inl t_1317) (fun H locs hM hS => ?_)
          refine lv_aload_n hx hb dX7_handOver_70 rfl (lv_at hl 0 rfl) ?_
          refine g_get C hM clo_7 19 (by decide) r70 t_1317 rfl (v := .int (mT _ 7 19 _)) rfl dX7_handOver_71 ?_
          refine g_if_le (tgt := 79) hx hb dX7_handOver_74 (by decide) (fun c_74 => ?_) (fun c_74 => ?_)
          · exact absurd (show ¬ (0 : Int32) < 2 from c_74) (by decide)
          · skip
            refine lv_iconst (v := 0) hx hb dX7_handOver_77 (by decide) ?_
            exact g_iret C hr hM hS dX7_handOver_78 (by decide) (by decide) ⟨trivial, by simp [rHandM, c_6, c_14, hno, hne], rfl, by simp [rHandM, thI, c_6, c_14, hno, hne]⟩
        · skip
          have hne : ¬ mP D 4 9 (ix x) = some (ix y) := fun z => c_37 (hyo.mpr z)
          refine lv_aload_n hx hb dX7_handOver_40 rfl (lv_at hl 0 rfl) ?_
          refine lv_iload_n hx hb dX7_handOver_41 rfl (lv_at hl 2 rfl) ?_
          refine g_cV C hS (fun _ h => h) hM hl (fun _ h => h.elim) (m_heldBy hfl Γ _ _ _ (ix y) D w r hy2 hy1) kX7_heldBy t_1545 (HM.recv C hM clo_7 r70) dX7_handOver_42 rfl rfl (Nat.le_of_ble_eq_true rfl) (by decide) rfl ⟨by decide, by decide⟩ xNo_goes (fun H locs hc_42 hM hS => ?_)
          refine lv_iconst (v := 3) hx hb dX7_handOver_45 (by decide) ?_
          refine lv_icmp_ne (tgt := 53) hx hb dX7_handOver_46 (by decide) (fun c_46 => ?_) (fun c_46 => ?_)
          · skip
            refine lv_aload_n hx hb dX7_handOver_53 rfl (lv_at hl 0 rfl) ?_
            refine lv_iload_n hx hb dX7_handOver_54 rfl (lv_at hl 2 rfl) ?_
            refine lv_iload_n hx hb dX7_handOver_55 rfl (lv_at hl 1 rfl) ?_
            refine g_cV C hS (fun _ h => h) hM hl (fun _ h => h.elim) (m_canAnswer hfl Γ _ _ _ _ (ix y) (ix x) D w r hy2 hx2 hy1 hx1) kX7_canAnswer t_1565 (HM.recv C hM clo_7 r70) dX7_handOver_56 rfl rfl (Nat.le_of_ble_eq_true rfl) (by decide) rfl ⟨by decide, by decide⟩ xNo_goes (fun H locs hc_56 hM hS => ?_)
            refine g_ifneB (tgt := 66) hx hb dX7_handOver_59 (by decide) (fun c_59 => ?_) (fun c_59 => ?_)
            · skip
              refine lv_iconst (v := 0) hx hb dX7_handOver_66 (by decide) ?_
              refine g_putI C hM hS clo_7 19 (by decide) rfl r70 rfl rfl rfl rfl dX7_handOver_67 (Or.inl t_1317) (fun H locs hM hS => ?_)
              refine lv_aload_n hx hb dX7_handOver_70 rfl (lv_at hl 0 rfl) ?_
              refine g_get C hM clo_7 19 (by decide) r70 t_1317 rfl (v := .int (mT _ 7 19 _)) rfl dX7_handOver_71 ?_
              refine g_if_le (tgt := 79) hx hb dX7_handOver_74 (by decide) (fun c_74 => ?_) (fun c_74 => ?_)
              · skip
                replace r : RC D (sT M 7 19 0 0) := r
                refine lv_aload_n hx hb dX7_handOver_79 rfl (lv_at hl 0 rfl) ?_
                refine g_get C hM clo_7 8 (by decide) r70 t_1306 rfl (v := _) (fv4 rfl) dX7_handOver_80 ?_
                refine lv_iload_n hx hb dX7_handOver_83 rfl (lv_at hl 1 rfl) ?_
                refine lv_iload_n hx hb dX7_handOver_84 rfl (lv_at hl 2 rfl) ?_
                refine g_iast C hM hS rw_28 (rn0 28 (by decide) (by decide)) (ix x) hx2 (by omega) (by decide) dX7_handOver_85 (fun H locs hM hS => ?_)
                refine lv_aload_n hx hb dX7_handOver_86 rfl (lv_at hl 0 rfl) ?_
                refine g_get C hM clo_7 9 (by decide) r70 t_1307 rfl (v := _) (fv4 rfl) dX7_handOver_87 ?_
                refine lv_iload_n hx hb dX7_handOver_90 rfl (lv_at hl 1 rfl) ?_
                refine lv_dup2_11 hx hb dX7_handOver_91 rfl rfl ?_
                refine g_iald C hM rw_29 (rn0 29 (by decide) (by decide)) (ix x) hx2 (by omega) (by decide) dX7_handOver_92 ?_
                rw [show mT (sT (sT M 7 19 0 0) 28 (ix x) 0 y) 29 (ix x) 0 = mT D 4 10 (ix x) from rhand r hx1]
                refine lv_iconst (v := 1) hx hb dX7_handOver_93 (by decide) ?_
                refine lv_iadd hx hb dX7_handOver_94 ?_
                refine g_iast C hM hS rw_29 (rn0 29 (by decide) (by decide)) (ix x) hx2 (by omega) (by decide) dX7_handOver_95 (fun H locs hM hS => ?_)
                refine lv_aload_n hx hb dX7_handOver_96 rfl (lv_at hl 0 rfl) ?_
                refine g_get C hM clo_7 9 (by decide) r70 t_1307 rfl (v := _) (fv4 rfl) dX7_handOver_97 ?_
                refine lv_iload_n hx hb dX7_handOver_100 rfl (lv_at hl 1 rfl) ?_
                refine g_iald C hM rw_29 (rn0 29 (by decide) (by decide)) (ix x) hx2 (by omega) (by decide) dX7_handOver_101 ?_
                rw [show mT (sT (sT (sT M 7 19 0 0) 28 (ix x) 0 y) 29 (ix x) 0 (mT D 4 10 (ix x) + 1)) 29 (ix x) 0 = mT D 4 10 (ix x) + 1 from u3_self _ _ _ _ _]
                exact g_iret C hr hM hS dX7_handOver_102 (by decide) (by decide) ⟨trivial, by simp [rHandM, c_6, c_14, hno, hne, c_46, c_59], rfl, by simp [rHandM, thI, c_6, c_14, hno, hne, c_46, c_59]⟩
              · exact absurd (show (0 : Int32) < 0 from c_74) (by decide)
            · skip
              refine lv_iconst (v := 3) hx hb dX7_handOver_62 (by decide) ?_
              refine lv_goto (tgt := 67) hx hb dX7_handOver_63 (by decide) ?_
              refine g_putI C hM hS clo_7 19 (by decide) rfl r70 rfl rfl rfl rfl dX7_handOver_67 (Or.inl t_1317) (fun H locs hM hS => ?_)
              refine lv_aload_n hx hb dX7_handOver_70 rfl (lv_at hl 0 rfl) ?_
              refine g_get C hM clo_7 19 (by decide) r70 t_1317 rfl (v := .int (mT _ 7 19 _)) rfl dX7_handOver_71 ?_
              refine g_if_le (tgt := 79) hx hb dX7_handOver_74 (by decide) (fun c_74 => ?_) (fun c_74 => ?_)
              · exact absurd (show ¬ (0 : Int32) < 3 from c_74) (by decide)
              · skip
                refine lv_iconst (v := 0) hx hb dX7_handOver_77 (by decide) ?_
                exact g_iret C hr hM hS dX7_handOver_78 (by decide) (by decide) ⟨trivial, by simp [rHandM, c_6, c_14, hno, hne, c_46, c_59], rfl, by simp [rHandM, thI, c_6, c_14, hno, hne, c_46, c_59]⟩
          · skip
            refine lv_iconst (v := 2) hx hb dX7_handOver_49 (by decide) ?_
            refine lv_goto (tgt := 67) hx hb dX7_handOver_50 (by decide) ?_
            refine g_putI C hM hS clo_7 19 (by decide) rfl r70 rfl rfl rfl rfl dX7_handOver_67 (Or.inl t_1317) (fun H locs hM hS => ?_)
            refine lv_aload_n hx hb dX7_handOver_70 rfl (lv_at hl 0 rfl) ?_
            refine g_get C hM clo_7 19 (by decide) r70 t_1317 rfl (v := .int (mT _ 7 19 _)) rfl dX7_handOver_71 ?_
            refine g_if_le (tgt := 79) hx hb dX7_handOver_74 (by decide) (fun c_74 => ?_) (fun c_74 => ?_)
            · exact absurd (show ¬ (0 : Int32) < 2 from c_74) (by decide)
            · skip
              refine lv_iconst (v := 0) hx hb dX7_handOver_77 (by decide) ?_
              exact g_iret C hr hM hS dX7_handOver_78 (by decide) (by decide) ⟨trivial, by simp [rHandM, c_6, c_14, hno, hne, c_46], rfl, by simp [rHandM, thI, c_6, c_14, hno, hne, c_46]⟩
    · skip
      refine lv_iconst (v := 1) hx hb dX7_handOver_17 (by decide) ?_
      refine lv_goto (tgt := 67) hx hb dX7_handOver_18 (by decide) ?_
      refine g_putI C hM hS clo_7 19 (by decide) rfl r70 rfl rfl rfl rfl dX7_handOver_67 (Or.inl t_1317) (fun H locs hM hS => ?_)
      refine lv_aload_n hx hb dX7_handOver_70 rfl (lv_at hl 0 rfl) ?_
      refine g_get C hM clo_7 19 (by decide) r70 t_1317 rfl (v := .int (mT _ 7 19 _)) rfl dX7_handOver_71 ?_
      refine g_if_le (tgt := 79) hx hb dX7_handOver_74 (by decide) (fun c_74 => ?_) (fun c_74 => ?_)
      · exact absurd (show ¬ (0 : Int32) < 1 from c_74) (by decide)
      · skip
        refine lv_iconst (v := 0) hx hb dX7_handOver_77 (by decide) ?_
        exact g_iret C hr hM hS dX7_handOver_78 (by decide) (by decide) ⟨trivial, by simp [rHandM, c_6, c_14], rfl, by simp [rHandM, thI, c_6, c_14]⟩

set_option maxHeartbeats 4000000 in
set_option maxRecDepth 100000 in
theorem m_giveBack {l : Launch} (hfl : l.stackTraces = false) (Γ : Gm) (K : Nat → Nat → Nat) (M : Mem) (x : Int32) (D : Mem) (w : Wf D) (r : RC D M) : CT l Γ (gFree Γ) yX7_giveBack (wsO yX7_giveBack cX7_giveBack 3 (some .int)) 6 [.ref (K 7 0), .int x] K M (DD True (some (.int (if rGiveBack D x = 0 then heN (sP D 4 9 (ix x) none) ((mP D 4 9 (ix x)).getD 0) (mN D 4) else 0))) K (if rGiveBack D x = 0 then sT (sT M 7 19 0 0) 28 (ix x) 0 (-1) else sT M 7 19 0 (thI (rGiveBack D x)))) xNo 0 0 := by
  refine ct_intro hfl (by decide) (Nat.le_of_ble_eq_true rfl) ?_
  intro p e s m args below meth c C ht hr hnm hM ls hl
  have hx := C.1
  have hb := C.2.1
  have hS : va_S (gFree Γ) s.heap s.heap [] := va_S.rf
  have hl : lv_has ls 3 [(0, .ref (K 7 0)), (1, .int x)] := hl
  have r70 := r7 r
  have rn0 := fun k h1 h2 => rn r k h1 h2
  have hb4 := wn4 w
  have hb0 := wn0 w
  have hb2 := wn2 w
  have hb3 := wn3 w
  refine lv_aload_n hx hb dX7_giveBack_0 rfl (lv_at hl 0 rfl) ?_
  refine lv_aload_n hx hb dX7_giveBack_1 rfl (lv_at hl 0 rfl) ?_
  refine lv_iload_n hx hb dX7_giveBack_2 rfl (lv_at hl 1 rfl) ?_
  refine g_cV C hS (fun _ h => h) hM hl (fun _ h => h.elim) (m_isTicket hfl Γ _ _ _ D w r) kX7_isTicket t_1474 (HM.recv C hM clo_7 (r7 r)) dX7_giveBack_3 rfl rfl (Nat.le_of_ble_eq_true rfl) (by decide) rfl ⟨by decide, by decide⟩ xNo_goes (fun H locs hc_3 hM hS => ?_)
  refine g_ifneB (tgt := 13) hx hb dX7_giveBack_6 (by decide) (fun c_6 => ?_) (fun c_6 => ?_)
  · skip
    obtain ⟨hx1, hx2⟩ := inN_ix (n := mN D 4) c_6 (by omega)
    have hab : ∀ z, mP D 4 9 (ix x) = some z → z < 2 ^ 31 := fun z hz => by have := (w.2.2.1 _ hx1).2.2.2.2.1 z hz; omega
    refine lv_aload_n hx hb dX7_giveBack_13 rfl (lv_at hl 0 rfl) ?_
    refine g_get C hM clo_7 8 (by decide) r70 t_1306 rfl (v := _) (fv4 rfl) dX7_giveBack_14 ?_
    refine lv_iload_n hx hb dX7_giveBack_17 rfl (lv_at hl 1 rfl) ?_
    refine g_iald C hM rw_28 (rn0 28 (by decide) (by decide)) (ix x) hx2 (by omega) (by decide) dX7_giveBack_18 ?_
    rw [ragt r hx1]
    refine g_if_ge (tgt := 26) hx hb dX7_giveBack_19 (by decide) (fun c_19 => ?_) (fun c_19 => ?_)
    · skip
      have hno : ¬ mP D 4 9 (ix x) = none := fun z => c_19 ((oI_neg hab).mpr z)
      refine lv_iconst (v := 0) hx hb dX7_giveBack_26 (by decide) ?_
      refine g_putI C hM hS clo_7 19 (by decide) rfl r70 rfl rfl rfl rfl dX7_giveBack_27 (Or.inl t_1317) (fun H locs hM hS => ?_)
      refine lv_aload_n hx hb dX7_giveBack_30 rfl (lv_at hl 0 rfl) ?_
      refine g_get C hM clo_7 19 (by decide) r70 t_1317 rfl (v := .int (mT _ 7 19 _)) rfl dX7_giveBack_31 ?_
      refine g_if_le (tgt := 39) hx hb dX7_giveBack_34 (by decide) (fun c_34 => ?_) (fun c_34 => ?_)
      · skip
        replace r : RC D (sT M 7 19 0 0) := r
        refine lv_aload_n hx hb dX7_giveBack_39 rfl (lv_at hl 0 rfl) ?_
        refine g_get C hM clo_7 8 (by decide) r70 t_1306 rfl (v := _) (fv4 rfl) dX7_giveBack_40 ?_
        refine lv_iload_n hx hb dX7_giveBack_43 rfl (lv_at hl 1 rfl) ?_
        refine g_iald C hM rw_28 (rn0 28 (by decide) (by decide)) (ix x) hx2 (by omega) (by decide) dX7_giveBack_44 ?_
        rw [ragt r hx1]
        obtain ⟨b, hbb⟩ : ∃ b, mP D 4 9 (ix x) = some b := Option.ne_none_iff_exists'.mp hno
        have hb5 := (w.2.2.1 _ hx1).2.2.2.2.1 b hbb
        refine lv_istore_n (lv' := [(2, _), (0, _), (1, _)]) hx hb dX7_giveBack_45 rfl hl (by decide) rfl (fun ls hl => ?_)
        refine lv_aload_n hx hb dX7_giveBack_46 rfl (lv_at hl 1 rfl) ?_
        refine g_get C hM clo_7 8 (by decide) r70 t_1306 rfl (v := _) (fv4 rfl) dX7_giveBack_47 ?_
        refine lv_iload_n hx hb dX7_giveBack_50 rfl (lv_at hl 2 rfl) ?_
        refine lv_iconst (v := -1) hx hb dX7_giveBack_51 (by decide) ?_
        refine g_iast C hM hS rw_28 (rn0 28 (by decide) (by decide)) (ix x) hx2 (by omega) (by decide) dX7_giveBack_52 (fun H locs hM hS => ?_)
        refine lv_aload_n hx hb dX7_giveBack_53 rfl (lv_at hl 1 rfl) ?_
        refine lv_iload_n hx hb dX7_giveBack_54 rfl (lv_at hl 0 rfl) ?_
        refine g_cV C hS (fun _ h => h) hM hl (fun _ h => h.elim) (m_heldBy hfl Γ _ _ _ b (sP D 4 9 (ix x) none) (wf_none (Or.inl rfl) w) (RC_agent (o := none) r) (by rw [hbb]; rfl) hb5) kX7_heldBy t_1545 (HM.recv C hM clo_7 r70) dX7_giveBack_55 rfl rfl (Nat.le_of_ble_eq_true rfl) (by decide) rfl ⟨by decide, by decide⟩ xNo_goes (fun H locs hc_55 hM hS => ?_)
        exact g_iret C hr hM hS dX7_giveBack_58 (by decide) (by decide) ⟨trivial, by simp [rGiveBack, c_6, hno, hbb, mN_sP], rfl, by simp [rGiveBack, thI, c_6, hno, hbb, mN_sP]⟩
      · exact absurd (show (0 : Int32) < 0 from c_34) (by decide)
    · skip
      have hno := (oI_neg hab).mp c_19
      refine lv_iconst (v := 2) hx hb dX7_giveBack_22 (by decide) ?_
      refine lv_goto (tgt := 27) hx hb dX7_giveBack_23 (by decide) ?_
      refine g_putI C hM hS clo_7 19 (by decide) rfl r70 rfl rfl rfl rfl dX7_giveBack_27 (Or.inl t_1317) (fun H locs hM hS => ?_)
      refine lv_aload_n hx hb dX7_giveBack_30 rfl (lv_at hl 0 rfl) ?_
      refine g_get C hM clo_7 19 (by decide) r70 t_1317 rfl (v := .int (mT _ 7 19 _)) rfl dX7_giveBack_31 ?_
      refine g_if_le (tgt := 39) hx hb dX7_giveBack_34 (by decide) (fun c_34 => ?_) (fun c_34 => ?_)
      · exact absurd (show ¬ (0 : Int32) < 2 from c_34) (by decide)
      · skip
        refine lv_iconst (v := 0) hx hb dX7_giveBack_37 (by decide) ?_
        exact g_iret C hr hM hS dX7_giveBack_38 (by decide) (by decide) ⟨trivial, by simp [rGiveBack, c_6, hno], rfl, by simp [rGiveBack, thI, c_6, hno]⟩
  · skip
    refine lv_iconst (v := 1) hx hb dX7_giveBack_9 (by decide) ?_
    refine lv_goto (tgt := 27) hx hb dX7_giveBack_10 (by decide) ?_
    refine g_putI C hM hS clo_7 19 (by decide) rfl r70 rfl rfl rfl rfl dX7_giveBack_27 (Or.inl t_1317) (fun H locs hM hS => ?_)
    refine lv_aload_n hx hb dX7_giveBack_30 rfl (lv_at hl 0 rfl) ?_
    refine g_get C hM clo_7 19 (by decide) r70 t_1317 rfl (v := .int (mT _ 7 19 _)) rfl dX7_giveBack_31 ?_
    refine g_if_le (tgt := 39) hx hb dX7_giveBack_34 (by decide) (fun c_34 => ?_) (fun c_34 => ?_)
    · exact absurd (show ¬ (0 : Int32) < 1 from c_34) (by decide)
    · skip
      refine lv_iconst (v := 0) hx hb dX7_giveBack_37 (by decide) ?_
      exact g_iret C hr hM hS dX7_giveBack_38 (by decide) (by decide) ⟨trivial, by simp [rGiveBack, c_6], rfl, by simp [rGiveBack, thI, c_6]⟩

def rAnsM (D : Mem) (x y : Int32) : Nat := if inN x (mN D 4) = true then (if mT D 4 6 (ix x) = 111 ∧ ¬ mP D 4 9 (ix x) = none then (if inB y (-1) (nI (mN D 3) - 1) = true then 0 else 3) else 2) else 1
def ansA (M : Mem) (i : Nat) (y : Int32) : Mem := sT (sT (sT M 33 i 0 97) 28 i 0 (-1)) 32 i 0 y
def ansB (M : Mem) (i : Nat) (y : Int32) : Mem := sT (ansA M i y) 7 26 0 (mT (ansA M i y) 7 26 0 + 1)
def ansC (M : Mem) (i : Nat) (y v : Int32) : Mem := sT (ansB M i y) 7 27 0 (mT (ansB M i y) 7 27 0 + v)
def ansE (M : Mem) (i : Nat) (y v : Int32) : Mem := sT (ansC M i y v) 7 28 0 (mT (ansC M i y v) 7 28 0 + mT (ansC M i y v) 27 i 0)
def ansR (M : Mem) (i : Nat) (y : Int32) : Mem := ansE M i y (if mT (ansB M i y) 34 i 0 = 0 then 1 else 0)
set_option maxHeartbeats 4000000 in
set_option maxRecDepth 100000 in
theorem m_answer {l : Launch} (hfl : l.stackTraces = false) (Γ : Gm) (K : Nat → Nat → Nat) (M : Mem) (x : Int32) (y : Int32) (D : Mem) (w : Wf D) (r : RC D M) : CT l Γ (gFree Γ) yX7_answer (wsO yX7_answer cX7_answer 3 (some .int)) 6 [.ref (K 7 0), .int x, .int y] K M (DD True (some (.int (if rAnsM D x y = 0 then mT D 4 7 (ix x) else 0))) K (if rAnsM D x y = 0 then ansR (sT M 7 19 0 0) (ix x) y else sT M 7 19 0 (thI (rAnsM D x y)))) xNo 0 0 := by
  refine ct_intro hfl (by decide) (Nat.le_of_ble_eq_true rfl) ?_
  intro p e s m args below meth c C ht hr hnm hM ls hl
  have hx := C.1
  have hb := C.2.1
  have hS : va_S (gFree Γ) s.heap s.heap [] := va_S.rf
  have hl : lv_has ls 3 [(0, .ref (K 7 0)), (1, .int x), (2, .int y)] := hl
  have r70 := r7 r
  have rn0 := fun k h1 h2 => rn r k h1 h2
  have hb4 := wn4 w
  have hb0 := wn0 w
  have hb2 := wn2 w
  have hb3 := wn3 w
  refine lv_aload_n hx hb dX7_answer_0 rfl (lv_at hl 0 rfl) ?_
  refine lv_aload_n hx hb dX7_answer_1 rfl (lv_at hl 0 rfl) ?_
  refine lv_iload_n hx hb dX7_answer_2 rfl (lv_at hl 1 rfl) ?_
  refine g_cV C hS (fun _ h => h) hM hl (fun _ h => h.elim) (m_isTicket hfl Γ _ _ _ D w r) kX7_isTicket t_1474 (HM.recv C hM clo_7 (r7 r)) dX7_answer_3 rfl rfl (Nat.le_of_ble_eq_true rfl) (by decide) rfl ⟨by decide, by decide⟩ xNo_goes (fun H locs hc_3 hM hS => ?_)
  refine g_ifneB (tgt := 13) hx hb dX7_answer_6 (by decide) (fun c_6 => ?_) (fun c_6 => ?_)
  · skip
    obtain ⟨hx1, hx2⟩ := inN_ix (n := mN D 4) c_6 (by omega)
    have hab : ∀ z, mP D 4 9 (ix x) = some z → z < 2 ^ 31 := fun z hz => by have := (w.2.2.1 _ hx1).2.2.2.2.1 z hz; omega
    refine lv_aload_n hx hb dX7_answer_13 rfl (lv_at hl 0 rfl) ?_
    refine g_get C hM clo_7 13 (by decide) r70 t_1311 rfl (v := _) (fv4 rfl) dX7_answer_14 ?_
    refine lv_iload_n hx hb dX7_answer_17 rfl (lv_at hl 1 rfl) ?_
    refine g_cald C hM rw_33 (rn0 33 (by decide) (by decide)) (ix x) hx2 (by omega) (by decide) dX7_answer_18 ?_
    rw [rst r hx1]
    refine lv_bipush (v := 111) hx hb dX7_answer_19 (by decide) ?_
    refine lv_icmp_ne (tgt := 33) hx hb dX7_answer_21 (by decide) (fun c_21 => ?_) (fun c_21 => ?_)
    · skip
      refine lv_iconst (v := 2) hx hb dX7_answer_33 (by decide) ?_
      refine lv_goto (tgt := 56) hx hb dX7_answer_34 (by decide) ?_
      refine g_putI C hM hS clo_7 19 (by decide) rfl r70 rfl rfl rfl rfl dX7_answer_56 (Or.inl t_1317) (fun H locs hM hS => ?_)
      refine lv_aload_n hx hb dX7_answer_59 rfl (lv_at hl 0 rfl) ?_
      refine g_get C hM clo_7 19 (by decide) r70 t_1317 rfl (v := .int (mT _ 7 19 _)) rfl dX7_answer_60 ?_
      refine g_if_le (tgt := 68) hx hb dX7_answer_63 (by decide) (fun c_63 => ?_) (fun c_63 => ?_)
      · exact absurd (show ¬ (0 : Int32) < 2 from c_63) (by decide)
      · skip
        refine lv_iconst (v := 0) hx hb dX7_answer_66 (by decide) ?_
        exact g_iret C hr hM hS dX7_answer_67 (by decide) (by decide) ⟨trivial, by simp [rAnsM, c_6, c_21], rfl, by simp [rAnsM, thI, c_6, c_21]⟩
    · skip
      refine lv_aload_n hx hb dX7_answer_24 rfl (lv_at hl 0 rfl) ?_
      refine g_get C hM clo_7 8 (by decide) r70 t_1306 rfl (v := _) (fv4 rfl) dX7_answer_25 ?_
      refine lv_iload_n hx hb dX7_answer_28 rfl (lv_at hl 1 rfl) ?_
      refine g_iald C hM rw_28 (rn0 28 (by decide) (by decide)) (ix x) hx2 (by omega) (by decide) dX7_answer_29 ?_
      rw [ragt r hx1]
      refine g_if_ge (tgt := 37) hx hb dX7_answer_30 (by decide) (fun c_30 => ?_) (fun c_30 => ?_)
      · skip
        have hno : ¬ mP D 4 9 (ix x) = none := fun z => c_30 ((oI_neg hab).mpr z)
        refine lv_iload_n hx hb dX7_answer_37 rfl (lv_at hl 2 rfl) ?_
        refine lv_iconst (v := -1) hx hb dX7_answer_38 (by decide) ?_
        refine lv_aload_n hx hb dX7_answer_39 rfl (lv_at hl 0 rfl) ?_
        refine g_get C hM clo_7 24 (by decide) r70 t_1322 rfl (v := .int (mT _ 7 24 _)) rfl dX7_answer_40 ?_
        refine lv_iconst (v := 1) hx hb dX7_answer_43 (by decide) ?_
        refine lv_isub hx hb dX7_answer_44 ?_
        rw [ranss r]
        refine g_cS C hS (fun _ h => h) hM hl (fun _ h => h.elim) (m_in hfl Γ _ _ _ _ _) kX7_in t_1399 dX7_answer_45 rfl rfl (Nat.le_of_ble_eq_true rfl) (by decide) rfl ⟨by decide, by decide⟩ xNo_goes (fun H locs hc_45 hM hS => ?_)
        refine g_ifneB (tgt := 55) hx hb dX7_answer_48 (by decide) (fun c_48 => ?_) (fun c_48 => ?_)
        · skip
          refine lv_iconst (v := 0) hx hb dX7_answer_55 (by decide) ?_
          refine g_putI C hM hS clo_7 19 (by decide) rfl r70 rfl rfl rfl rfl dX7_answer_56 (Or.inl t_1317) (fun H locs hM hS => ?_)
          refine lv_aload_n hx hb dX7_answer_59 rfl (lv_at hl 0 rfl) ?_
          refine g_get C hM clo_7 19 (by decide) r70 t_1317 rfl (v := .int (mT _ 7 19 _)) rfl dX7_answer_60 ?_
          refine g_if_le (tgt := 68) hx hb dX7_answer_63 (by decide) (fun c_63 => ?_) (fun c_63 => ?_)
          · skip
            replace r : RC D (sT M 7 19 0 0) := r
            refine lv_aload_n hx hb dX7_answer_68 rfl (lv_at hl 0 rfl) ?_
            refine g_get C hM clo_7 13 (by decide) r70 t_1311 rfl (v := _) (fv4 rfl) dX7_answer_69 ?_
            refine lv_iload_n hx hb dX7_answer_72 rfl (lv_at hl 1 rfl) ?_
            refine lv_bipush (v := 97) hx hb dX7_answer_73 (by decide) ?_
            refine g_cast C hM hS rw_33 (rn0 33 (by decide) (by decide)) (ix x) hx2 (by omega) (by decide) rfl dX7_answer_75 (fun H locs hM hS => ?_)
            refine lv_aload_n hx hb dX7_answer_76 rfl (lv_at hl 0 rfl) ?_
            refine g_get C hM clo_7 8 (by decide) r70 t_1306 rfl (v := _) (fv4 rfl) dX7_answer_77 ?_
            refine lv_iload_n hx hb dX7_answer_80 rfl (lv_at hl 1 rfl) ?_
            refine lv_iconst (v := -1) hx hb dX7_answer_81 (by decide) ?_
            refine g_iast C hM hS rw_28 (rn0 28 (by decide) (by decide)) (ix x) hx2 (by omega) (by decide) dX7_answer_82 (fun H locs hM hS => ?_)
            refine lv_aload_n hx hb dX7_answer_83 rfl (lv_at hl 0 rfl) ?_
            refine g_get C hM clo_7 12 (by decide) r70 t_1310 rfl (v := _) (fv4 rfl) dX7_answer_84 ?_
            refine lv_iload_n hx hb dX7_answer_87 rfl (lv_at hl 1 rfl) ?_
            refine lv_iload_n hx hb dX7_answer_88 rfl (lv_at hl 2 rfl) ?_
            refine g_iast C hM hS rw_32 (rn0 32 (by decide) (by decide)) (ix x) hx2 (by omega) (by decide) dX7_answer_89 (fun H locs hM hS => ?_)
            refine lv_aload_n hx hb dX7_answer_90 rfl (lv_at hl 0 rfl) ?_
            refine lv_dup hx hb dX7_answer_91 rfl ?_
            refine g_get C hM clo_7 26 (by decide) r70 t_1324 rfl (v := .int (mT _ 7 26 _)) rfl dX7_answer_92 ?_
            refine lv_iconst (v := 1) hx hb dX7_answer_95 (by decide) ?_
            refine lv_iadd hx hb dX7_answer_96 ?_
            refine g_putI C hM hS clo_7 26 (by decide) rfl r70 rfl rfl rfl rfl dX7_answer_97 (Or.inl t_1324) (fun H locs hM hS => ?_)
            refine lv_aload_n hx hb dX7_answer_100 rfl (lv_at hl 0 rfl) ?_
            refine lv_dup hx hb dX7_answer_101 rfl ?_
            refine g_get C hM clo_7 27 (by decide) r70 t_1325 rfl (v := .int (mT _ 7 27 _)) rfl dX7_answer_102 ?_
            refine lv_aload_n hx hb dX7_answer_105 rfl (lv_at hl 0 rfl) ?_
            refine g_get C hM clo_7 14 (by decide) r70 t_1312 rfl (v := _) (fv4 rfl) dX7_answer_106 ?_
            refine lv_iload_n hx hb dX7_answer_109 rfl (lv_at hl 1 rfl) ?_
            refine g_zald C hM rw_34 (rn0 34 (by decide) (by decide)) (ix x) hx2 (by omega) (by decide) dX7_answer_110 ?_
            refine lv_if_eq (tgt := 118) hx hb dX7_answer_111 (by decide) (fun c_111 => ?_) (fun c_111 => ?_)
            · skip
              refine lv_iconst (v := 1) hx hb dX7_answer_118 (by decide) ?_
              refine lv_iadd hx hb dX7_answer_119 ?_
              refine g_putI C hM hS clo_7 27 (by decide) rfl r70 rfl rfl rfl rfl dX7_answer_120 (Or.inl t_1325) (fun H locs hM hS => ?_)
              refine lv_aload_n hx hb dX7_answer_123 rfl (lv_at hl 0 rfl) ?_
              refine lv_dup hx hb dX7_answer_124 rfl ?_
              refine g_get C hM clo_7 28 (by decide) r70 t_1326 rfl (v := .int (mT _ 7 28 _)) rfl dX7_answer_125 ?_
              refine lv_aload_n hx hb dX7_answer_128 rfl (lv_at hl 0 rfl) ?_
              refine g_get C hM clo_7 7 (by decide) r70 t_1305 rfl (v := _) (fv4 rfl) dX7_answer_129 ?_
              refine lv_iload_n hx hb dX7_answer_132 rfl (lv_at hl 1 rfl) ?_
              refine g_iald C hM rw_27 (rn0 27 (by decide) (by decide)) (ix x) hx2 (by omega) (by decide) dX7_answer_133 ?_
              refine lv_iadd hx hb dX7_answer_134 ?_
              refine g_putI C hM hS clo_7 28 (by decide) rfl r70 rfl rfl rfl rfl dX7_answer_135 (Or.inl t_1326) (fun H locs hM hS => ?_)
              refine lv_aload_n hx hb dX7_answer_138 rfl (lv_at hl 0 rfl) ?_
              refine g_get C hM clo_7 7 (by decide) r70 t_1305 rfl (v := _) (fv4 rfl) dX7_answer_139 ?_
              refine lv_iload_n hx hb dX7_answer_142 rfl (lv_at hl 1 rfl) ?_
              refine g_iald C hM rw_27 (rn0 27 (by decide) (by decide)) (ix x) hx2 (by omega) (by decide) dX7_answer_143 ?_
              exact g_iret C hr hM hS dX7_answer_144 (by decide) (by decide) ⟨trivial, by rw [show rAnsM D x y = 0 by simp [rAnsM, c_6, c_21, hno, c_48]]; exact congrArg (fun z => some (Value.int z)) (rclk r hx1), rfl, by rw [show rAnsM D x y = 0 by simp [rAnsM, c_6, c_21, hno, c_48], ansR, if_pos (show  mT (ansB (sT M 7 19 0 0) (ix x) y) 34 (ix x) 0 = 0 from c_111)]; rfl⟩
            · skip
              refine lv_iconst (v := 0) hx hb dX7_answer_114 (by decide) ?_
              refine lv_goto (tgt := 119) hx hb dX7_answer_115 (by decide) ?_
              refine lv_iadd hx hb dX7_answer_119 ?_
              refine g_putI C hM hS clo_7 27 (by decide) rfl r70 rfl rfl rfl rfl dX7_answer_120 (Or.inl t_1325) (fun H locs hM hS => ?_)
              refine lv_aload_n hx hb dX7_answer_123 rfl (lv_at hl 0 rfl) ?_
              refine lv_dup hx hb dX7_answer_124 rfl ?_
              refine g_get C hM clo_7 28 (by decide) r70 t_1326 rfl (v := .int (mT _ 7 28 _)) rfl dX7_answer_125 ?_
              refine lv_aload_n hx hb dX7_answer_128 rfl (lv_at hl 0 rfl) ?_
              refine g_get C hM clo_7 7 (by decide) r70 t_1305 rfl (v := _) (fv4 rfl) dX7_answer_129 ?_
              refine lv_iload_n hx hb dX7_answer_132 rfl (lv_at hl 1 rfl) ?_
              refine g_iald C hM rw_27 (rn0 27 (by decide) (by decide)) (ix x) hx2 (by omega) (by decide) dX7_answer_133 ?_
              refine lv_iadd hx hb dX7_answer_134 ?_
              refine g_putI C hM hS clo_7 28 (by decide) rfl r70 rfl rfl rfl rfl dX7_answer_135 (Or.inl t_1326) (fun H locs hM hS => ?_)
              refine lv_aload_n hx hb dX7_answer_138 rfl (lv_at hl 0 rfl) ?_
              refine g_get C hM clo_7 7 (by decide) r70 t_1305 rfl (v := _) (fv4 rfl) dX7_answer_139 ?_
              refine lv_iload_n hx hb dX7_answer_142 rfl (lv_at hl 1 rfl) ?_
              refine g_iald C hM rw_27 (rn0 27 (by decide) (by decide)) (ix x) hx2 (by omega) (by decide) dX7_answer_143 ?_
              exact g_iret C hr hM hS dX7_answer_144 (by decide) (by decide) ⟨trivial, by rw [show rAnsM D x y = 0 by simp [rAnsM, c_6, c_21, hno, c_48]]; exact congrArg (fun z => some (Value.int z)) (rclk r hx1), rfl, by rw [show rAnsM D x y = 0 by simp [rAnsM, c_6, c_21, hno, c_48], ansR, if_neg (show ¬ mT (ansB (sT M 7 19 0 0) (ix x) y) 34 (ix x) 0 = 0 from c_111)]; rfl⟩
          · exact absurd (show (0 : Int32) < 0 from c_63) (by decide)
        · skip
          refine lv_iconst (v := 3) hx hb dX7_answer_51 (by decide) ?_
          refine lv_goto (tgt := 56) hx hb dX7_answer_52 (by decide) ?_
          refine g_putI C hM hS clo_7 19 (by decide) rfl r70 rfl rfl rfl rfl dX7_answer_56 (Or.inl t_1317) (fun H locs hM hS => ?_)
          refine lv_aload_n hx hb dX7_answer_59 rfl (lv_at hl 0 rfl) ?_
          refine g_get C hM clo_7 19 (by decide) r70 t_1317 rfl (v := .int (mT _ 7 19 _)) rfl dX7_answer_60 ?_
          refine g_if_le (tgt := 68) hx hb dX7_answer_63 (by decide) (fun c_63 => ?_) (fun c_63 => ?_)
          · exact absurd (show ¬ (0 : Int32) < 3 from c_63) (by decide)
          · skip
            refine lv_iconst (v := 0) hx hb dX7_answer_66 (by decide) ?_
            exact g_iret C hr hM hS dX7_answer_67 (by decide) (by decide) ⟨trivial, by simp [rAnsM, c_6, c_21, hno, c_48], rfl, by simp [rAnsM, thI, c_6, c_21, hno, c_48]⟩
      · skip
        have hno := (oI_neg hab).mp c_30
        refine lv_iconst (v := 2) hx hb dX7_answer_33 (by decide) ?_
        refine lv_goto (tgt := 56) hx hb dX7_answer_34 (by decide) ?_
        refine g_putI C hM hS clo_7 19 (by decide) rfl r70 rfl rfl rfl rfl dX7_answer_56 (Or.inl t_1317) (fun H locs hM hS => ?_)
        refine lv_aload_n hx hb dX7_answer_59 rfl (lv_at hl 0 rfl) ?_
        refine g_get C hM clo_7 19 (by decide) r70 t_1317 rfl (v := .int (mT _ 7 19 _)) rfl dX7_answer_60 ?_
        refine g_if_le (tgt := 68) hx hb dX7_answer_63 (by decide) (fun c_63 => ?_) (fun c_63 => ?_)
        · exact absurd (show ¬ (0 : Int32) < 2 from c_63) (by decide)
        · skip
          refine lv_iconst (v := 0) hx hb dX7_answer_66 (by decide) ?_
          exact g_iret C hr hM hS dX7_answer_67 (by decide) (by decide) ⟨trivial, by simp [rAnsM, c_6, c_21, hno], rfl, by simp [rAnsM, thI, c_6, c_21, hno]⟩
  · skip
    refine lv_iconst (v := 1) hx hb dX7_answer_9 (by decide) ?_
    refine lv_goto (tgt := 56) hx hb dX7_answer_10 (by decide) ?_
    refine g_putI C hM hS clo_7 19 (by decide) rfl r70 rfl rfl rfl rfl dX7_answer_56 (Or.inl t_1317) (fun H locs hM hS => ?_)
    refine lv_aload_n hx hb dX7_answer_59 rfl (lv_at hl 0 rfl) ?_
    refine g_get C hM clo_7 19 (by decide) r70 t_1317 rfl (v := .int (mT _ 7 19 _)) rfl dX7_answer_60 ?_
    refine g_if_le (tgt := 68) hx hb dX7_answer_63 (by decide) (fun c_63 => ?_) (fun c_63 => ?_)
    · exact absurd (show ¬ (0 : Int32) < 1 from c_63) (by decide)
    · skip
      refine lv_iconst (v := 0) hx hb dX7_answer_66 (by decide) ?_
      exact g_iret C hr hM hS dX7_answer_67 (by decide) (by decide) ⟨trivial, by simp [rAnsM, c_6], rfl, by simp [rAnsM, thI, c_6]⟩

