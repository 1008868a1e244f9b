set_option maxHeartbeats 1500000 in
set_option maxRecDepth 100000 in
theorem r_grow1 {l : Launch} (hfl : l.stackTraces = false) (Γ : Gm) (N a b : Nat) (m9 : Int32) (xs : List Nat) (f : Nat → Option Nat) (hx80 : xs.length < 80) : RTc l Γ (AL Γ a b N) yJx4a65c_grow_92f84 (wsO yJx4a65c_grow_92f84 cJx4a65c_grow_92f84 4 (some (.array (.object "java/lang/Object")))) 3 [.ref a, .int (nI (xs.length + 1))] (fun H => LB Γ N a b H ∧ va_at (gD Γ) clX (liC a m9 b xs.length) H ∧ ArAt Γ b xs.length f H ∧ (xs.length = 0 ↔ b = gE Γ) ∧ (∀ j, j < xs.length → f j = xs[j]?) ∧ LE Γ a b xs H) (fun v H => ∃ b' : Nat, v = some (.ref b') ∧ N ≤ b' ∧ LsAt Γ a b' 1 xs H) 1 120 := by
  refine rt_intro hfl (by decide) (Nat.le_of_ble_eq_true rfl) ?_
  intro p e s m args below meth c C hr hnm hP0 ls hl
  have hx := C.1
  have hb := C.2.1
  have hts := C.2.2.2.2.1
  have hK := C.2.2.2.2.2.2.1.2.1.1
  have hS : va_S (AL Γ a b N) s.heap s.heap [] := va_S.rf
  have hl : lv_has ls 4 [(0, .ref a), (1, .int (nI (xs.length + 1)))] := hl
  obtain ⟨hLB, hl0, ha0, hE0, hfx, hLE⟩ := hP0
  have hA := AL.ge hLB
  obtain ⟨hN, hB1, hB2, hne, hB3, haN, hbN⟩ := hLB
  have hD1 : va_D (AL Γ a b N) [liC a m9 b xs.length] := va_D.one (Or.inl rfl)
  refine lv_aload_n hx hb dJx4a65c_grow_92f84_0 rfl (lv_at hl 0 rfl) ?_
  refine va_get (ref := "java/util/ArrayList") hx hb hts lin C.2.2.2.1 hK (va_P.one hl0) 0 rfl rfl 1 (by decide) (hts _ t_81) (fun x h => h) (v := .ref b) rfl dJx4a65c_grow_92f84_1 ?_
  refine r_alenA C ha0 dJx4a65c_grow_92f84_4 ?_
  refine lv_istore_n (lv' := [(2, _), (0, _), (1, _)]) hx hb dJx4a65c_grow_92f84_5 rfl hl (by decide) rfl (fun ls hl => ?_)
  refine lv_iload_n hx hb dJx4a65c_grow_92f84_6 rfl (lv_at hl 0 rfl) ?_
  by_cases h0 : xs.length = 0
  · have hbE := hE0.mp h0
    refine lv_if_gt (tgt := 20) hx hb dJx4a65c_grow_92f84_7 (by decide) (fun c_7 => absurd c_7 (by rw [h0]; decide)) (fun c_7 => ?_)
    refine lv_aload_n hx hb dJx4a65c_grow_92f84_10 rfl (lv_at hl 1 rfl) ?_
    refine va_get (ref := "java/util/ArrayList") hx hb hts lin C.2.2.2.1 hK (va_P.one hl0) 0 rfl rfl 1 (by decide) (hts _ t_81) (fun x h => h) (v := .ref b) rfl dJx4a65c_grow_92f84_11 ?_
    refine va_gets hx hb (C.2.2.2.2.2.2.1.2.2.2.2.1.narrow hA) hS C.2.2.2.1 (hts _ t_79) (fun x h => h) dJx4a65c_grow_92f84_14 ?_
    refine g_acmp_eqR (tgt := 45) hx hb dJx4a65c_grow_92f84_17 (by decide) (fun c_17 => ?_) (fun c_17 => absurd hbE.symm c_17)
    refine lv_aload_n hx hb dJx4a65c_grow_92f84_45 rfl (lv_at hl 1 rfl) ?_
    refine lv_bipush (v := 10) hx hb dJx4a65c_grow_92f84_46 (by decide) ?_
    refine lv_iload_n hx hb dJx4a65c_grow_92f84_48 rfl (lv_at hl 2 rfl) ?_
    refine g_mmax C hl t_680 rfl (Nat.le_of_ble_eq_true rfl) (by decide) (by decide) dJx4a65c_grow_92f84_49 ?_
    rw [show (if (10 : Int32) < nI (xs.length + 1) then nI (xs.length + 1) else 10) = nI 10 from by rw [h0]; decide]
    refine va_newq hx hb C.2.2.2.1 (hts _ t_681) C.2.2.2.2.2.2.1.2.1.2.2.2.1 hK (va_P.one hl0) hD1 hS (fun q h => Or.inr (Or.inr (by omega))) (by decide) (nI_clamp (by decide)) (by decide) (by decide) (by show 0 + 10 ≤ 120; decide) dJx4a65c_grow_92f84_52 (fun q cA H hK2 hP hD hS => ?_)
    cases arr_cls hK2 (t := 5) rfl
    have hq2 : N ≤ q ∧ q ≠ a := by
      have hqa : q ≠ a := fun h => absurd (hD.1 1 0 _ _ rfl rfl h) (by decide)
      have hql := hP.snd.lt
      rcases hD.2 1 _ rfl with h | h | h
      · exact absurd h hqa
      · exact absurd hbE h.2
      · exact ⟨h, hqa⟩
    refine lv_dup_x1 hx hb dJx4a65c_grow_92f84_55 rfl rfl ?_
    have hl0 := hP.fst
    have hq0 := hP.snd
    refine r_putL C hl0 hS (Or.inl rfl) 1 (by decide) rfl rfl rfl rfl dJx4a65c_grow_92f84_56 t_81 (fun x h => h) (fun H locs hl0 oq hz hS => ?_)
    replace hl0 : va_at (gD Γ) clX (liC a m9 q xs.length) H := hl0
    replace hq0 := hq0.kept (oq _ hq2.2)
    exact r_aret C hr hS (Or.inr ⟨_, rfl⟩) dJx4a65c_grow_92f84_59 (by decide) (by decide) ⟨q, rfl, hq2.1, m9, 10, _, hl0, by omega, by decide, ⟨fun h => absurd h (by decide), fun h => by have := C.2.2.2.2.2.2.1.2.2.2.2.2.2; omega⟩, ArAt.of hq0 (by decide), fun j hj => by omega⟩
  · have hbE : b ≠ gE Γ := fun h => h0 (hE0.mpr h)
    have hmx : max 1 (xs.length / 2) = 1 ∨ max 1 (xs.length / 2) = xs.length / 2 := by omega
    have e1 : nI (xs.length + 1) - nI xs.length = nI 1 := by have := pk_sub (a := xs.length + 1) (b := xs.length) (by omega); rwa [Nat.add_sub_cancel_left] at this
    have e2 : nI xs.length >>> ((1 : Int32) &&& 31) = nI (xs.length / 2) := by have := pk_shrN (n := xs.length) (by omega) ((1 : Int32) &&& 31) 1 (by decide); rwa [Nat.pow_one] at this
    refine lv_if_gt (tgt := 20) hx hb dJx4a65c_grow_92f84_7 (by decide) (fun c_7 => ?_) (fun c_7 => absurd (show (0 : Int32) < nI xs.length from nI_lt (a := 0) (by omega) (by omega)) (fun z => ?_))
    rotate_left
    · first | exact c_7 z | exact absurd z c_7 | (exact absurd (Int32.not_le.mpr z) (fun q => q c_7))
    refine lv_iload_n hx hb dJx4a65c_grow_92f84_20 rfl (lv_at hl 0 rfl) ?_
    refine lv_iload_n hx hb dJx4a65c_grow_92f84_21 rfl (lv_at hl 2 rfl) ?_
    refine lv_iload_n hx hb dJx4a65c_grow_92f84_22 rfl (lv_at hl 0 rfl) ?_
    refine lv_isub hx hb dJx4a65c_grow_92f84_23 ?_
    refine lv_iload_n hx hb dJx4a65c_grow_92f84_24 rfl (lv_at hl 0 rfl) ?_
    refine lv_iconst (v := 1) hx hb dJx4a65c_grow_92f84_25 (by decide) ?_
    refine lv_ishr hx hb dJx4a65c_grow_92f84_26 ?_
    rw [e1, e2]
    refine g_rS C hS hA trivial hl (fun _ h => h.elim) (r_newLength hfl Γ xs.length 1 (xs.length / 2) (by omega) (by omega)) kJ8_newLength_cabcc t_648 dJx4a65c_grow_92f84_27 rfl rfl (Nat.le_of_ble_eq_true rfl) (by decide) rfl ⟨by decide, by decide⟩ (fun v H locs hv hS hz hk => ?_)
    subst hv
    replace hl0 := hl0.kept (hk _ hl0.lt (fun h => h))
    replace ha0 := ha0.kept (hk _ ha0.lt (fun h => h))
    have hLE1 : LE Γ a b xs H := hLE.kept rfl (fun _ _ z => z.elim) hk
    dsimp only [Option.toList, List.cons_append, List.nil_append]
    refine lv_istore_n (lv' := [(3, _), (2, _), (0, _), (1, _)]) hx hb dJx4a65c_grow_92f84_30 rfl hl (by decide) rfl (fun ls hl => ?_)
    refine lv_aload_n hx hb dJx4a65c_grow_92f84_31 rfl (lv_at hl 2 rfl) ?_
    refine lv_aload_n hx hb dJx4a65c_grow_92f84_32 rfl (lv_at hl 2 rfl) ?_
    refine va_get (ref := "java/util/ArrayList") hx hb hts lin C.2.2.2.1 hK (va_P.one hl0) 0 rfl rfl 1 (by decide) (hts _ t_81) (fun x h => h) (v := .ref b) rfl dJx4a65c_grow_92f84_33 ?_
    refine lv_iload_n hx hb dJx4a65c_grow_92f84_36 rfl (lv_at hl 0 rfl) ?_
    generalize hcap : xs.length + max 1 (xs.length / 2) = cap at *
    refine g_rS C hS hA (P := fun H' => H'.size = H.size ∧ gB Γ ≤ H.size ∧ gB Γ ≤ b ∧ va_at (gD Γ) clX (arC Γ b xs.length f) H' ∧ ∀ j, j < xs.length → ∀ y, f j = some y → Elt Γ y H') ⟨rfl, by omega, hB3 hbE, ha0.va h0, fun j hj y hy => (hLE1 y (by rw [hfx j hj] at hy; exact List.mem_of_getElem? hy)).2.2⟩ hl (fun q h => by rcases h with rfl | h; exact Or.inr (Or.inl ⟨rfl, hbE⟩); exact Or.inr (Or.inr (by omega))) (r_copyOf2 hfl Γ H.size b xs.length cap f (by omega) (by omega)) kJ7_copyOf_1904c t_649 dJx4a65c_grow_92f84_37 rfl rfl (Nat.le_of_ble_eq_true rfl) (by decide) rfl ⟨by decide, by omega⟩ (fun v H2 locs2 hv hS hz2 hk2 => ?_)
    obtain ⟨q, f', rfl, k1, k2, k3⟩ := hv
    have hal : a < H.size := hl0.lt
    have hq2 : N ≤ q ∧ q ≠ a := ⟨by omega, by omega⟩
    replace hl0 := hl0.kept (hk2 _ hal (fun h => by rcases h with h | h; exact hne h; exact absurd h (by show ¬ H.size ≤ a; omega)))
    dsimp only [Option.toList, List.cons_append, List.nil_append]
    refine lv_dup_x1 hx hb dJx4a65c_grow_92f84_40 rfl rfl ?_
    refine r_putL C hl0 hS (Or.inl rfl) 1 (by decide) rfl rfl rfl rfl dJx4a65c_grow_92f84_41 t_81 (fun x h => h) (fun H locs hl0 oq hz hS => ?_)
    replace hl0 : va_at (gD Γ) clX (liC a m9 q xs.length) H := hl0
    replace k2 := k2.kept (oq _ hq2.2)
    exact r_aret C hr hS (Or.inr ⟨_, rfl⟩) dJx4a65c_grow_92f84_44 (by decide) (by omega) ⟨q, rfl, hq2.1, m9, cap, f', hl0, by omega, by omega, ⟨fun h => by omega, fun h => by have := C.2.2.2.2.2.2.1.2.2.2.2.2.2; omega⟩, ArAt.of k2 (by omega), fun j hj => (k3 j hj).trans (hfx j hj)⟩

theorem kJx4a65c_grow_92f84 : CeeV yJx4a65c_grow_92f84 RJx4a65c cJx4a65c_grow_92f84 4 (some (.array (.object "java/lang/Object"))) 1 := ⟨t_of (i := 646) (by decide +kernel) (by decide +kernel), s_11, t_6, t_647, by decide +kernel, by decide⟩

set_option maxHeartbeats 1500000 in
set_option maxRecDepth 100000 in
theorem r_grow0 {l : Launch} (hfl : l.stackTraces = false) (Γ : Gm) (N a b : Nat) (m9 : Int32) (xs : List Nat) (f : Nat → Option Nat) (hx80 : xs.length < 80) : RTc l Γ (AL Γ a b N) yJx4a65c_grow_d5877 (wsO yJx4a65c_grow_d5877 cJx4a65c_grow_d5877 1 (some (.array (.object "java/lang/Object")))) 4 [.ref a] (fun H => LB Γ N a b H ∧ va_at (gD Γ) clX (liC a m9 b xs.length) H ∧ ArAt Γ b xs.length f H ∧ (xs.length = 0 ↔ b = gE Γ) ∧ (∀ j, j < xs.length → f j = xs[j]?) ∧ LE Γ a b xs H) (fun v H => ∃ b' : Nat, v = some (.ref b') ∧ N ≤ b' ∧ LsAt Γ a b' 1 xs H) 1 120 := by
  refine rt_intro hfl (by decide) (Nat.le_of_ble_eq_true rfl) ?_
  intro p e s m args below meth c C hr hnm hP0 ls hl
  have hx := C.1
  have hb := C.2.1
  have hts := C.2.2.2.2.1
  have hK := C.2.2.2.2.2.2.1.2.1.1
  have hS : va_S (AL Γ a b N) s.heap s.heap [] := va_S.rf
  have hl : lv_has ls 1 [(0, .ref a)] := hl
  have hP0c := hP0
  obtain ⟨hLB, hl0, ha0, hE0, hfx, hLE⟩ := hP0
  have hP := va_P.one hl0
  refine lv_aload_n hx hb dJx4a65c_grow_d5877_0 rfl (lv_at hl 0 rfl) ?_
  refine lv_aload_n hx hb dJx4a65c_grow_d5877_1 rfl (lv_at hl 0 rfl) ?_
  refine va_get (ref := "java/util/ArrayList") hx hb hts lin C.2.2.2.1 hK (va_P.one hl0) 0 rfl rfl 2 (by decide) (hts _ t_82) (fun x h => h) (v := .int (nI xs.length)) rfl dJx4a65c_grow_d5877_2 ?_
  refine lv_iconst (v := 1) hx hb dJx4a65c_grow_d5877_5 (by decide) ?_
  refine lv_iadd hx hb dJx4a65c_grow_d5877_6 ?_
  rw [nI_1]
  refine g_rV C hS (AL.ge hLB) hP0c hl (fun _ h => h) (r_grow1 hfl Γ N a b m9 xs f hx80) kJx4a65c_grow_92f84 t_644 (va_recv hK hP rfl (q0 := 0) rfl) dJx4a65c_grow_d5877_7 rfl rfl (Nat.le_of_ble_eq_true rfl) (by decide) rfl ⟨by decide, by decide⟩ (fun v H locs hv hS _ _ => ?_)
  obtain ⟨b', rfl, k1, k2⟩ := hv
  exact r_aret C hr hS (Or.inr ⟨_, rfl⟩) dJx4a65c_grow_d5877_10 (by decide) (by decide) ⟨b', rfl, k1, k2⟩

theorem kJx4a65c_grow_d5877 : CeeV yJx4a65c_grow_d5877 RJx4a65c cJx4a65c_grow_d5877 1 (some (.array (.object "java/lang/Object"))) 0 := ⟨t_of (i := 642) (by decide +kernel) (by decide +kernel), s_10, t_6, t_643, by decide +kernel, by decide⟩

set_option maxHeartbeats 1500000 in
set_option maxRecDepth 100000 in
theorem r_add3 {l : Launch} (hfl : l.stackTraces = false) (Γ : Gm) (N a b c9 x : Nat) (xs : List Nat) (hx80 : xs.length < 80) : RTc l Γ (AL Γ a b N) yJx4a65c_add_72be8 (wsO yJx4a65c_add_72be8 cJx4a65c_add_72be8 4 none) 5 [.ref a, .ref x, .ref b, .int (nI xs.length)] (fun H => LPr Γ N a b c9 xs H ∧ x ≠ a ∧ x ≠ b ∧ Elt Γ x H) (fun v H => v = none ∧ ∃ b' : Nat, (b' = b ∨ N ≤ b') ∧ LsAt Γ a b' 0 (xs ++ [x]) H) 1 120 := by
  refine rt_intro hfl (by decide) (Nat.le_of_ble_eq_true rfl) ?_
  intro p e s m args below meth c C hr hnm hP0 ls hl
  have hx := C.1
  have hb := C.2.1
  have hts := C.2.2.2.2.1
  have hK := C.2.2.2.2.2.2.1.2.1.1
  have hS : va_S (AL Γ a b N) s.heap s.heap [] := va_S.rf
  have hl : lv_has ls 4 [(0, .ref a), (1, .ref x), (2, .ref b), (3, .int (nI xs.length))] := hl
  obtain ⟨hLB, ⟨m9, cap, f, hl0, hcap, hc2, hE0, ha0, hfx⟩, hLE⟩ := hP0.1
  have hxe := hP0.2
  have hA := AL.ge hLB
  have hLB0 := hLB
  obtain ⟨hN, hB1, hB2, hne, hB3, haN, hbN⟩ := hLB
  have hxl := hxe.2.2.lt
  have hgE := C.2.2.2.2.2.2.1.2.2.2.2.2.2
  have hP := va_P.one hl0
  have tail2 : ∀ (m9 : Int32) (b' cap' : Nat) (f' : Nat → Option Nat) (H : Heap) (locs : List Loc) (ls : Array Slot) (cells slots : Nat), cells ≤ 1 → slots ≤ 120 → (b' = b ∧ b ≠ gE Γ ∨ N ≤ b') → xs.length + 1 ≤ cap' → cap' ≤ 200 → va_at (gD Γ) clX (liC a m9 b' xs.length) H → va_at (gD Γ) clX (arC Γ b' cap' f') H → (∀ j, j < xs.length → f' j = xs[j]?) → Elt Γ x H → va_S (AL Γ a b N) s.heap H locs → lv_has ls 4 [(2, .ref b'), (0, .ref a), (1, .ref x), (3, .int (nI xs.length))] →
      W p l e (rmL 5 1 120) s m args below meth c H locs cells slots (MQ below (RQ (AL Γ a b N) (fun v H => v = none ∧ ∃ b' : Nat, (b' = b ∨ N ≤ b') ∧ LsAt Γ a b' 0 (xs ++ [x]) H)) args s 1 120 (AL Γ a b N)) (F0 m 11 ls []) := by
    intro m9 b' cap' f' H locs ls cells slots hc hs hb' hcap hc2 hl0 ha0 hfx hxe hS hl
    have hab : a ≠ b' := by rcases hb' with h | h; rw [h.1]; exact hne; omega
    have hP := va_P.two hl0 ha0
    have hD : va_D (AL Γ a b N) [liC a m9 b' xs.length, arC Γ b' cap' f'] := va_D.two (Or.inl rfl) (by rcases hb' with h | h; exact Or.inr (Or.inl ⟨h.1, h.2⟩); exact Or.inr (Or.inr h)) hab
    refine lv_aload_n hx hb dJx4a65c_add_72be8_11 rfl (lv_at hl 0 rfl) ?_
    refine lv_iload_n hx hb dJx4a65c_add_72be8_12 rfl (lv_at hl 3 rfl) ?_
    refine lv_aload_n hx hb dJx4a65c_add_72be8_13 rfl (lv_at hl 2 rfl) ?_
    refine va_astqM hx hb hK hP hD hS 1 5 rfl rfl (hxe.any C) (vp_in_nI (by omega) (by omega)) dJx4a65c_add_72be8_14 (fun H locs hP hD hS => ?_)
    rw [nI_clamp (by omega)] at hP hD
    refine lv_aload_n hx hb dJx4a65c_add_72be8_15 rfl (lv_at hl 1 rfl) ?_
    refine lv_iload_n hx hb dJx4a65c_add_72be8_16 rfl (lv_at hl 3 rfl) ?_
    refine lv_iconst (v := 1) hx hb dJx4a65c_add_72be8_17 (by decide) ?_
    refine lv_iadd hx hb dJx4a65c_add_72be8_18 ?_
    rw [nI_1]
    have hl0 := hP.fst
    have ha0 := hP.snd
    refine r_putL C hl0 hS (Or.inl rfl) 2 (by decide) rfl rfl rfl rfl dJx4a65c_add_72be8_19 t_82 (fun x h => h) (fun H locs hl0 oq hz hS => ?_)
    replace hl0 : va_at (gD Γ) clX (liC a m9 b' (xs.length + 1)) H := hl0
    replace ha0 := ha0.kept (oq _ (fun h => hab h.symm))
    exact r_vret C hr hS dJx4a65c_add_72be8_22 hc hs ⟨rfl, b', by rcases hb' with h | h; exact Or.inl h.1; exact Or.inr h, m9, cap', _, by rw [List.length_append]; exact hl0, by rw [List.length_append]; exact hcap, hc2, ⟨fun h => by omega, fun h => by rcases hb' with z | z; exact absurd (z.1.symm.trans h) z.2; omega⟩, ArAt.of ha0 (by omega), fun j hj => by
      rw [List.length_append, List.length_singleton] at hj
      by_cases e : j = xs.length
      · subst e; rw [va_up_self, List.getElem?_append_right (Nat.le_refl _), Nat.sub_self]; rfl
      · rw [va_up_ne _ _ e, List.getElem?_append_left (by omega)]; exact hfx j (by omega)⟩
  refine lv_iload_n hx hb dJx4a65c_add_72be8_0 rfl (lv_at hl 3 rfl) ?_
  refine lv_aload_n hx hb dJx4a65c_add_72be8_1 rfl (lv_at hl 2 rfl) ?_
  refine r_alenA C ha0 dJx4a65c_add_72be8_2 ?_
  refine lv_icmp_ne (tgt := 11) hx hb dJx4a65c_add_72be8_3 (by decide) (fun c_3 => ?_) (fun c_3 => ?_)
  · have hne2 : xs.length ≠ cap := fun h => c_3 (by rw [h])
    exact tail2 m9 b cap f s.heap [] ls 0 0 (by decide) (by decide) (Or.inl ⟨rfl, fun h => by have := hE0.mpr h; omega⟩) (by omega) hc2 hl0 (ha0.va (by omega)) hfx hxe.2.2 hS (lv_sub hl [2, 0, 1, 3] rfl)
  · have hce : cap = xs.length := by
      rcases Nat.lt_or_ge xs.length cap with h | h
      · exact absurd c_3 (fun z => by have := (nI_eq (by omega) (by omega)).mp z; omega)
      · omega
    subst hce
    refine lv_aload_n hx hb dJx4a65c_add_72be8_6 rfl (lv_at hl 0 rfl) ?_
    refine g_rV C hS hA (P := fun H => LB Γ N a b H ∧ va_at (gD Γ) clX (liC a m9 b xs.length) H ∧ ArAt Γ b xs.length f H ∧ (xs.length = 0 ↔ b = gE Γ) ∧ (∀ j, j < xs.length → f j = xs[j]?) ∧ LE Γ a b xs H) ⟨hLB0, hl0, ha0, hE0, hfx, hLE⟩ hl (fun _ h => h) (r_grow0 hfl Γ N a b m9 xs f hx80) kJx4a65c_grow_d5877 t_640 (va_recv hK hP rfl (q0 := 0) rfl) dJx4a65c_add_72be8_7 rfl rfl (Nat.le_of_ble_eq_true rfl) (by decide) rfl ⟨by decide, by decide⟩ (fun v H locs hv hS hz hk => ?_)
    obtain ⟨b', rfl, k1, m8, cap', f', g1, g2, g3, g4, g5, g6⟩ := hv
    dsimp only [Option.toList, List.cons_append, List.nil_append]
    refine lv_astore_n (lv' := [(2, _), (0, _), (1, _), (3, _)]) hx hb dJx4a65c_add_72be8_10 rfl hl (by decide) rfl (fun ls hl => ?_)
    have hm : va_at (gD Γ) clX (liC a m8 b' xs.length) H := g1
    exact tail2 m8 b' cap' f' H locs ls _ _ (by decide) (by decide) (Or.inr k1) (by omega) g3 hm (g5.va (by omega)) g6 (hxe.2.2.kept (hk _ hxl (fun z => by rcases AL.two (by omega) z with e | e; exact hxe.1 e; exact hxe.2.1 e))) hS (lv_sub hl [0, 1, 2, 3] rfl)

theorem kJx4a65c_add_72be8 : CeeV yJx4a65c_add_72be8 RJx4a65c cJx4a65c_add_72be8 4 none 3 := ⟨t_of (i := 825) (by decide +kernel) (by decide +kernel), s_14, t_6, t_of (i := 826) (by decide +kernel) (by decide +kernel), by decide +kernel, by decide⟩

set_option maxHeartbeats 1500000 in
set_option maxRecDepth 100000 in
theorem r_fastRemove {l : Launch} (hfl : l.stackTraces = false) (Γ : Gm) (N a b c9 q : Nat) (xs : List Nat) (hq : q < xs.length) : RTc l Γ (AL Γ a b N) yJx4a65c_fastRemove_b59b0 (wsO yJx4a65c_fastRemove_b59b0 cJx4a65c_fastRemove_b59b0 4 none) 1 [.ref a, .ref b, .int (nI q)] (LPr Γ N a b c9 xs) (fun v H => v = none ∧ LsAt Γ a b 1 (xs.eraseIdx q) H) 0 0 := by
  refine rt_intro hfl (by decide) (Nat.le_of_ble_eq_true rfl) ?_
  intro p e s m args below meth c C hr hnm hP0 ls hl
  have hx := C.1
  have hb := C.2.1
  have hts := C.2.2.2.2.1
  have hK := C.2.2.2.2.2.2.1.2.1.1
  have hS : va_S (AL Γ a b N) s.heap s.heap [] := va_S.rf
  have hl : lv_has ls 4 [(0, .ref a), (1, .ref b), (2, .int (nI q))] := hl
  obtain ⟨hLB, ⟨m9, cap, f, hl0, hcap, hc2, hE0, ha0, hfx⟩, hLE⟩ := hP0
  replace ha0 := ha0.va (by omega)
  have hA := AL.ge hLB
  obtain ⟨hN, hB1, hB2, hne, hB3, haN, hbN⟩ := hLB
  have hbE : b ≠ gE Γ := fun h => by have := hE0.mpr h; omega
  have hP := va_P.two hl0 ha0
  have hD : va_D (AL Γ a b N) [liC a m9 b xs.length, arC Γ b cap f] := va_D.two (Or.inl rfl) (Or.inr (Or.inl ⟨rfl, hbE⟩)) hne
  have e1 : nI xs.length - 1 = nI (xs.length - 1) := by have := pk_sub (a := xs.length) (b := 1) (by omega); exact this
  refine lv_aload_n hx hb dJx4a65c_fastRemove_b59b0_0 rfl (lv_at hl 0 rfl) ?_
  refine lv_dup hx hb dJx4a65c_fastRemove_b59b0_1 rfl ?_
  refine va_get (ref := "java/util/ArrayList") hx hb hts lin C.2.2.2.1 hK (va_P.one hl0) 0 rfl rfl 0 (by decide) (hts _ t_84) (fun x h => u_same (hts _ t_85) x h) (v := .int m9) rfl dJx4a65c_fastRemove_b59b0_2 ?_
  refine lv_iconst (v := 1) hx hb dJx4a65c_fastRemove_b59b0_5 (by decide) ?_
  refine lv_iadd hx hb dJx4a65c_fastRemove_b59b0_6 ?_
  refine r_putL C hl0 hS (Or.inl rfl) 0 (by decide) rfl rfl rfl rfl dJx4a65c_fastRemove_b59b0_7 t_84 (fun x h => u_same (hts _ t_85) x h) (fun H locs hl0 oq hz hS => ?_)
  replace hl0 : va_at (gD Γ) clX (liC a (m9 + 1) b xs.length) H := hl0
  replace ha0 := ha0.kept (oq _ (fun h => hne h.symm))
  refine lv_aload_n hx hb dJx4a65c_fastRemove_b59b0_10 rfl (lv_at hl 0 rfl) ?_
  refine va_get (ref := "java/util/ArrayList") hx hb hts lin C.2.2.2.1 hK (va_P.one hl0) 0 rfl rfl 2 (by decide) (hts _ t_82) (fun x h => h) (v := .int (nI xs.length)) rfl dJx4a65c_fastRemove_b59b0_11 ?_
  refine lv_iconst (v := 1) hx hb dJx4a65c_fastRemove_b59b0_14 (by decide) ?_
  refine lv_isub hx hb dJx4a65c_fastRemove_b59b0_15 ?_
  rw [e1]
  refine lv_dup hx hb dJx4a65c_fastRemove_b59b0_16 rfl ?_
  refine lv_istore_n (lv' := [(3, _), (0, _), (1, _), (2, _)]) hx hb dJx4a65c_fastRemove_b59b0_17 rfl hl (by decide) rfl (fun ls hl => ?_)
  refine lv_iload_n hx hb dJx4a65c_fastRemove_b59b0_18 rfl (lv_at hl 3 rfl) ?_
  have tail : ∀ (f' : Nat → Option Nat) (H : Heap) (locs : List Loc), va_P (gD Γ) clX [liC a (m9 + 1) b xs.length, arC Γ b cap f'] H → va_D (AL Γ a b N) [liC a (m9 + 1) b xs.length, arC Γ b cap f'] → va_S (AL Γ a b N) s.heap H locs → (∀ j, j < xs.length - 1 → f' j = (xs.eraseIdx q)[j]?) →
      W p l e (rmL 1 0 0) s m args below meth c H locs 0 0 (MQ below (RQ (AL Γ a b N) (fun v H => v = none ∧ LsAt Γ a b 1 (xs.eraseIdx q) H)) args s 0 0 (AL Γ a b N)) (F0 m 34 ls []) := by
    intro f' H locs hP hD hS hf'
    have hl0 := hP.fst
    have ha0 := hP.snd
    refine lv_aload_n hx hb dJx4a65c_fastRemove_b59b0_34 rfl (lv_at hl 2 rfl) ?_
    refine lv_aload_n hx hb dJx4a65c_fastRemove_b59b0_35 rfl (lv_at hl 1 rfl) ?_
    refine lv_iload_n hx hb dJx4a65c_fastRemove_b59b0_36 rfl (lv_at hl 0 rfl) ?_
    refine lv_dup_x1 hx hb dJx4a65c_fastRemove_b59b0_37 rfl rfl ?_
    refine r_putL C hl0 hS (Or.inl rfl) 2 (by decide) rfl rfl rfl rfl dJx4a65c_fastRemove_b59b0_38 t_82 (fun x h => h) (fun H locs hl0 oq hz hS => ?_)
    replace hl0 : va_at (gD Γ) clX (liC a (m9 + 1) b (xs.length - 1)) H := hl0
    replace ha0 := ha0.kept (oq _ (fun h => hne h.symm))
    have hP := va_P.two hl0 ha0
    have hD : va_D (AL Γ a b N) [liC a (m9 + 1) b (xs.length - 1), arC Γ b cap f'] := va_D.two (Or.inl rfl) (Or.inr (Or.inl ⟨rfl, hbE⟩)) hne
    refine lv_null hx hb dJx4a65c_fastRemove_b59b0_41 ?_
    refine va_astqN hx hb hK hP hD hS 1 5 rfl rfl (vp_in_nI (by omega) (by omega)) dJx4a65c_fastRemove_b59b0_42 (fun H locs hP hD hS => ?_)
    rw [nI_clamp (by omega)] at hP
    have el : (xs.eraseIdx q).length = xs.length - 1 := by rw [List.length_eraseIdx, if_pos hq]
    exact r_vret C hr hS dJx4a65c_fastRemove_b59b0_43 (by decide) (by decide) ⟨rfl, m9 + 1, cap, _, by rw [el]; exact hP.fst, by omega, hc2, hE0, ArAt.of hP.snd (by omega), fun j hj => by rw [el] at hj; rw [va_up_ne _ _ (by omega)]; exact hf' j hj⟩
  have hP := va_P.two hl0 ha0
  have hD : va_D (AL Γ a b N) [liC a (m9 + 1) b xs.length, arC Γ b cap f] := va_D.two (Or.inl rfl) (Or.inr (Or.inl ⟨rfl, hbE⟩)) hne
  refine lv_icmp_le (tgt := 34) hx hb dJx4a65c_fastRemove_b59b0_19 (by decide) (fun c_19 => ?_) (fun c_19 => ?_)
  · have hq1 : q = xs.length - 1 := by
      rcases Nat.lt_or_ge q (xs.length - 1) with h | h
      · exact absurd c_19 (nI_ge h (by omega))
      · omega
    exact tail f _ _ hP hD hS (fun j hj => by rw [hfx j (by omega), List.getElem?_eraseIdx, if_pos (by omega)])
  · have hq1 : q < xs.length - 1 := by
      rcases Nat.lt_or_ge q (xs.length - 1) with h | h
      · exact h
      · exact absurd (nI_le (a := xs.length - 1) (b := q) (by omega) (by omega)) c_19
    refine lv_aload_n hx hb dJx4a65c_fastRemove_b59b0_22 rfl (lv_at hl 2 rfl) ?_
    refine lv_iload_n hx hb dJx4a65c_fastRemove_b59b0_23 rfl (lv_at hl 3 rfl) ?_
    refine lv_iconst (v := 1) hx hb dJx4a65c_fastRemove_b59b0_24 (by decide) ?_
    refine lv_iadd hx hb dJx4a65c_fastRemove_b59b0_25 ?_
    refine lv_aload_n hx hb dJx4a65c_fastRemove_b59b0_26 rfl (lv_at hl 2 rfl) ?_
    refine lv_iload_n hx hb dJx4a65c_fastRemove_b59b0_27 rfl (lv_at hl 3 rfl) ?_
    refine lv_iload_n hx hb dJx4a65c_fastRemove_b59b0_28 rfl (lv_at hl 0 rfl) ?_
    refine lv_iload_n hx hb dJx4a65c_fastRemove_b59b0_29 rfl (lv_at hl 3 rfl) ?_
    refine lv_isub hx hb dJx4a65c_fastRemove_b59b0_30 ?_
    rw [nI_1, pk_sub (a := xs.length - 1) (b := q) (by omega)]
    refine va_copyM hx hb (C.2.2.1.trans hl.1.symm) C.2.2.2.1 (hts _ t_361) (hts _ t_363) (hts _ t_362) (hts _ t_14) hK hP hD hS 1 1 5 5 rfl rfl rfl rfl (nI_pos (by omega)) (nI_pos (by omega)) (nI_pos (by omega)) (by rw [nI_clamp (by omega), nI_clamp (by omega)]; omega) (by rw [nI_clamp (by omega), nI_clamp (by omega)]; omega) (fun i hi y hy => ?_) (by show 1 ≤ 1 + 10; omega) (by show _ + (nativeFrameWords "java/lang/System" "arraycopy" 5 + 11) ≤ 40 * 1 + 200; decide) dJx4a65c_fastRemove_b59b0_31 (fun H locs hP hD hS => ?_)
    · rw [nI_clamp (by omega)] at hi hy
      rw [hfx _ (by omega)] at hy
      obtain ⟨y1, y2, y3⟩ := hLE y (List.mem_of_getElem? hy)
      have hyl := y3.lt
      exact (y3.kept (hS.2.1 y hyl (fun z => by rcases AL.two (by omega) z with e | e; exact y1 e; exact y2 e))).any C
    · rw [nI_clamp (by omega), nI_clamp (by omega), nI_clamp (by omega)] at hP hD
      refine tail _ _ _ hP hD hS (fun j hj => ?_)
      rw [List.getElem?_eraseIdx]
      by_cases h : j < q
      · rw [if_pos h, pk_cpy_out (Or.inl h)]; exact hfx j (by omega)
      · rw [if_neg h, pk_cpy_in (by omega) (by omega), show q + 1 + (j - q) = j + 1 by omega]; exact hfx _ (by omega)

theorem kJx4a65c_fastRemove_b59b0 : CeeV yJx4a65c_fastRemove_b59b0 RJx4a65c cJx4a65c_fastRemove_b59b0 4 none 2 := ⟨t_of (i := 359) (by decide +kernel) (by decide +kernel), s_6, t_6, t_of (i := 360) (by decide +kernel) (by decide +kernel), by decide +kernel, by decide⟩
