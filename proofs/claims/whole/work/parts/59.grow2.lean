/-! what holds of a memory that has grown -/
def addL (M : Mem) (k x : Nat) : Mem := sC (sL M k 0 (mL M k 0 ++ [x])) k 0 0
def agM (M : Mem) (x : Int32) : Mem := addL (agM1 M x) 12 (mN M 0)
def prM (M : Mem) (x : Int32) : Mem := addL (prM1 M x) 13 (mN M 3)
def maM (M : Mem) (t : Nat) : Mem := addL (maM1 M t) 10 (mN M 2)
def tiM (M : Mem) (cu : Nat) (su to : Int32) : Mem := addL (tiM1 M cu su to) 11 (mN M 4)
theorem vp_of {M : Mem} (w : Wf M) (h7 : mN M 7 = 1 ∧ ∀ k, 20 ≤ k → k ≤ 38 → mN M k = 1) : VP M := by
  obtain ⟨h7, h20⟩ := h7
  have e := w.1
  unfold WfN at e
  obtain ⟨e0, e1, e2, e3, e4, e5, e6, e8, e9, e10, e11, e12, e13, e14, e15, e16, e17, e18, e19⟩ := e
  refine ⟨fun k i j hi hj => ?_, fun k i hk hi => ?_⟩
  · have g : ∀ r, (4, r) = fS k j → 0 < mN M r → ((fS k j).1 = 2 → ∀ a, mP M k j i = some a → a < mN M (fS k j).2) ∧ ((fS k j).1 = 3 → i < mN M (fS k j).2) ∧ (4 ≤ (fS k j).1 → 0 < mN M (fS k j).2) := by
      intro r hr h0
      rw [← hr]
      exact ⟨fun z => absurd (show (4 : Nat) = 2 from z) (by decide), fun z => absurd (show (4 : Nat) = 3 from z) (by decide), fun _ => h0⟩
    have g3 : ∀ r, (3, r) = fS k j → i < mN M r → ((fS k j).1 = 2 → ∀ a, mP M k j i = some a → a < mN M (fS k j).2) ∧ ((fS k j).1 = 3 → i < mN M (fS k j).2) ∧ (4 ≤ (fS k j).1 → 0 < mN M (fS k j).2) := by
      intro r hr h0
      rw [← hr]
      exact ⟨fun z => absurd (show (3 : Nat) = 2 from z) (by decide), fun _ => h0, fun z => absurd (show 4 ≤ (3 : Nat) from z) (by decide)⟩
    have g2 : ∀ r, (2, r) = fS k j → (∀ a, mP M k j i = some a → a < mN M r) → ((fS k j).1 = 2 → ∀ a, mP M k j i = some a → a < mN M (fS k j).2) ∧ ((fS k j).1 = 3 → i < mN M (fS k j).2) ∧ (4 ≤ (fS k j).1 → 0 < mN M (fS k j).2) := by
      intro r hr h0
      rw [← hr]
      exact ⟨fun _ => h0, fun z => absurd (show (2 : Nat) = 3 from z) (by decide), fun z => absurd (show 4 ≤ (2 : Nat) from z) (by decide)⟩
    have g0 : (fS k j).1 ≤ 1 → ((fS k j).1 = 2 → ∀ a, mP M k j i = some a → a < mN M (fS k j).2) ∧ ((fS k j).1 = 3 → i < mN M (fS k j).2) ∧ (4 ≤ (fS k j).1 → 0 < mN M (fS k j).2) :=
      fun z => ⟨fun y => by omega, fun y => by omega, fun y => by omega⟩
    have hk8 : k < 8 := by
      rcases Nat.lt_or_ge k 8 with h | h
      · exact h
      · have : nFl k = 0 := by unfold nFl; split <;> first | omega | rfl
        omega
    match k, hk8 with
    | 0, _ => exact g0 (by unfold fS; split <;> first | omega | simp_all)
    | 1, _ =>
      match j with
      | 0 => exact g 15 rfl (by omega)
      | j + 1 => exact g0 (by unfold fS; split <;> first | omega | simp_all)
    | 2, _ =>
      match j with
      | 0 => exact g0 (by decide)
      | 1 =>
        refine g2 4 rfl (fun a ha => ?_)
        obtain ⟨t, h1, h2⟩ := w.2.2.2.2.1 i hi
        rw [h1] at ha
        cases ha
        exact h2
      | j + 2 => exact g0 (by unfold fS; split <;> first | omega | simp_all)
    | 3, _ =>
      match j with
      | 0 => exact g0 (by decide)
      | 1 => exact g3 14 rfl (by omega)
      | j + 2 => exact g0 (by unfold fS; split <;> first | omega | simp_all)
    | 4, _ =>
      have wt := w.2.2.1 i hi
      unfold WfT at wt
      obtain ⟨t1, t2, t3, t4, t5, t6, t7, t8, t9⟩ := wt
      match j, hj with
      | 0, _ => exact g0 (by decide)
      | 1, _ => exact g2 1 rfl (fun a ha => by rw [t1] at ha; cases ha; omega)
      | 2, _ => exact g0 (by decide)
      | 3, _ => exact g3 8 rfl (by omega)
      | 4, _ => exact g0 (by decide)
      | 5, _ => exact g0 (by decide)
      | 6, _ => exact g0 (by decide)
      | 7, _ => exact g0 (by decide)
      | 8, _ => exact g0 (by decide)
      | 9, _ => exact g2 0 rfl t5
      | 10, _ => exact g0 (by decide)
      | 11, _ => exact g2 3 rfl t6
      | 12, _ => exact g0 (by decide)
      | 13, _ => exact g2 4 rfl t7
    | 5, _ =>
      match j with
      | 0 => exact g3 9 rfl (by omega)
      | j + 1 => exact g0 (by unfold fS; split <;> first | omega | simp_all)
    | 6, _ =>
      match j, hj with
      | 0, _ => exact g 15 rfl (by omega)
      | 1, _ => exact g 18 rfl (by omega)
      | 2, _ => exact g 19 rfl (by omega)
      | 3, _ => exact g 10 rfl (by omega)
      | 4, _ => exact g 11 rfl (by omega)
      | 5, _ => exact g 12 rfl (by omega)
      | 6, _ => exact g 13 rfl (by omega)
      | 7, _ => exact g 16 rfl (by omega)
      | 8, _ => exact g 17 rfl (by omega)
      | 9, _ => exact g0 (by decide)
      | 10, _ => exact g0 (by decide)
      | 11, _ => exact g0 (by decide)
      | 12, _ => exact g0 (by decide)
      | 13, _ => exact g0 (by decide)
      | 14, _ => exact g0 (by decide)
    | 7, _ =>
      have hm : ∀ r, 20 ≤ r → r ≤ 38 → 0 < mN M r := fun r a b => by rw [h20 r a b]; decide
      match j, hj with
      | 0, _ => exact g 20 rfl (hm _ (by decide) (by decide))
      | 1, _ => exact g 21 rfl (hm _ (by decide) (by decide))
      | 2, _ => exact g 22 rfl (hm _ (by decide) (by decide))
      | 3, _ => exact g 23 rfl (hm _ (by decide) (by decide))
      | 4, _ => exact g 24 rfl (hm _ (by decide) (by decide))
      | 5, _ => exact g 25 rfl (hm _ (by decide) (by decide))
      | 6, _ => exact g 26 rfl (hm _ (by decide) (by decide))
      | 7, _ => exact g 27 rfl (hm _ (by decide) (by decide))
      | 8, _ => exact g 28 rfl (hm _ (by decide) (by decide))
      | 9, _ => exact g 29 rfl (hm _ (by decide) (by decide))
      | 10, _ => exact g 30 rfl (hm _ (by decide) (by decide))
      | 11, _ => exact g 31 rfl (hm _ (by decide) (by decide))
      | 12, _ => exact g 32 rfl (hm _ (by decide) (by decide))
      | 13, _ => exact g 33 rfl (hm _ (by decide) (by decide))
      | 14, _ => exact g 34 rfl (hm _ (by decide) (by decide))
      | 15, _ => exact g 35 rfl (hm _ (by decide) (by decide))
      | 16, _ => exact g 36 rfl (hm _ (by decide) (by decide))
      | 17, _ => exact g 37 rfl (hm _ (by decide) (by decide))
      | 18, _ => exact g 38 rfl (hm _ (by decide) (by decide))
      | j + 19, _ => exact g0 (by unfold fS; split <;> first | omega | simp_all)
  · have hb : 8 ≤ k ∧ k ≤ 13 := by unfold isLs at hk; simpa using hk
    obtain ⟨l1, l2, l3, l4⟩ := w.2.2.2.1
    have i0 : ∀ n, mN M n = 1 → i < mN M n → i = 0 := fun n a b => by omega
    match k, hb.1, hb.2 with
    | 8, _, _ => exact (w.2.2.1 i (by omega)).2.2.2.2.2.2.2.1
    | 9, _, _ => exact w.2.2.2.2.2.1 i (by omega)
    | 10, _, _ => intro x hx; rw [i0 10 e10 hi, l1] at hx; exact List.mem_range.mp hx
    | 11, _, _ => intro x hx; rw [i0 11 e11 hi, l2] at hx; exact List.mem_range.mp hx
    | 12, _, _ => intro x hx; rw [i0 12 e12 hi, l3] at hx; exact List.mem_range.mp hx
    | 13, _, _ => intro x hx; rw [i0 13 e13 hi, l4] at hx; exact List.mem_range.mp hx
theorem range_add {n : Nat} {l : List Nat} (h : l = List.range n) : l ++ [n] = List.range (n + 1) := by rw [h, List.range_succ]
theorem wf_ag {M : Mem} {x : Int32} (w : Wf M) (h : mN M 0 < 6) : Wf (agM M x) := by
  obtain ⟨w1, w2, w3, ⟨l1, l2, l3, l4⟩, w5, w6, w7⟩ := w
  refine ⟨⟨by show mN M 0 + 1 ≤ 6; omega, w1.2⟩, w2, fun i hi => ?_, ⟨l1, l2, range_add l3, l4⟩, w5, w6, w7⟩
  obtain ⟨t1, t2, t3, t4, t5, t6⟩ := w3 i hi
  exact ⟨t1, t2, t3, t4, fun a ha => by show a < mN M 0 + 1; have := t5 a ha; omega, t6⟩
theorem wf_pr {M : Mem} {x : Int32} (w : Wf M) (h : mN M 3 < 8) : Wf (prM M x) := by
  obtain ⟨⟨n0, n1, n2, n3, n4, n5, n6, n8, n9, n10, n11, n12, n13, n14, n15⟩, w2, w3, ⟨l1, l2, l3, l4⟩, w5, w6, w7⟩ := w
  refine ⟨⟨n0, n1, n2, by show mN M 3 + 1 ≤ 8; omega, n4, n5, n6, n8, n9, n10, n11, n12, n13, rfl, n15⟩, w2, fun i hi => ?_, ⟨l1, l2, l3, range_add l4⟩, w5, w6, w7⟩
  obtain ⟨t1, t2, t3, t4, t5, t6, t7⟩ := w3 i hi
  exact ⟨t1, t2, t3, t4, t5, fun a ha => by show a < mN M 3 + 1; have := t6 a ha; omega, t7⟩
theorem ma_P {M : Mem} {t k j i : Nat} : mP (maM M t) k j i = if k = 2 ∧ j = 1 ∧ i = mN M 2 then some t else mP M k j i := rfl
theorem ma_T {M : Mem} {t k j i : Nat} : mT (maM M t) k j i = if k = 2 ∧ j = 0 ∧ i = mN M 2 then nI (mN M 2) else mT M k j i := rfl
theorem wf_ma {M : Mem} {t : Nat} (w : Wf M) (h : mN M 2 < 80) (ht : t < mN M 4) : Wf (maM M t) := by
  obtain ⟨⟨n0, n1, n2, n3⟩, w2, w3, ⟨l1, l2⟩, w5, w6, w7⟩ := w
  refine ⟨⟨n0, n1, by show mN M 2 + 1 ≤ 80; omega, n3⟩, w2, fun i hi => ?_, ⟨range_add l1, l2⟩, fun i hi => ?_, w6, w7⟩
  · obtain ⟨t1, t2, t3, t4, t5, t6, t7, t8, t9⟩ := w3 i hi
    exact ⟨t1, t2, t3, t4, t5, t6, t7, fun a ha => by show a < mN M 2 + 1; have := t8 a ha; omega, t9⟩
  · have hi : i < mN M 2 + 1 := hi
    rw [ma_P]
    by_cases e : i = mN M 2
    · rw [if_pos ⟨rfl, rfl, e⟩]
      exact ⟨t, rfl, ht⟩
    · rw [if_neg (fun z => e z.2.2)]
      exact w5 i (by omega)
theorem ti_T {M : Mem} {cu : Nat} {su to : Int32} {k j i : Nat} (h : ¬ (k = 4 ∧ i = mN M 4)) : mT (tiM M cu su to) k j i = mT M k j i := by
  show mT (tiM0 M cu su to) k j i = _
  unfold tiM0
  simp only [mT_sP, mT_sT]
  simp only [show ∀ b, (k = 4 ∧ j = b ∧ i = mN M 4) = False from fun b => propext ⟨fun z => h ⟨z.1, z.2.2⟩, fun z => z.elim⟩, if_false]
theorem ti_P {M : Mem} {cu : Nat} {su to : Int32} {k j i : Nat} (h : ¬ (k = 4 ∧ i = mN M 4)) : mP (tiM M cu su to) k j i = mP M k j i := by
  show mP (tiM0 M cu su to) k j i = _
  unfold tiM0
  simp only [mP_sP, mP_sT]
  simp only [show ∀ b, (k = 4 ∧ j = b ∧ i = mN M 4) = False from fun b => propext ⟨fun z => h ⟨z.1, z.2.2⟩, fun z => z.elim⟩, if_false]
theorem ti_new {M : Mem} {cu : Nat} {su to : Int32} : mP (tiM M cu su to) 4 1 (mN M 4) = some cu ∧ mT (tiM M cu su to) 4 4 (mN M 4) = to ∧ mP (tiM M cu su to) 4 9 (mN M 4) = none ∧ mP (tiM M cu su to) 4 11 (mN M 4) = none ∧ mP (tiM M cu su to) 4 13 (mN M 4) = none ∧ mL (tiM M cu su to) 8 (mN M 4) = [] ∧
    mT (tiM M cu su to) 4 0 (mN M 4) = nI (mN M 4) ∧ mT (tiM M cu su to) 4 2 (mN M 4) = su ∧ mT (tiM M cu su to) 4 5 (mN M 4) = 0 ∧ mT (tiM M cu su to) 4 6 (mN M 4) = 111 ∧ mT (tiM M cu su to) 4 7 (mN M 4) = 0 ∧ mT (tiM M cu su to) 4 8 (mN M 4) = 0 ∧ mT (tiM M cu su to) 4 10 (mN M 4) = 0 ∧ mT (tiM M cu su to) 4 12 (mN M 4) = 0 := by
  have hP : ∀ j, mP (tiM M cu su to) 4 j (mN M 4) = mP (tiM0 M cu su to) 4 j (mN M 4) := fun _ => rfl
  have hT : ∀ j, mT (tiM M cu su to) 4 j (mN M 4) = mT (tiM0 M cu su to) 4 j (mN M 4) := fun _ => rfl
  have hL : mL (tiM M cu su to) 8 (mN M 4) = [] := by
    show mL (sL (tiM0 M cu su to) 8 (mN M 4) []) 8 (mN M 4) = []
    exact if_pos ⟨rfl, rfl⟩
  rw [hP, hP, hP, hP, hT, hT, hT, hT, hT, hT, hT, hT, hT, hL]
  simp [tiM0, mP_sP, mP_sT, mT_sP, mT_sT]
theorem ti_L {M : Mem} {cu : Nat} {su to : Int32} {k i : Nat} (h : ¬ (k = 8 ∧ i = mN M 4)) (h2 : ¬ (k = 11 ∧ i = 0)) : mL (tiM M cu su to) k i = mL M k i := by
  show mL (sL (sC (sL (tiM0 M cu su to) 8 (mN M 4) []) 8 (mN M 4) 0) 11 0 _) k i = _
  rw [mL_sL, if_neg h2, mL_sC, mL_sL, if_neg h]
  rfl
theorem wf_ti {M : Mem} {cu tt : Nat} {su : Int32} (w : Wf M) (h : mN M 4 < 40) (hcu : cu < 8) (ht : tt < 6) : Wf (tiM M cu su (nI tt)) := by
  obtain ⟨⟨n0, n1, n2, n3, n4, n5, n6, n8, n9, n10⟩, w2, w3, ⟨l1, l2, l3⟩, w5, w6, w7⟩ := w
  obtain ⟨e1, e2, e3, e4, e5, e6, -⟩ := ti_new (M := M) (cu := cu) (su := su) (to := nI tt)
  have l9 : ∀ t, mL (tiM M cu su (nI tt)) 9 t = mL M 9 t := fun t => ti_L (fun z => absurd z.1 (by decide)) (fun z => absurd z.1 (by decide))
  refine ⟨⟨n0, n1, n2, n3, by show mN M 4 + 1 ≤ 40; omega, n5, n6, rfl, n9, n10⟩, fun c hc => ?_, fun i hi => ?_, ⟨l1, range_add l2, l3⟩, fun i hi => ?_, fun t ht x hx => ?_, fun t ht => ?_⟩
  · unfold lvM
    rw [ti_T (fun z => absurd z.1 (by decide))]
    exact w2 c hc
  · have hi : i < mN M 4 + 1 := hi
    by_cases e : i = mN M 4
    · subst e
      unfold WfT cuM toM
      rw [e1, e2, e3, e4, e5, e6]
      refine ⟨rfl, hcu, by rw [nI_clamp (by omega)], by rw [nI_clamp (by omega)]; exact ht, (by intro a z; cases z), (by intro a z; cases z), (by intro a z; cases z), (by intro x z; cases z), Nat.zero_le _⟩
    · have hne : ∀ k, ¬ (k = 4 ∧ i = mN M 4) := fun k z => e z.2
      obtain ⟨t1, t2, t3, t4, t5, t6, t7, t8, t9⟩ := w3 i (by omega)
      unfold WfT cuM toM
      rw [ti_P (hne 4), ti_T (hne 4), ti_P (hne 4), ti_P (hne 4), ti_P (hne 4), ti_L (fun z => e z.2) (fun z => absurd z.1 (by decide))]
      exact ⟨t1, t2, t3, t4, t5, t6, fun a ha => by show a < mN M 4 + 1; have := t7 a ha; omega, t8, t9⟩
  · rw [ti_P (fun z => absurd z.1 (by decide))]
    obtain ⟨t, h1, h2⟩ := w5 i hi
    exact ⟨t, h1, by show t < mN M 4 + 1; omega⟩
  · rw [l9] at hx
    show x < mN M 4 + 1
    have := w6 t ht x hx
    omega
  · rw [l9]
    exact w7 t ht
