/-- pass, cell by cell -/
theorem pm_T {D : Mem} {x : Int32} (k j i : Nat) : mT (passM D x) k j i = if k = 6 ∧ j = 10 ∧ i = 0 then mT D 6 10 0 + nbS D x (mN D 4) else if k = 6 ∧ j = 9 ∧ i = 0 then mT D 6 9 0 + x else if k = 4 ∧ j = 7 ∧ i < mN D 4 ∧ opD D i then mT D 4 7 i + x else if k = 4 ∧ j = 8 ∧ i < mN D 4 ∧ nbD D i x then 1 else mT D k j i := by
  unfold passM
  rw [mT_sT, pb_eq, ps_T _ (fun z => absurd z.1 (by decide)), mT_sT, ps_T _ (fun z => absurd z.1 (by decide))]
  by_cases h1 : k = 6 ∧ j = 10 ∧ i = 0
  · rw [if_pos h1, if_pos h1]
  · rw [if_neg h1, if_neg h1]
    by_cases h2 : k = 6 ∧ j = 9 ∧ i = 0
    · rw [if_pos h2, if_pos h2]
    · rw [if_neg h2, if_neg h2]
      by_cases h3 : k = 4 ∧ j = 7
      · obtain ⟨rfl, rfl⟩ := h3
        rw [ps_7]
        by_cases h4 : i < mN D 4 ∧ opD D i
        · rw [if_pos h4, if_pos ⟨rfl, rfl, h4⟩]
        · rw [if_neg h4, if_neg (fun z => h4 z.2.2), if_neg (fun z => absurd z.2.1 (by decide))]
      · rw [if_neg (fun z => h3 ⟨z.1, z.2.1⟩)]
        by_cases h5 : k = 4 ∧ j = 8
        · obtain ⟨rfl, rfl⟩ := h5
          rw [ps_8]
          by_cases h4 : i < mN D 4 ∧ nbD D i x
          · rw [if_pos h4, if_pos ⟨rfl, rfl, h4⟩]
          · rw [if_neg h4, if_neg (fun z => h4 z.2.2)]
        · rw [if_neg (fun z => h5 ⟨z.1, z.2.1⟩)]
          exact ps_T _ (fun z => z.2.1.elim (fun q => h3 ⟨z.1, q⟩) (fun q => h5 ⟨z.1, q⟩))
theorem pm_N {D : Mem} {x : Int32} : mN (passM D x) = mN D := mN_ps _
theorem pm_P {D : Mem} {x : Int32} : mP (passM D x) = mP D := ps_P _
theorem pm_L {D : Mem} {x : Int32} : mL (passM D x) = mL D := ps_L _
theorem pm_J {D : Mem} {x : Int32} (k j i : Nat) : mJ (passM D x) k j i = if k = 6 ∧ j = 14 ∧ i = 0 then mJ D 6 14 0 + ocS D (mN D 4) * x.toInt64 else mJ D k j i := by
  show mJ (psN D x (mN D 4)) k j i = _
  by_cases h : k = 6 ∧ j = 14 ∧ i = 0
  · rw [if_pos h]
    obtain ⟨rfl, rfl, rfl⟩ := h
    exact ps_J _
  · rw [if_neg h]
    exact ps_J2 h _
theorem eq_pr {A B : Mem} (h : EqM A B) (u : Nat) : prD A u = prD B u := by
  obtain ⟨-, h2, -, h4, -⟩ := h
  unfold prD lvM cuM
  rw [h2, h2, h4]
theorem eq_nb {A B : Mem} (h : EqM A B) (u : Nat) (x : Int32) : nbD A u x ↔ nbD B u x := by
  unfold nbD opD
  rw [eq_pr h, h.2.1, h.2.1, h.2.1]
theorem eq_nbS {A B : Mem} (h : EqM A B) (x : Int32) : ∀ n, nbS A x n = nbS B x n
  | 0 => rfl
  | n + 1 => by
    show nbS A x n + _ = nbS B x n + _
    rw [eq_nbS h x n]
    by_cases hn : nbD B n x
    · rw [if_pos hn, if_pos ((eq_nb h n x).mpr hn)]
    · rw [if_neg hn, if_neg (fun z => hn ((eq_nb h n x).mp z))]
theorem eq_ocS {A B : Mem} (h : EqM A B) : ∀ n, ocS A n = ocS B n
  | 0 => rfl
  | n + 1 => by
    show ocS A n + _ = ocS B n + _
    rw [eq_ocS h n]
    unfold opD
    rw [h.2.1]
/-- the same memories pass to the same ones -/
theorem eq_pass {A B : Mem} (h : EqM A B) (x : Int32) : EqM (passM A x) (passM B x) := by
  obtain ⟨h1, h2, h3, h4, h5⟩ := h
  have h : EqM A B := ⟨h1, h2, h3, h4, h5⟩
  refine ⟨by rw [pm_N, pm_N, h1], fun k j i => ?_, fun k j i => ?_, by rw [pm_P, pm_P, h4], by rw [pm_L, pm_L, h5]⟩
  · rw [pm_T, pm_T]
    have e1 : opD A i ↔ opD B i := by unfold opD; rw [h2]
    have e2 := eq_nb h i x
    simp only [h1, eq_nbS h, h2, e1, e2]
  · rw [pm_J, pm_J, h1, eq_ocS h, h3, h3 k j i]
