theorem nbS_gT {D : Mem} {x : Int32} : ∀ n, nbS (gTm D) x n = nbS D x n
  | 0 => rfl
  | n + 1 => by
    show nbS (gTm D) x n + (if nbD D n x then 1 else 0) = _
    rw [nbS_gT n]
    rfl
theorem ocS_gT {D : Mem} : ∀ n, ocS (gTm D) n = ocS D n
  | 0 => rfl
  | n + 1 => by
    show ocS (gTm D) n + (if opD D n then 1 else 0) = _
    rw [ocS_gT n]
    rfl
theorem mi_T {D : Mem} (k j i : Nat) : mT (minD D) k j i = if k = 6 ∧ j = 10 ∧ i = 0 then mT D 6 10 0 + nbS D 1 (mN D 4) else if k = 6 ∧ j = 9 ∧ i = 0 then mT D 6 9 0 + 1 else if k = 4 ∧ j = 7 ∧ i < mN D 4 ∧ opD D i then mT D 4 7 i + 1 else if k = 4 ∧ j = 8 ∧ i < mN D 4 ∧ nbD D i 1 then 1 else mT D k j i := by
  unfold minD
  rw [mT_sT, pb_eq, ps_T _ (fun z => absurd z.1 (by decide)), nbS_gT]
  by_cases h1 : k = 6 ∧ j = 10 ∧ i = 0
  · rw [if_pos h1, if_pos h1]; rfl
  · rw [if_neg h1, if_neg h1]
    by_cases h2 : k = 6 ∧ j = 9 ∧ i = 0
    · rw [if_pos h2]
      obtain ⟨rfl, rfl, rfl⟩ := h2
      rw [ps_T _ (fun z => absurd z.1 (by decide))]
      unfold gTm
      rw [mT_sT, if_pos ⟨rfl, rfl, rfl⟩]
    · rw [if_neg h2]
      by_cases h3 : k = 4 ∧ j = 7
      · obtain ⟨rfl, rfl⟩ := h3
        rw [ps_7]
        show (if i < mN D 4 ∧ opD D i then mT D 4 7 i + 1 else mT D 4 7 i) = _
        by_cases h4 : i < mN D 4 ∧ opD D i
        · rw [if_pos h4, if_pos ⟨rfl, rfl, h4⟩]
        · rw [if_neg h4, if_neg (fun z => h4 z.2.2), if_neg (fun z => absurd z.2.1 (by decide))]
      · rw [if_neg (fun z => h3 ⟨z.1, z.2.1⟩)]
        by_cases h5 : k = 4 ∧ j = 8
        · obtain ⟨rfl, rfl⟩ := h5
          rw [ps_8]
          show (if i < mN D 4 ∧ nbD D i 1 then 1 else mT D 4 8 i) = _
          by_cases h4 : i < mN D 4 ∧ nbD D i 1
          · rw [if_pos h4, if_pos ⟨rfl, rfl, h4⟩]
          · rw [if_neg h4, if_neg (fun z => h4 z.2.2)]
        · rw [if_neg (fun z => h5 ⟨z.1, z.2.1⟩), ps_T _ (fun z => z.2.1.elim (fun q => h3 ⟨z.1, q⟩) (fun q => h5 ⟨z.1, q⟩))]
          exact u3_ne h2
/-- a minute of the reference is a pass of one minute -/
theorem min_eq {D : Mem} : EqM (minD D) (passM D 1) := by
  refine ⟨by rw [mN_minD, pm_N], fun k j i => by rw [mi_T, pm_T], fun k j i => ?_, ?_, ?_⟩
  · rw [pm_J]
    show mJ (psN (gTm D) 1 (mN D 4)) k j i = _
    by_cases h : k = 6 ∧ j = 14 ∧ i = 0
    · rw [if_pos h]
      obtain ⟨rfl, rfl, rfl⟩ := h
      rw [ps_J, ocS_gT]
      rfl
    · rw [if_neg h]
      exact ps_J2 h _
  · rw [pm_P]; exact ps_P (M := gTm D) _
  · rw [pm_L]; exact ps_L (M := gTm D) _
