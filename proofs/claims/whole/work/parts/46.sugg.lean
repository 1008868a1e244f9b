set_option maxRecDepth 100000 in
theorem pos_fin : ∀ n : Fin 1024, (0 < btN (nI n.1) 10 ↔ ¬ btN (nI n.1) 10 = 0) := by decide +kernel
/-- the reference's suggestion is the desk's -/
theorem sm_ba {D M : Mem} {t : Nat} (hw : woN D M t (mN D 2) = mT D 4 5 t) (hr : ∀ n, n < mN D 3 → ∃ q, q < 1024 ∧ mT D 3 0 n &&& mT D 4 5 t = nI q) : ∀ n, n ≤ mN D 3 → smN D M t n = baN D t n
  | 0, _ => rfl
  | n + 1, h => by
    have ih := sm_ba hw hr n (by omega)
    obtain ⟨q, hq, e⟩ := hr n (by omega)
    have e1 : scM D M t n = btN (nI q) 10 := by unfold scM; rw [hw, e]
    have e2 : coM D t n = btN (nI q) 10 := by unfold coM; rw [pop_bt hq e, e]
    have e3 := pos_fin ⟨q, hq⟩
    unfold smN baN smS baS
    rw [ih, e1, e2]
    by_cases c : 0 < btN (nI q) 10 ∧ (baN D t n).2 < 10 * btN (nI q) 10 + mT D 14 (toM D t) n
    · rw [if_pos c, if_pos ⟨e3.mp c.1, c.2⟩]
    · rw [if_neg c, if_neg (fun z => c ⟨e3.mpr z.1, z.2⟩)]
