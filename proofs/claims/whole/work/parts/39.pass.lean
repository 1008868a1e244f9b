/-! the minutes that pass, cell by cell -/
abbrev opD (D : Mem) (i : Nat) : Prop := mT D 4 6 i = 111
def prD (D : Mem) (i : Nat) : Int32 := mT D 15 (lvM D (cuM D i)) 0
theorem cnt_T {M : Mem} {i k j u : Nat} {x : Int32} (h : ¬ (k = 4 ∧ (j = 7 ∨ j = 8) ∧ u = i)) : mT (cntM M i x) k j u = mT M k j u := by
  unfold cntM
  split
  · rw [mT_sT, if_neg (fun z => h ⟨z.1, Or.inr z.2.1, z.2.2⟩), mT_sT, if_neg (fun z => h ⟨z.1, Or.inl z.2.1, z.2.2⟩)]
  · rw [mT_sT, if_neg (fun z => h ⟨z.1, Or.inl z.2.1, z.2.2⟩)]
theorem cnt_7 {M : Mem} {i : Nat} {x : Int32} : mT (cntM M i x) 4 7 i = mT M 4 7 i + x := by
  unfold cntM
  split
  · rw [mT_sT, if_neg (fun z => absurd z.2.1 (by decide)), mT_sT, if_pos ⟨rfl, rfl, rfl⟩]
  · rw [mT_sT, if_pos ⟨rfl, rfl, rfl⟩]
theorem cnt_8 {M : Mem} {i : Nat} {x : Int32} : mT (cntM M i x) 4 8 i = if brkM M i x = true then 1 else mT M 4 8 i := by
  unfold cntM
  split
  · rw [mT_sT, if_pos ⟨rfl, rfl, rfl⟩]
  · rw [mT_sT, if_neg (fun z => absurd z.2.1 (by decide))]
theorem cnt_P {M : Mem} {i : Nat} {x : Int32} : mP (cntM M i x) = mP M := by unfold cntM; split <;> rfl
theorem cnt_L {M : Mem} {i : Nat} {x : Int32} : mL (cntM M i x) = mL M := by unfold cntM; split <;> rfl
theorem cnt_J {M : Mem} {i : Nat} {x : Int32} : mJ (cntM M i x) = mJ M := by unfold cntM; split <;> rfl
theorem psS_T {M : Mem} {i k j u : Nat} {x : Int32} (h : ¬ (k = 4 ∧ (j = 7 ∨ j = 8) ∧ u = i)) : mT (psS M i x) k j u = mT M k j u := by
  unfold psS
  split
  · rw [cnt_T h]; rfl
  · rfl
theorem psS_P {M : Mem} {i : Nat} {x : Int32} : mP (psS M i x) = mP M := by
  unfold psS
  split
  · rw [cnt_P]; rfl
  · rfl
theorem psS_L {M : Mem} {i : Nat} {x : Int32} : mL (psS M i x) = mL M := by
  unfold psS
  split
  · rw [cnt_L]; rfl
  · rfl
theorem ps_T {M : Mem} {k j u : Nat} {x : Int32} : ∀ n, ¬ (k = 4 ∧ (j = 7 ∨ j = 8) ∧ u < n) → mT (psN M x n) k j u = mT M k j u
  | 0, _ => rfl
  | n + 1, h => (psS_T (M := psN M x n) (fun z => h ⟨z.1, z.2.1, by omega⟩)).trans (ps_T n (fun z => h ⟨z.1, z.2.1, by omega⟩))
theorem ps_P {M : Mem} {x : Int32} : ∀ n, mP (psN M x n) = mP M
  | 0 => rfl
  | n + 1 => (psS_P (M := psN M x n)).trans (ps_P n)
theorem ps_L {M : Mem} {x : Int32} : ∀ n, mL (psN M x n) = mL M
  | 0 => rfl
  | n + 1 => (psS_L (M := psN M x n)).trans (ps_L n)
/-- broken now, and not before -/
abbrev nbD (D : Mem) (i : Nat) (x : Int32) : Prop := opD D i ∧ mT D 4 8 i = 0 ∧ prD D i - (mT D 4 7 i + x) < 0
theorem brk_iff {D : Mem} {i : Nat} {x : Int32} : brkM D i x = true ↔ mT D 4 8 i = 0 ∧ prD D i - (mT D 4 7 i + x) < 0 := by
  unfold brkM
  rw [Bool.and_eq_true, decide_eq_true_iff, decide_eq_true_iff]
  have e : leftM (sT D 4 7 i (mT D 4 7 i + x)) i = prD D i - (mT D 4 7 i + x) := by
    show mT (sT D 4 7 i _) 15 _ 0 - mT (sT D 4 7 i _) 4 7 i = _
    rw [mT_sT, if_neg (fun z => absurd z.1 (by decide)), mT_sT, if_pos ⟨rfl, rfl, rfl⟩]
    rfl
  rw [e]
theorem ps_pr {M : Mem} {x : Int32} {n u : Nat} : prD (psN M x n) u = prD M u := by
  have e1 : mT (psN M x n) 1 1 (cuM (psN M x n) u) = mT M 1 1 (cuM M u) := by
    rw [ps_T n (fun z => absurd z.1 (by decide))]
    unfold cuM
    rw [ps_P]
  unfold prD lvM
  rw [e1, ps_T n (fun z => absurd z.1 (by decide))]
theorem ps_7 {M : Mem} {u : Nat} {x : Int32} : ∀ n, mT (psN M x n) 4 7 u = if u < n ∧ opD M u then mT M 4 7 u + x else mT M 4 7 u
  | 0 => by rw [if_neg (fun z => absurd z.1 (Nat.not_lt_zero _))]; rfl
  | n + 1 => by
    have ih := ps_7 (M := M) (u := u) (x := x) n
    have h6 : mT (psN M x n) 4 6 n = mT M 4 6 n := ps_T n (fun z => by have := z.2.1; omega)
    show mT (psS (psN M x n) n x) 4 7 u = _
    by_cases e : u = n
    · subst e
      unfold psS
      rw [h6]
      by_cases ho : mT M 4 6 u = 111
      · rw [if_pos ho, cnt_7, if_pos ⟨by omega, ho⟩]
        show mT (psN M x u) 4 7 u + x = _
        rw [ih, if_neg (fun z => by have := z.1; omega)]
      · rw [if_neg ho, ih, if_neg (fun z => by have := z.1; omega), if_neg (fun z => ho z.2)]
    · rw [psS_T (fun z => e z.2.2), ih]
      by_cases hc : u < n ∧ opD M u
      · rw [if_pos hc, if_pos ⟨by omega, hc.2⟩]
      · rw [if_neg hc, if_neg (fun z => hc ⟨by omega, z.2⟩)]
theorem ps_8 {M : Mem} {u : Nat} {x : Int32} : ∀ n, mT (psN M x n) 4 8 u = if u < n ∧ nbD M u x then 1 else mT M 4 8 u
  | 0 => by rw [if_neg (fun z => absurd z.1 (Nat.not_lt_zero _))]; rfl
  | n + 1 => by
    have ih := ps_8 (M := M) (u := u) (x := x) n
    have h6 : mT (psN M x n) 4 6 n = mT M 4 6 n := ps_T n (fun z => by have := z.2.1; omega)
    show mT (psS (psN M x n) n x) 4 8 u = _
    by_cases e : u = n
    · subst e
      have h7 : mT (psN M x u) 4 7 u = mT M 4 7 u := by rw [ps_7, if_neg (fun z => by have := z.1; omega)]
      have h8 : mT (psN M x u) 4 8 u = mT M 4 8 u := by rw [ih, if_neg (fun z => by have := z.1; omega)]
      unfold psS
      rw [h6]
      by_cases ho : mT M 4 6 u = 111
      · rw [if_pos ho, cnt_8]
        have hb : brkM (sJ (psN M x u) 6 14 0 (mJ (psN M x u) 6 14 0 + x.toInt64)) u x = true ↔ nbD M u x := by
          rw [brk_iff]
          show mT (psN M x u) 4 8 u = 0 ∧ prD (psN M x u) u - (mT (psN M x u) 4 7 u + x) < 0 ↔ _
          rw [h7, h8, ps_pr]
          exact ⟨fun z => ⟨ho, z⟩, fun z => z.2⟩
        by_cases hn : nbD M u x
        · rw [if_pos (hb.mpr hn), if_pos ⟨by omega, hn⟩]
        · rw [if_neg (fun z => hn (hb.mp z)), if_neg (fun z => hn z.2)]
          exact h8
      · rw [if_neg ho, h8, if_neg (fun z => ho z.2.1)]
    · rw [psS_T (fun z => e z.2.2), ih]
      by_cases hc : u < n ∧ nbD M u x
      · rw [if_pos hc, if_pos ⟨by omega, hc.2⟩]
      · rw [if_neg hc, if_neg (fun z => hc ⟨by omega, z.2⟩)]
