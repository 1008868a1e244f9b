theorem i32_add {a b : Int32} (h1 : -2147483648 ≤ a.toInt + b.toInt) (h2 : a.toInt + b.toInt < 2147483648) : (a + b).toInt = a.toInt + b.toInt := by
  rw [Int32.toInt_add]
  exact Int.bmod_eq_of_le (by omega) (by omega)
theorem i32_sub {a b : Int32} (h1 : -2147483648 ≤ a.toInt - b.toInt) (h2 : a.toInt - b.toInt < 2147483648) : (a - b).toInt = a.toInt - b.toInt := by
  rw [Int32.toInt_sub]
  exact Int.bmod_eq_of_le (by omega) (by omega)
/-- a ticket's clock and promise are no great numbers -/
def CbD (D : Mem) (m i : Nat) : Prop := 0 ≤ (mT D 4 7 i).toInt ∧ (mT D 4 7 i).toInt + m < 1073741824 ∧ 0 ≤ (prD D i).toInt ∧ (prD D i).toInt ≤ 9999
theorem nb_iff {D : Mem} {m i : Nat} (b : CbD D m i) : nbD D i (nI m) ↔ opD D i ∧ mT D 4 8 i = 0 ∧ (prD D i).toInt - ((mT D 4 7 i).toInt + m) < 0 := by
  obtain ⟨b1, b2, b3, b4⟩ := b
  have hm : (nI m).toInt = m := nI_toInt (by omega)
  have e1 : (mT D 4 7 i + nI m).toInt = (mT D 4 7 i).toInt + m := by rw [i32_add (by omega) (by omega), hm]
  have e2 : (prD D i - (mT D 4 7 i + nI m)).toInt = (prD D i).toInt - ((mT D 4 7 i).toInt + m) := by rw [i32_sub (by omega) (by omega), e1]
  unfold nbD
  rw [i32_lt, e2, show (0 : Int32).toInt = 0 from rfl]
theorem pass_nb {D : Mem} {m i : Nat} (hi : i < mN D 4) (b : CbD D (m + 1) i) : (nbD (passM D (nI m)) i 1 ↔ ¬ nbD D i (nI m) ∧ nbD D i (nI (m + 1))) ∧ (nbD D i (nI m) → nbD D i (nI (m + 1))) := by
  have b0 : CbD D m i := ⟨b.1, by have := b.2.1; omega, b.2.2⟩
  have k0 := nb_iff b0
  have k1 := nb_iff b
  have hp : prD (passM D (nI m)) i = prD D i := ps_pr (M := D) (x := nI m) (n := mN D 4)
  have h6 : mT (passM D (nI m)) 4 6 i = mT D 4 6 i := by rw [pm_T, if_neg (fun z => absurd z.1 (by decide)), if_neg (fun z => absurd z.1 (by decide)), if_neg (fun z => absurd z.2.1 (by decide)), if_neg (fun z => absurd z.2.1 (by decide))]
  have h7 : opD D i → mT (passM D (nI m)) 4 7 i = mT D 4 7 i + nI m := fun ho => by rw [pm_T, if_neg (fun z => absurd z.1 (by decide)), if_neg (fun z => absurd z.1 (by decide)), if_pos ⟨rfl, rfl, hi, ho⟩]
  have h8 : mT (passM D (nI m)) 4 8 i = if nbD D i (nI m) then 1 else mT D 4 8 i := by
    rw [pm_T, if_neg (fun z => absurd z.1 (by decide)), if_neg (fun z => absurd z.1 (by decide)), if_neg (fun z => absurd z.2.1 (by decide))]
    by_cases h : nbD D i (nI m)
    · rw [if_pos h, if_pos ⟨rfl, rfl, hi, h⟩]
    · rw [if_neg h, if_neg (fun z => h z.2.2.2)]
  have e9 : mT D 4 7 i + nI m + 1 = mT D 4 7 i + nI (m + 1) := by rw [Int32.add_assoc, nI_1]
  refine ⟨⟨fun h => ?_, fun h => ?_⟩, fun h => ?_⟩
  · obtain ⟨a1, a2, a3⟩ := h
    have ho : opD D i := h6.symm.trans a1
    rw [h8] at a2
    rw [hp, h7 ho, e9] at a3
    by_cases h : nbD D i (nI m)
    · rw [if_pos h] at a2; exact absurd a2 (by decide)
    · rw [if_neg h] at a2
      exact ⟨h, ho, a2, a3⟩
  · obtain ⟨hn, a1, a2, a3⟩ := h
    refine ⟨h6.trans a1, by rw [h8, if_neg hn]; exact a2, ?_⟩
    rw [hp, h7 a1, e9]
    exact a3
  · rw [k1]
    rw [k0] at h
    obtain ⟨a1, a2, a3⟩ := h
    exact ⟨a1, a2, by omega⟩
