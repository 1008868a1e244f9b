theorem i32_lc (a b c : Int32) : a + (b + c) = b + (a + c) := by rw [← Int32.add_assoc, Int32.add_comm a b, Int32.add_assoc]
theorem nbS_add {D : Mem} {m : Nat} (b : ∀ i, i < mN D 4 → CbD D (m + 1) i) : ∀ n, n ≤ mN D 4 → nbS D (nI m) n + nbS (passM D (nI m)) 1 n = nbS D (nI (m + 1)) n
  | 0, _ => rfl
  | n + 1, h => by
    have ih := nbS_add b n (by omega)
    obtain ⟨k1, k2⟩ := pass_nb (m := m) (i := n) (by omega) (b n (by omega))
    show (nbS D (nI m) n + (if nbD D n (nI m) then 1 else 0)) + (nbS (passM D (nI m)) 1 n + (if nbD (passM D (nI m)) n 1 then 1 else 0)) = nbS D (nI (m + 1)) n + (if nbD D n (nI (m + 1)) then 1 else 0)
    rw [← ih, Int32.add_assoc, i32_lc (if nbD D n (nI m) then 1 else 0), ← Int32.add_assoc]
    congr 1
    by_cases h0 : nbD D n (nI m)
    · rw [if_pos h0, if_neg (fun z => (k1.mp z).1 h0), if_pos (k2 h0)]; rfl
    · by_cases h1 : nbD D n (nI (m + 1))
      · rw [if_neg h0, if_pos (k1.mpr ⟨h0, h1⟩), if_pos h1]; rfl
      · rw [if_neg h0, if_neg (fun z => h1 (k1.mp z).2), if_neg h1]; rfl
theorem pm_6 {D : Mem} {x : Int32} {i : Nat} : mT (passM D x) 4 6 i = mT D 4 6 i := by rw [pm_T, if_neg (fun z => absurd z.1 (by decide)), if_neg (fun z => absurd z.1 (by decide)), if_neg (fun z => absurd z.2.1 (by decide)), if_neg (fun z => absurd z.2.1 (by decide))]
theorem ocS_pass {D : Mem} {x : Int32} : ∀ n, ocS (passM D x) n = ocS D n
  | 0 => rfl
  | n + 1 => by
    show ocS (passM D x) n + (if opD (passM D x) n then 1 else 0) = ocS D n + (if opD D n then 1 else 0)
    rw [ocS_pass n]
    unfold opD
    rw [pm_6]
theorem nI_64 {m : Nat} (h : m < 1073741824) : (nI m).toInt64 + (1 : Int32).toInt64 = (nI (m + 1)).toInt64 := by
  refine Int64.toInt_inj.mp ?_
  have h1 : (nI m).toInt64.toInt = m := by rw [Int32.toInt_toInt64, nI_toInt (by omega)]
  have h2 : (nI (m + 1)).toInt64.toInt = m + 1 := by rw [Int32.toInt_toInt64, nI_toInt (by omega)]; omega
  have h3 : ((1 : Int32).toInt64).toInt = 1 := rfl
  rw [Int64.toInt_add, h1, h2, h3]
  exact Int.bmod_eq_of_le (by omega) (by omega)
theorem pass_step {D : Mem} {m : Nat} (hm : m < 1073741824) (b : ∀ i, i < mN D 4 → CbD D (m + 1) i) : EqM (passM (passM D (nI m)) 1) (passM D (nI (m + 1))) := by
  refine ⟨by rw [pm_N, pm_N, pm_N], fun k j i => ?_, fun k j i => ?_, by rw [pm_P, pm_P, pm_P], by rw [pm_L, pm_L, pm_L]⟩
  · rw [pm_T k j i, pm_T (D := D) (x := nI (m + 1)) k j i, pm_N]
    by_cases h1 : k = 6 ∧ j = 10 ∧ i = 0
    · rw [if_pos h1, if_pos h1, pm_T, if_pos ⟨rfl, rfl, rfl⟩, Int32.add_assoc, nbS_add b _ (Nat.le_refl _)]
    · rw [if_neg h1, if_neg h1]
      by_cases h2 : k = 6 ∧ j = 9 ∧ i = 0
      · rw [if_pos h2, if_pos h2, pm_T, if_neg (fun z => absurd z.2.1 (by decide)), if_pos ⟨rfl, rfl, rfl⟩, Int32.add_assoc, nI_1]
      · rw [if_neg h2, if_neg h2]
        by_cases h3 : k = 4 ∧ j = 7 ∧ i < mN D 4 ∧ opD D i
        · have h3' : k = 4 ∧ j = 7 ∧ i < mN D 4 ∧ opD (passM D (nI m)) i := ⟨h3.1, h3.2.1, h3.2.2.1, pm_6.trans h3.2.2.2⟩
          rw [if_pos h3, if_pos h3', pm_T, if_neg (fun z => absurd z.1 (by decide)), if_neg (fun z => absurd z.1 (by decide)), if_pos ⟨rfl, rfl, h3.2.2⟩, Int32.add_assoc, nI_1]
        · rw [if_neg h3, if_neg (fun z => h3 ⟨z.1, z.2.1, z.2.2.1, pm_6.symm.trans z.2.2.2⟩), pm_T k j i, if_neg h1, if_neg h2, if_neg h3]
          by_cases h5 : k = 4 ∧ j = 8 ∧ i < mN D 4
          · obtain ⟨k1, k2⟩ := pass_nb (m := m) h5.2.2 (b i h5.2.2)
            by_cases c0 : nbD D i (nI m)
            · rw [if_neg (fun z => (k1.mp z.2.2.2).1 c0), if_pos ⟨h5.1, h5.2.1, h5.2.2, c0⟩, if_pos ⟨h5.1, h5.2.1, h5.2.2, k2 c0⟩]
            · by_cases c1 : nbD D i (nI (m + 1))
              · rw [if_pos ⟨h5.1, h5.2.1, h5.2.2, k1.mpr ⟨c0, c1⟩⟩, if_pos ⟨h5.1, h5.2.1, h5.2.2, c1⟩]
              · rw [if_neg (fun z => c1 (k1.mp z.2.2.2).2), if_neg (fun z => c0 z.2.2.2), if_neg (fun z => c1 z.2.2.2)]
          · rw [if_neg (fun z => h5 ⟨z.1, z.2.1, z.2.2.1⟩), if_neg (fun z => h5 ⟨z.1, z.2.1, z.2.2.1⟩), if_neg (fun z => h5 ⟨z.1, z.2.1, z.2.2.1⟩)]
  · rw [pm_J k j i, pm_J (D := D) (x := nI (m + 1)) k j i, pm_N, ocS_pass]
    by_cases h : k = 6 ∧ j = 14 ∧ i = 0
    · rw [if_pos h, if_pos h, pm_J, if_pos ⟨rfl, rfl, rfl⟩, Int64.add_assoc, ← Int64.mul_add, nI_64 hm]
    · rw [if_neg h, if_neg h, pm_J, if_neg h]
/-- the reference's minutes make up the desk's pass -/
theorem it_pass {D : Mem} : ∀ m, m + 1 < 1073741824 → (∀ i, i < mN D 4 → CbD D (m + 1) i) → EqM (itD D (m + 1)) (passM D (nI (m + 1))) ∧ itC D (m + 1) = nbS D (nI (m + 1)) (mN D 4)
  | 0, _, _ => by
    refine ⟨min_eq, ?_⟩
    show (0 : Int32) + pbN (gTm D) 1 (mN D 4) = _
    rw [pb_eq, nbS_gT, Int32.zero_add]
    rfl
  | m + 1, hm, b => by
    obtain ⟨h1, h2⟩ := it_pass (D := D) m (by omega) (fun i hi => ⟨(b i hi).1, by have := (b i hi).2.1; omega, (b i hi).2.2⟩)
    have e := eq_pass h1 1
    have s := pass_step (D := D) (m := m + 1) (by omega) b
    have t := min_eq (D := itD D (m + 1))
    refine ⟨⟨t.1.trans (e.1.trans s.1), fun k j i => (t.2.1 k j i).trans ((e.2.1 k j i).trans (s.2.1 k j i)), fun k j i => (t.2.2.1 k j i).trans ((e.2.2.1 k j i).trans (s.2.2.1 k j i)), t.2.2.2.1.trans (e.2.2.2.1.trans s.2.2.2.1), t.2.2.2.2.trans (e.2.2.2.2.trans s.2.2.2.2)⟩, ?_⟩
    show itC D (m + 1) + pbN (gTm (itD D (m + 1))) 1 (mN (itD D (m + 1)) 4) = _
    have hN : mN (itD D (m + 1)) = mN D := h1.1.trans pm_N
    rw [h2, pb_eq, nbS_gT, hN, eq_nbS h1]
    exact nbS_add b _ (Nat.le_refl _)
