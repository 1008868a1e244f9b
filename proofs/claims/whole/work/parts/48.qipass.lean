theorem pm_o {D : Mem} {x : Int32} {k j i : Nat} (h1 : k ≠ 6) (h2 : ¬ (k = 4 ∧ (j = 7 ∨ j = 8))) : mT (passM D x) k j i = mT D k j i := by
  rw [pm_T, if_neg (fun z => h1 z.1), if_neg (fun z => h1 z.1), if_neg (fun z => h2 ⟨z.1, Or.inl z.2.1⟩), if_neg (fun z => h2 ⟨z.1, Or.inr z.2.1⟩)]
theorem pass_left {D : Mem} {m i : Nat} (hi : i < mN D 4) (o : opD D i) (b : CbD D m i) : (leftM (passM D (nI m)) i).toInt = (leftM D i).toInt - m := by
  obtain ⟨b1, b2, b3, b4⟩ := b
  have hp : prD (passM D (nI m)) i = prD D i := ps_pr (M := D) (x := nI m) (n := mN D 4)
  have h7 : mT (passM D (nI m)) 4 7 i = mT D 4 7 i + nI m := by rw [pm_T, if_neg (fun z => absurd z.1 (by decide)), if_neg (fun z => absurd z.1 (by decide)), if_pos ⟨rfl, rfl, hi, o⟩]
  have hm : (nI m).toInt = m := nI_toInt (by omega)
  have e1 : (mT D 4 7 i + nI m).toInt = (mT D 4 7 i).toInt + m := by rw [i32_add (by omega) (by omega), hm]
  show (prD (passM D (nI m)) i - mT (passM D (nI m)) 4 7 i).toInt = (prD D i - mT D 4 7 i).toInt - m
  rw [hp, h7, i32_sub (by omega) (by omega), e1, i32_sub (by omega) (by omega)]
  omega
theorem pass_bef {D : Mem} {m i j : Nat} (hi : i < mN D 4) (hj : j < mN D 4) (oi : opD D i) (oj : opD D j) (bi : CbD D m i) (bj : CbD D m j) : befM (passM D (nI m)) i j = true ↔ befM D i j = true := by
  have e1 := pass_left hi oi bi
  have e2 := pass_left hj oj bj
  have hl : ∀ u, leM (passM D (nI m)) u = leM D u := fun u => by
    unfold leM cuM
    rw [pm_P, pm_o (by decide) (by decide)]
  have hn : ∀ u, mT (passM D (nI m)) 4 0 u = mT D 4 0 u := fun u => pm_o (by decide) (by decide)
  rw [bef_iff, bef_iff, hl, hl, hn, hn, e1, e2]
  constructor
  · intro h; omega
  · intro h; omega
/-- the lines stay in order while the minutes pass -/
theorem QI_pass {D : Mem} {m : Nat} (h : QI D) (b : ∀ i, i < mN D 4 → CbD D m i) : QI (passM D (nI m)) := by
  intro q hq
  obtain ⟨h1, h2⟩ := h q hq
  have hw : ∀ x, waM (passM D (nI m)) x = waM D x := fun x => by unfold waM stM; rw [pm_6, pm_P]
  have ht : ∀ x, toM (passM D (nI m)) x = toM D x := fun x => by unfold toM; rw [pm_o (by decide) (by decide)]
  refine ⟨fun x => by rw [pm_L, pm_N, hw, ht]; exact h1 x, ?_⟩
  rw [pm_L]
  refine List.Pairwise.imp_of_mem (fun {x y} hx hy hxy => ?_) h2
  obtain ⟨x1, x2, -⟩ := (h1 x).mp hx
  obtain ⟨y1, y2, -⟩ := (h1 y).mp hy
  have op : ∀ u, waM D u = true → opD D u := fun u hu => by unfold waM at hu; rw [Bool.and_eq_true] at hu; exact of_decide_eq_true hu.1
  exact (pass_bef x1 y1 (op x x2) (op y y2) (b x x1) (b y y1)).mpr hxy
