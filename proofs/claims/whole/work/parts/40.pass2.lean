/-- how many break, as a sum -/
def nbS (D : Mem) (x : Int32) : Nat → Int32
  | 0 => 0
  | n + 1 => nbS D x n + if nbD D n x then 1 else 0
theorem pb_eq {D : Mem} {x : Int32} : ∀ n, pbN D x n = nbS D x n
  | 0 => rfl
  | n + 1 => by
    have ih := pb_eq (D := D) (x := x) n
    show pbN D x n + pbS (psN D x n) n x = nbS D x n + _
    rw [ih]
    congr 1
    have h6 : mT (psN D x n) 4 6 n = mT D 4 6 n := ps_T n (fun z => by have := z.2.1; omega)
    have h7 : mT (psN D x n) 4 7 n = mT D 4 7 n := by rw [ps_7, if_neg (fun z => by have := z.1; omega)]
    have h8 : mT (psN D x n) 4 8 n = mT D 4 8 n := by rw [ps_8, if_neg (fun z => by have := z.1; omega)]
    have hb : (mT (psN D x n) 4 6 n = 111 ∧ brkM (sJ (psN D x n) 6 14 0 (mJ (psN D x n) 6 14 0 + x.toInt64)) n x = true) ↔ nbD D n x := by
      rw [brk_iff, h6]
      show _ ∧ (mT (psN D x n) 4 8 n = 0 ∧ prD (psN D x n) n - (mT (psN D x n) 4 7 n + x) < 0) ↔ _
      rw [h7, h8, ps_pr]
    unfold pbS
    by_cases hn : nbD D n x
    · rw [if_pos (hb.mpr hn), if_pos hn]
    · rw [if_neg (fun z => hn (hb.mp z)), if_neg hn]
/-- how many are open, as a sum -/
def ocS (D : Mem) : Nat → Int64
  | 0 => 0
  | n + 1 => ocS D n + if opD D n then 1 else 0
theorem ps_J {D : Mem} {x : Int32} : ∀ n, mJ (psN D x n) 6 14 0 = mJ D 6 14 0 + ocS D n * x.toInt64
  | 0 => by
    show mJ D 6 14 0 = mJ D 6 14 0 + 0 * x.toInt64
    rw [Int64.zero_mul, Int64.add_zero]
  | n + 1 => by
    have ih := ps_J (D := D) (x := x) n
    have h6 : mT (psN D x n) 4 6 n = mT D 4 6 n := ps_T n (fun z => by have := z.2.1; omega)
    show mJ (psS (psN D x n) n x) 6 14 0 = mJ D 6 14 0 + (ocS D n + if opD D n then 1 else 0) * x.toInt64
    unfold psS
    rw [h6]
    by_cases ho : mT D 4 6 n = 111
    · rw [if_pos ho, cnt_J, if_pos ho]
      show mJ (psN D x n) 6 14 0 + x.toInt64 = _
      rw [ih, Int64.add_mul, Int64.one_mul, Int64.add_assoc]
    · rw [if_neg ho, if_neg ho, ih, Int64.add_zero]
/-- other longs stay -/
theorem ps_J2 {D : Mem} {x : Int32} {k j i : Nat} (h : ¬ (k = 6 ∧ j = 14 ∧ i = 0)) : ∀ n, mJ (psN D x n) k j i = mJ D k j i
  | 0 => rfl
  | n + 1 => by
    have ih := ps_J2 (D := D) (x := x) h n
    show mJ (psS (psN D x n) n x) k j i = _
    unfold psS
    split
    · rw [cnt_J]
      show u3 (mJ (psN D x n)) 6 14 0 _ k j i = _
      rw [u3_ne h]
      exact ih
    · exact ih
/-- two memories with the same cells -/
def EqM (A B : Mem) : Prop := mN A = mN B ∧ (∀ k j i, mT A k j i = mT B k j i) ∧ (∀ k j i, mJ A k j i = mJ B k j i) ∧ mP A = mP B ∧ mL A = mL B
