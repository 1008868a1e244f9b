/-! what each part of INV reads -/
def DkEq (A B : Mem) : Prop := mN B = mN A ∧ mP B = mP A ∧ (∀ k, k < 7 ∨ k = 14 ∨ k = 15 → ∀ j i, mT B k j i = mT A k j i) ∧ ∀ j i, mJ B 6 j i = mJ A 6 j i
def MoEq (M N : Mem) : Prop := mN N = mN M ∧ (∀ j i, j ≠ 19 → mT N 7 j i = mT M 7 j i) ∧ (∀ k j i, 20 ≤ k → k ≤ 38 → mT N k j i = mT M k j i) ∧ ∀ j i, mJ N 7 j i = mJ M 7 j i
section CG
variable {A B : Mem}
theorem rc_cg {M N : Mem} (h : DkEq A B) (g : MoEq M N) (r : RC A M) : RC B N := by
  obtain ⟨hN, hP, hT, hJ⟩ := h
  obtain ⟨gN, gT, gK, gJ⟩ := g
  have d0 := hT 0 (by decide)
  have d1 := hT 1 (by decide)
  have d3 := hT 3 (by decide)
  have d4 := hT 4 (by decide)
  have d6 := hT 6 (by decide)
  have d14 := hT 14 (by decide)
  have d15 := hT 15 (by decide)
  have f20 := gT 20 0 (by decide)
  have f21 := gT 21 0 (by decide)
  have f22 := gT 22 0 (by decide)
  have f23 := gT 23 0 (by decide)
  have f24 := gT 24 0 (by decide)
  have f25 := gT 25 0 (by decide)
  have f26 := gT 26 0 (by decide)
  have f27 := gT 27 0 (by decide)
  have f28 := gT 28 0 (by decide)
  have m20 := fun j i => gK 20 j i (by decide) (by decide)
  have m21 := fun j i => gK 21 j i (by decide) (by decide)
  have m22 := fun j i => gK 22 j i (by decide) (by decide)
  have m24 := fun j i => gK 24 j i (by decide) (by decide)
  have m25 := fun j i => gK 25 j i (by decide) (by decide)
  have m26 := fun j i => gK 26 j i (by decide) (by decide)
  have m27 := fun j i => gK 27 j i (by decide) (by decide)
  have m28 := fun j i => gK 28 j i (by decide) (by decide)
  have m29 := fun j i => gK 29 j i (by decide) (by decide)
  have m30 := fun j i => gK 30 j i (by decide) (by decide)
  have m31 := fun j i => gK 31 j i (by decide) (by decide)
  have m32 := fun j i => gK 32 j i (by decide) (by decide)
  have m33 := fun j i => gK 33 j i (by decide) (by decide)
  have m34 := fun j i => gK 34 j i (by decide) (by decide)
  have m35 := fun j i => gK 35 j i (by decide) (by decide)
  have m36 := fun j i => gK 36 j i (by decide) (by decide)
  have m37 := fun j i => gK 37 j i (by decide) (by decide)
  have m38 := fun j i => gK 38 j i (by decide) (by decide)
  have tk : tkM B = tkM A := by funext i; unfold tkM; rw [hP]
  have cu : cuM B = cuM A := by funext i; unfold cuM; rw [hP]
  simpa only [RC, RF, RT, tk, cu, hN, hP, gN, d0, d1, d3, d4, d6, d14, d15, hJ, gJ, f20, f21, f22, f23, f24, f25, f26, f27, f28, m20, m21, m22, m24, m25, m26, m27, m28, m29, m30, m31, m32, m33, m34, m35, m36, m37, m38] using r
theorem num_cg (hN : mN B = mN A) (e0 : ∀ i, mT B 0 0 i = mT A 0 0 i) (e2 : ∀ i, mT B 2 0 i = mT A 2 0 i) (e4 : ∀ i, mT B 4 0 i = mT A 4 0 i) (h : NumOk A) : NumOk B := by
  simpa only [NumOk, hN, e0, e2, e4] using h
theorem qi_cg (hN : mN B 4 = mN A 4) (hP : ∀ i, mP B 4 9 i = mP A 4 9 i) (hP1 : ∀ i, mP B 4 1 i = mP A 4 1 i) (d4 : ∀ j i, mT B 4 j i = mT A 4 j i) (d1 : ∀ i, mT B 1 1 i = mT A 1 1 i) (d15 : ∀ j, mT B 15 j 0 = mT A 15 j 0) (hL : ∀ q, mL B 9 q = mL A 9 q) (q : QI A) : QI B := by
  have hw : waM B = waM A := by funext i; unfold waM stM; rw [d4, hP]
  have ht : toM B = toM A := by funext i; unfold toM; rw [d4]
  have c1 : ∀ i, cuM B i = cuM A i := fun i => by unfold cuM; rw [hP1]
  have l1 : ∀ i, leftM B i = leftM A i := fun i => by
    unfold leftM lvM
    rw [c1, d1, d4, d15]
  have l2 : ∀ i, leM B i = leM A i := fun i => by
    unfold leM
    rw [c1, d1]
  have hb : ∀ x y, (befM B x y = true) = (befM A x y = true) := fun x y => by
    unfold befM
    rw [l1, l1, l2, l2, d4, d4]
  simpa only [QI, hN, hL, hw, ht, hb] using q
theorem co_cg (hP : ∀ k, mP B 2 1 k = mP A 2 1 k) (t : Nat) : ∀ n, coN B t n = coN A t n
  | 0 => rfl
  | n + 1 => by
    have e : tkM B n = tkM A n := by unfold tkM; rw [hP]
    show coN B t n + (if tkM B n = t then 1 else 0) = coN A t n + (if tkM A n = t then 1 else 0)
    rw [co_cg hP t n, e]
theorem ml_cg (hN : mN B = mN A) (hL : ∀ i, mL B 8 i = mL A 8 i) (hP : ∀ k, mP B 2 1 k = mP A 2 1 k) (h : ∀ i, i < mN A 4 → MlOk A i) : ∀ i, i < mN B 4 → MlOk B i := by
  have e : tkM B = tkM A := by funext n; unfold tkM; rw [hP]
  have c := co_cg hP
  simpa only [MlOk, e, hN, hL, c] using h
theorem he_cg (hP : ∀ i, mP B 4 9 i = mP A 4 9 i) (a : Nat) : ∀ n, heN B a n = heN A a n
  | 0 => rfl
  | n + 1 => by
    show heN B a n + (if mP B 4 9 n = some a then 1 else 0) = heN A a n + (if mP A 4 9 n = some a then 1 else 0)
    rw [he_cg hP a n, hP]
theorem held_cg (hN : mN B = mN A) (e : ∀ i, mT B 0 3 i = mT A 0 3 i) (hP : ∀ i, mP B 4 9 i = mP A 4 9 i) (h : ∀ a, a < mN A 0 → mT A 0 3 a = heN A a (mN A 4)) : ∀ a, a < mN B 0 → mT B 0 3 a = heN B a (mN B 4) := by
  have c := he_cg hP
  simpa only [hN, e, c] using h
theorem wo_cg (hP : ∀ k, mP B 2 1 k = mP A 2 1 k) (e : ∀ k, mT B 23 k 0 = mT A 23 k 0) (t : Nat) : ∀ n, woN B B t n = woN A A t n
  | 0 => rfl
  | n + 1 => by
    have e2 : tkM B n = tkM A n := by unfold tkM; rw [hP]
    show (woN B B t n ||| if tkM B n = t then mT B 23 n 0 else 0) = (woN A A t n ||| if tkM A n = t then mT A 23 n 0 else 0)
    rw [wo_cg hP e t n, e2, e]
theorem wrd_cg (hN : mN B = mN A) (hP : ∀ k, mP B 2 1 k = mP A 2 1 k) (e : ∀ k, mT B 23 k 0 = mT A 23 k 0) (e5 : ∀ i, mT B 4 5 i = mT A 4 5 i) (e16 : ∀ j, mT B 16 j 0 = mT A 16 j 0) (e3 : ∀ i, mT B 3 0 i = mT A 3 0 i) (h : WrdOk A) : WrdOk B := by
  have c := wo_cg hP e
  simpa only [WrdOk, hN, c, e5, e16, e3] using h
theorem bnd_cg {t : Nat} (hN : mN B = mN A) (e7 : ∀ i, mT B 4 7 i = mT A 4 7 i) (e9 : mT B 6 9 0 = mT A 6 9 0) (e11 : mT B 6 11 0 = mT A 6 11 0) (e15 : ∀ j, mT B 15 j 0 = mT A 15 j 0) (e28 : mT B 7 28 0 = mT A 7 28 0) (h : BndOk t A) : BndOk t B := by
  simpa only [BndOk, hN, e7, e9, e11, e15, e28] using h
end CG
/-- what a call that writes leaves: the rows that the law and the reference's thrown add change nothing of it -/
theorem pu_write {t r r' : Nat} {M X Y M1 M2 : Mem} {v z : Int64} (I : INV t M) (hr : r' = r) (hM1 : M1 = if r = 0 then sJ X 39 0 0 v else M) (h4 : r ≤ 4) (hn1 : mN X = mN M) (hv : r = 0 → v = z)
    (hmo : r = 0 → RC M X) (hM2 : r = 0 → Sm Y M2 ∧ mT M2 7 19 0 = 0 ∧ mJ M2 39 0 0 = mJ M1 39 0 0) (hno : r ≠ 0 → M2 = sT M1 7 19 0 (thI r)) (hI : r = 0 → INV (t + 1) Y) :
    RC M M1 ∧ 0 < mN M1 7 ∧ 0 < mN M2 7 ∧ 0 < mN M2 39 ∧ r < 100 ∧ mT M2 7 19 0 = nI r ∧ (r = 0 → mJ M2 39 0 0 = z) ∧ INV (t + 1) M2 := by
  subst hr
  have n7 := I.n7
  have n39 := I.n39
  by_cases h : r' = 0
  · rw [if_pos h] at hM1
    obtain ⟨s2, q1, q2⟩ := hM2 h
    have I2 := sm_inv s2 (hI h)
    refine ⟨?_, ?_, by have := I2.n7; omega, by have := I2.n39; omega, by omega, by rw [q1, h]; rfl, fun _ => ?_, I2⟩
    · rw [hM1]
      exact sm_rc Sm.rf Sm.row (hmo h)
    · rw [hM1]
      show 0 < mN X 7
      rw [hn1]; omega
    · rw [q2, hM1, ← hv h, mJ_sJ, if_pos ⟨rfl, rfl, rfl⟩]
  · rw [if_neg h] at hM1
    have e2 := hno h
    subst hM1
    have s2 : Sm M1 M2 := by rw [e2]; exact Sm.thr
    have e := s2.1
    refine ⟨I.rc, by omega, by rw [e]; omega, by rw [e]; omega, by omega, ?_, fun z => absurd z h, inv_sm I s2⟩
    rw [e2, ← thI_nI h4]
    rfl
