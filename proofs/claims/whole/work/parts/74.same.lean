/-! the same for all that INV reads -/
def Sm (A B : Mem) : Prop := mN B = mN A ∧ mP B = mP A ∧ mL B = mL A ∧ (∀ k j i, ¬ (k = 7 ∧ j = 19) → k ≠ 17 → mT B k j i = mT A k j i) ∧ ∀ k j i, k ≠ 39 → mJ B k j i = mJ A k j i
theorem Sm.rf {A : Mem} : Sm A A := ⟨rfl, rfl, rfl, fun _ _ _ _ _ => rfl, fun _ _ _ _ => rfl⟩
theorem Sm.trans {A B D : Mem} (h : Sm A B) (g : Sm B D) : Sm A D := ⟨g.1.trans h.1, g.2.1.trans h.2.1, g.2.2.1.trans h.2.2.1, fun k j i a b => (g.2.2.2.1 k j i a b).trans (h.2.2.2.1 k j i a b), fun k j i a => (g.2.2.2.2 k j i a).trans (h.2.2.2.2 k j i a)⟩
theorem Sm.thr {A : Mem} {v : Int32} : Sm A (sT A 7 19 0 v) := ⟨rfl, rfl, rfl, fun k j i a _ => if_neg (fun z => a ⟨z.1, z.2.1⟩), fun _ _ _ _ => rfl⟩
theorem Sm.row {A : Mem} {v : Int64} : Sm A (sJ A 39 0 0 v) := ⟨rfl, rfl, rfl, fun _ _ _ _ _ => rfl, fun k j i a => if_neg (fun z => a z.1)⟩
theorem Sm.rowF {A : Mem} {v : UInt64} : Sm A (sF A 0 v) := ⟨rfl, rfl, rfl, fun _ _ _ _ _ => rfl, fun _ _ _ _ => rfl⟩
theorem Sm.r17 {A : Mem} {j i : Nat} {v : Int32} : Sm A (sT A 17 j i v) := ⟨rfl, rfl, rfl, fun k a b _ h => if_neg (fun z => h z.1), fun _ _ _ _ => rfl⟩
section SMC
variable {A B : Mem}
theorem sm_tk (h : Sm A B) : tkM B = tkM A := by
  funext i
  unfold tkM
  rw [h.2.1]
theorem sm_co (h : Sm A B) (t : Nat) : ∀ n, coN B t n = coN A t n
  | 0 => rfl
  | n + 1 => by
    show coN B t n + (if tkM B n = t then 1 else 0) = coN A t n + (if tkM A n = t then 1 else 0)
    rw [sm_co h t n, sm_tk h]
theorem sm_he (h : Sm A B) (a : Nat) : ∀ n, heN B a n = heN A a n
  | 0 => rfl
  | n + 1 => by
    show heN B a n + (if mP B 4 9 n = some a then 1 else 0) = heN A a n + (if mP A 4 9 n = some a then 1 else 0)
    rw [sm_he h a n, h.2.1]
theorem sm_wo (h : Sm A B) (t : Nat) : ∀ n, woN B B t n = woN A A t n
  | 0 => rfl
  | n + 1 => by
    show (woN B B t n ||| if tkM B n = t then mT B 23 n 0 else 0) = (woN A A t n ||| if tkM A n = t then mT A 23 n 0 else 0)
    rw [sm_wo h t n, sm_tk h, h.2.2.2.1 23 n 0 (fun z => absurd z.1 (by decide)) (by decide)]
theorem sm_bef (h : Sm A B) (x y : Nat) : befM B x y = befM A x y := by
  obtain ⟨-, hP, -, hT, -⟩ := h
  have a1 : ∀ i, mT B 4 0 i = mT A 4 0 i := fun i => hT 4 0 i (by decide) (by decide)
  have c1 : ∀ i, cuM B i = cuM A i := fun i => by unfold cuM; rw [hP]
  have a3 : ∀ i, mT B 1 1 i = mT A 1 1 i := fun i => hT 1 1 i (by decide) (by decide)
  have l1 : ∀ i, leftM B i = leftM A i := fun i => by
    unfold leftM lvM
    rw [c1, a3, hT 4 7 i (by decide) (by decide), hT 15 _ 0 (fun z => absurd z.1 (by decide)) (by decide)]
  have l2 : ∀ i, leM B i = leM A i := fun i => by
    unfold leM
    rw [c1, a3]
  unfold befM
  rw [l1, l1, l2, l2, a1, a1]
theorem sm_wf (h : Sm A B) (w : Wf A) : Wf B := by
  obtain ⟨hN, hP, hL, hT, -⟩ := h
  have e1 : ∀ c, mT B 1 1 c = mT A 1 1 c := fun c => hT _ _ _ (by decide) (by decide)
  have e2 : ∀ c, mT B 4 4 c = mT A 4 4 c := fun c => hT _ _ _ (by decide) (by decide)
  simpa only [Wf, WfN, WfT, WfL, lvM, toM, cuM, hN, hP, hL, e1, e2] using w
/-- the reference's cells told by the desk's: both may differ in what RC doesn't read -/
theorem sm_rc {M N : Mem} (h : Sm A B) (g : Sm M N) (r : RC A M) : RC B N := by
  obtain ⟨hN, hP, hL, hT, hJ⟩ := h
  obtain ⟨gN, gP, gL, gT, gJ⟩ := g
  have d1 : ∀ j i, mT B 1 j i = mT A 1 j i := fun j i => hT 1 j i (fun z => absurd z.1 (by decide)) (by decide)
  have d0 : ∀ j i, mT B 0 j i = mT A 0 j i := fun j i => hT 0 j i (fun z => absurd z.1 (by decide)) (by decide)
  have d3 : ∀ j i, mT B 3 j i = mT A 3 j i := fun j i => hT 3 j i (fun z => absurd z.1 (by decide)) (by decide)
  have d4 : ∀ j i, mT B 4 j i = mT A 4 j i := fun j i => hT 4 j i (fun z => absurd z.1 (by decide)) (by decide)
  have d6 : ∀ j i, mT B 6 j i = mT A 6 j i := fun j i => hT 6 j i (fun z => absurd z.1 (by decide)) (by decide)
  have d14 : ∀ j i, mT B 14 j i = mT A 14 j i := fun j i => hT 14 j i (fun z => absurd z.1 (by decide)) (by decide)
  have d15 : ∀ j i, mT B 15 j i = mT A 15 j i := fun j i => hT 15 j i (fun z => absurd z.1 (by decide)) (by decide)
  have j6 : ∀ j i, mJ B 6 j i = mJ A 6 j i := fun j i => hJ 6 j i (by decide)
  have k7 : ∀ j i, mJ N 7 j i = mJ M 7 j i := fun j i => gJ 7 j i (by decide)
  have f20 := gT 7 20 0 (by decide) (by decide)
  have f21 := gT 7 21 0 (by decide) (by decide)
  have f22 := gT 7 22 0 (by decide) (by decide)
  have f23 := gT 7 23 0 (by decide) (by decide)
  have f24 := gT 7 24 0 (by decide) (by decide)
  have f25 := gT 7 25 0 (by decide) (by decide)
  have f26 := gT 7 26 0 (by decide) (by decide)
  have f27 := gT 7 27 0 (by decide) (by decide)
  have f28 := gT 7 28 0 (by decide) (by decide)
  have mo : ∀ k, k ≠ 7 → k ≠ 17 → ∀ j i, mT N k j i = mT M k j i := fun k a b j i => gT k j i (fun z => a z.1) b
  have m20 := mo 20 (by decide) (by decide)
  have m21 := mo 21 (by decide) (by decide)
  have m22 := mo 22 (by decide) (by decide)
  have m24 := mo 24 (by decide) (by decide)
  have m25 := mo 25 (by decide) (by decide)
  have m26 := mo 26 (by decide) (by decide)
  have m27 := mo 27 (by decide) (by decide)
  have m28 := mo 28 (by decide) (by decide)
  have m29 := mo 29 (by decide) (by decide)
  have m30 := mo 30 (by decide) (by decide)
  have m31 := mo 31 (by decide) (by decide)
  have m32 := mo 32 (by decide) (by decide)
  have m33 := mo 33 (by decide) (by decide)
  have m34 := mo 34 (by decide) (by decide)
  have m35 := mo 35 (by decide) (by decide)
  have m36 := mo 36 (by decide) (by decide)
  have m37 := mo 37 (by decide) (by decide)
  have m38 := mo 38 (by decide) (by decide)
  have tk : tkM B = tkM A := by funext i; unfold tkM; rw [hP]
  have cu : cuM B = cuM A := by funext i; unfold cuM; rw [hP]
  simpa only [RC, RF, RT, tk, cu, hN, hP, hL, gN, d0, d1, d3, d4, d6, d14, d15, j6, k7, f20, f21, f22, f23, f24, f25, f26, f27, f28, m20, m21, m22, m24, m25, m26, m27, m28, m29, m30, m31, m32, m33, m34, m35, m36, m37, m38] using r
theorem sm_qi (h : Sm A B) (q : QI A) : QI B := by
  have hb : ∀ x y, (befM B x y = true) = (befM A x y = true) := fun x y => by rw [sm_bef h]
  obtain ⟨hN, hP, hL, hT, -⟩ := h
  have d4 : ∀ j i, mT B 4 j i = mT A 4 j i := fun j i => hT 4 j i (fun z => absurd z.1 (by decide)) (by decide)
  have hw : waM B = waM A := by funext i; unfold waM stM; rw [d4, hP]
  have ht : toM B = toM A := by funext i; unfold toM; rw [d4]
  simpa only [QI, hN, hL, hw, ht, hb] using q
theorem sm_inv {t : Nat} (h : Sm A B) (I : INV t A) : INV t B := by
  obtain ⟨h1, h2, h3, h4, h5, h6, h7, h8, h9, h10, h11⟩ := I
  have hco := sm_co h
  have hhe := sm_he h
  have hwo := sm_wo h
  have htk := sm_tk h
  refine ⟨sm_wf h h1, sm_rc h h h2, ?_, ?_, sm_qi h h5, ?_, ?_, ?_, ?_, ?_, ?_⟩
  all_goals
    obtain ⟨hN, hP, hL, hT, hJ⟩ := h
    have d0 : ∀ j i, mT B 0 j i = mT A 0 j i := fun j i => hT 0 j i (fun z => absurd z.1 (by decide)) (by decide)
    have d2 : ∀ j i, mT B 2 j i = mT A 2 j i := fun j i => hT 2 j i (fun z => absurd z.1 (by decide)) (by decide)
    have d3 : ∀ j i, mT B 3 j i = mT A 3 j i := fun j i => hT 3 j i (fun z => absurd z.1 (by decide)) (by decide)
    have d4 : ∀ j i, mT B 4 j i = mT A 4 j i := fun j i => hT 4 j i (fun z => absurd z.1 (by decide)) (by decide)
    have d6 : ∀ j i, mT B 6 j i = mT A 6 j i := fun j i => hT 6 j i (fun z => absurd z.1 (by decide)) (by decide)
    have d14 : ∀ j i, mT B 14 j i = mT A 14 j i := fun j i => hT 14 j i (fun z => absurd z.1 (by decide)) (by decide)
    have d15 : ∀ j i, mT B 15 j i = mT A 15 j i := fun j i => hT 15 j i (fun z => absurd z.1 (by decide)) (by decide)
    have d16 : ∀ j i, mT B 16 j i = mT A 16 j i := fun j i => hT 16 j i (fun z => absurd z.1 (by decide)) (by decide)
    have d23 : ∀ j i, mT B 23 j i = mT A 23 j i := fun j i => hT 23 j i (fun z => absurd z.1 (by decide)) (by decide)
    have f28 := hT 7 28 0 (by decide) (by decide)
  · rw [hN]; exact h3
  · simpa only [NumOk, hN, d0, d2, d4] using h4
  · simpa only [MlOk, htk, hN, hL, hco] using h6
  · simpa only [CelOk, hN, hP, hL, d0, d3, d4, d14, d23] using h7
  · rw [hP]; exact h8
  · simpa only [hN, d0, hhe] using h9
  · simpa only [WrdOk, hN, d3, d4, d16, hwo] using h10
  · simpa only [BndOk, hN, d4, d6, d15, f28] using h11
end SMC
theorem inv_up {t : Nat} {M : Mem} (I : INV t M) : INV (t + 1) M := by
  obtain ⟨h1, h2, h3, h4, h5, h6, h7, h8, h9, h10, ⟨⟨a, ha, e⟩, hb, hc, ⟨d, hd, ed⟩, ⟨g, hg, eg⟩⟩⟩ := I
  refine ⟨h1, h2, h3, h4, h5, h6, h7, h8, h9, h10, ⟨a, by omega, e⟩, fun i hi => ?_, hc, ⟨d, by omega, ed⟩, ⟨g, ?_, eg⟩⟩
  · obtain ⟨b, hb1, hb2⟩ := hb i hi
    exact ⟨b, by omega, hb2⟩
  · exact Nat.le_trans hg (Nat.mul_le_mul (by omega) (by omega))
theorem inv_sm {t : Nat} {A B : Mem} (I : INV t A) (h : Sm A B) : INV (t + 1) B := sm_inv h (inv_up I)
