/-- what two memories have in common that differ in ticket i alone, as far as the lines ask -/
def SmX (A B : Mem) (i : Nat) : Prop := mN A 4 = mN B 4 ∧ (∀ q, q < 6 → mL A 9 q = mL B 9 q) ∧ (∀ x, x ≠ i → waM A x = waM B x ∧ toM A x = toM B x) ∧ ∀ x y, x ≠ i → y ≠ i → befM A x y = befM B x y
theorem QX_sm {A B : Mem} {i : Nat} (h : QX A i) (s : SmX A B i) : QX B i := by
  obtain ⟨s1, s2, s3, s4⟩ := s
  intro q hq
  obtain ⟨h1, h2⟩ := h q hq
  rw [← s2 q hq, ← s1]
  refine ⟨fun x => ?_, List.Pairwise.imp_of_mem (fun {x y} hx hy hxy => ?_) h2⟩
  · rw [h1 x]
    constructor
    · intro z
      obtain ⟨k1, k2⟩ := s3 x z.2.2.2
      exact ⟨z.1, k1 ▸ z.2.1, k2 ▸ z.2.2.1, z.2.2.2⟩
    · intro z
      obtain ⟨k1, k2⟩ := s3 x z.2.2.2
      exact ⟨z.1, k1.trans z.2.1, k2.trans z.2.2.1, z.2.2.2⟩
  · rw [← s4 x y ((h1 x).mp hx).2.2.2 ((h1 y).mp hy).2.2.2]
    exact hxy
theorem QI_of {D : Mem} {i : Nat} (h : QX D i) (hw : waM D i = false) : QI D := by
  intro q hq
  obtain ⟨h1, h2⟩ := h q hq
  refine ⟨fun x => ?_, h2⟩
  rw [h1 x]
  exact ⟨fun z => ⟨z.1, z.2.1, z.2.2.1⟩, fun z => ⟨z.1, z.2.1, z.2.2, fun k => by rw [k, hw] at z; cases z.2.1⟩⟩
theorem QX_of {D : Mem} {i : Nat} (h : QI D) (hw : waM D i = false) : QX D i := by
  intro q hq
  obtain ⟨h1, h2⟩ := h q hq
  refine ⟨fun x => ?_, h2⟩
  rw [h1 x]
  exact ⟨fun z => ⟨z.1, z.2.1, z.2.2, fun k => by rw [k, hw] at z; cases z.2.1⟩, fun z => ⟨z.1, z.2.1, z.2.2.1⟩⟩
/-- a number of ticket i changes -/
theorem SmX_sT {D : Mem} {i j : Nat} {v : Int32} : SmX D (sT D 4 j i v) i := by
  have e : ∀ k b x, x ≠ i → mT (sT D 4 j i v) k b x = mT D k b x := fun k b x hx => u3_ne (fun z => hx z.2.2)
  have e1 : ∀ k b x, k ≠ 4 → mT (sT D 4 j i v) k b x = mT D k b x := fun k b x hx => u3_ne (fun z => hx z.1)
  have hl : ∀ x, x ≠ i → leftM (sT D 4 j i v) x = leftM D x := fun x hx => by
    unfold leftM lvM cuM
    rw [e 4 7 x hx, e1 15 _ _ (by decide), e1 1 _ _ (by decide)]
    rfl
  have he : ∀ x, leM (sT D 4 j i v) x = leM D x := fun x => by
    unfold leM cuM
    rw [e1 1 _ _ (by decide)]
    rfl
  refine ⟨rfl, fun q _ => rfl, fun x hx => ⟨?_, ?_⟩, fun x y hx hy => ?_⟩
  · unfold waM stM
    rw [e 4 6 x hx]
    rfl
  · unfold toM
    rw [e 4 4 x hx]
  · unfold befM
    rw [hl x hx, hl y hy, he, he, e 4 0 x hx, e 4 0 y hy]
