/-- handOver, answer, close: the ticket doesn't wait, before or after -/
theorem wa_some {D : Mem} {i a : Nat} (h : mP D 4 9 i = some a) : waM D i = false := by
  unfold waM
  rw [h]
  exact Bool.and_false _
theorem wa_ne {D : Mem} {i : Nat} (h : mT D 4 6 i ≠ 111) : waM D i = false := by
  unfold waM stM
  rw [decide_eq_false h]
  rfl
theorem QI_hov {D : Mem} {i a b : Nat} (h : QI D) (hp : mP D 4 9 i = some b) : QI (hovM D i a) := by
  unfold hovM joinM
  refine QI_of (QX_sm (QX_sm (QX_sm (QX_leave (QX_of h (wa_some hp))) SmX_sP) (SmX_o (Or.inl rfl))) SmX_sT) ?_
  unfold waM stM
  show (_ && (mP (sP (leaveM D i) 4 9 i (some a)) 4 9 i).isNone) = false
  rw [mP_sP, if_pos ⟨rfl, rfl, rfl⟩]
  exact Bool.and_false _
theorem QX_cls {D : Mem} {i : Nat} (h : QX D i) : QX (clsM D i) i := by
  unfold clsM cls0
  refine QX_sm (QX_sm (QX_sm ?_ SmX_sP) SmX_sT) SmX_sT
  split
  · exact h
  · exact QX_sm h (SmX_o (Or.inr (Or.inr rfl)))
theorem QI_cls {D : Mem} {i : Nat} (h : QI D) (hs : mT D 4 6 i = 97) : QI (clsM D i) := by
  refine QI_of (QX_cls (QX_of h (wa_ne (by rw [hs]; decide)))) (wa_ne ?_)
  unfold clsM
  rw [mT_sT, if_neg (fun z => absurd z.2.1 (by decide)), mT_sT, if_pos ⟨rfl, rfl, rfl⟩]
  decide
