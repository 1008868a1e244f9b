/-- answer -/
theorem QI_ans {D : Mem} {i : Nat} {o : Option Nat} (h : QI D) (hp : mP D 4 9 i ≠ none) : QI (ansP D i o) := by
  have hw : waM D i = false := by
    cases e : mP D 4 9 i with
    | none => exact absurd e hp
    | some a => exact wa_some e
  have x1 : QX (sP (sT (leaveM D i) 4 6 i 97) 4 11 i o) i := QX_sm (QX_sm (QX_leave (QX_of h hw)) SmX_sT) SmX_sP
  have x2 : QX (sT (sP (sT (leaveM D i) 4 6 i 97) 4 11 i o) 6 11 0 (mT (sP (sT (leaveM D i) 4 6 i 97) 4 11 i o) 6 11 0 + 1)) i := QX_sm x1 (SmX_o (Or.inr (Or.inl rfl)))
  have x3 : QX (cans1 (sP (sT (leaveM D i) 4 6 i 97) 4 11 i o) i) i := x2
  have s1 : mT (sP (sT (leaveM D i) 4 6 i 97) 4 11 i o) 4 6 i = 97 := by
    show mT (sT (leaveM D i) 4 6 i 97) 4 6 i = 97
    rw [mT_sT, if_pos ⟨rfl, rfl, rfl⟩]
  unfold ansP cansM
  split
  · refine QI_of (QX_sm x3 (SmX_o (Or.inr (Or.inl rfl)))) (wa_ne ?_)
    show mT (sP (sT (leaveM D i) 4 6 i 97) 4 11 i o) 4 6 i ≠ 111
    rw [s1]; decide
  · refine QI_of x3 (wa_ne ?_)
    show mT (sP (sT (leaveM D i) 4 6 i 97) 4 11 i o) 4 6 i ≠ 111
    rw [s1]; decide
