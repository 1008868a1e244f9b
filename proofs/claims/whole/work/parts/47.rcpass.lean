/-- the reference's cells don't ask which of two equal memories it is -/
theorem RC_eq {A B M : Mem} (h : EqM A B) (r : RC A M) : RC B M := by
  obtain ⟨h1, h2, h3, h4, h5⟩ := h
  have ht : ∀ i, tkM A i = tkM B i := fun i => by unfold tkM; rw [h4]
  have hc : ∀ i, cuM A i = cuM B i := fun i => by unfold cuM; rw [h4]
  simpa only [RC, RF, RT, h1, h2, h3, h4, ht, hc] using r
/-- pass: both sides go together -/
theorem RC_pass {D M : Mem} {m : Nat} (r : RC D M) (hm : m + 1 < 1073741824) (b : ∀ i, i < mN D 4 → CbD D (m + 1) i) : RC (passM D (nI (m + 1))) (itR D M (m + 1)) := RC_eq (it_pass m hm b).1 (RC_it r (m + 1))
theorem pb_it {D : Mem} {m : Nat} (hm : m + 1 < 1073741824) (b : ∀ i, i < mN D 4 → CbD D (m + 1) i) : itC D (m + 1) = pbN D (nI (m + 1)) (mN D 4) := by rw [pb_eq]; exact (it_pass m hm b).2
