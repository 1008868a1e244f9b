/-- setOnShift: all tickets of an agent go back -/
theorem QI_gbS {D : Mem} {a i : Nat} (w : Wf D) (hnum : NumOk D) (h : QI D) (hi : i < mN D 4) : QI (gbS D a i) := by
  unfold gbS
  split
  · rename_i hp
    exact QI_jq (wf_leave w) (num_leave hnum) (QX_leave (QX_of h (wa_some hp))) (by rw [mN_leave]; exact hi)
  · exact h
theorem num_jq {D : Mem} {i : Nat} (hnum : NumOk D) : NumOk (jqM D i) := by
  unfold NumOk
  rw [mN_jq, mT_jq]
  exact hnum
theorem num_gbS {D : Mem} {a i : Nat} (hnum : NumOk D) : NumOk (gbS D a i) := by
  unfold gbS
  split
  · exact num_jq (num_leave hnum)
  · exact hnum
theorem QI_gb {D : Mem} {a : Nat} (w : Wf D) (hnum : NumOk D) (h : QI D) : ∀ n, n ≤ mN D 4 → Wf (gbN D a n) ∧ NumOk (gbN D a n) ∧ QI (gbN D a n)
  | 0, _ => ⟨w, hnum, h⟩
  | n + 1, hn => by
    obtain ⟨w1, n1, q1⟩ := QI_gb w hnum h n (by omega)
    have hi : n < mN (gbN D a n) 4 := by rw [mN_gb]; omega
    exact ⟨(gbS_ok w1 q1.QW hi).1, num_gbS n1, QI_gbS w1 n1 q1 hi⟩
theorem QI_shift {D : Mem} {a : Nat} {v : Int32} (h : QI D) : QI (sT D 0 2 a v) := by
  intro q hq
  obtain ⟨h1, h2⟩ := h q hq
  exact ⟨h1, h2⟩
theorem QI_sos {D : Mem} {a : Nat} {b : Bool} (w : Wf D) (hnum : NumOk D) (h : QI D) : QI (sosM D a b) := by
  unfold sosM
  split
  · exact QI_shift h
  · exact (QI_gb (wf_shift w) (by exact hnum) (QI_shift h) _ (Nat.le_refl _)).2.2
