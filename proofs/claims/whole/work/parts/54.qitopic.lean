theorem num_leave {D : Mem} {i : Nat} (hnum : NumOk D) : NumOk (leaveM D i) := by
  unfold NumOk
  rw [mN_leave]
  exact ⟨fun x hx => by rw [mT_leave (by decide)]; exact hnum.1 x hx, fun x hx => by rw [mT_leave (by decide)]; exact hnum.2.1 x hx, fun x hx => by rw [mT_leave (by decide)]; exact hnum.2.2 x hx⟩
theorem num_lq {D : Mem} {i : Nat} (hnum : NumOk D) : NumOk (lqM D i) := by
  unfold NumOk
  rw [mN_lq, mT_lq]
  exact hnum
/-- setTopic -/
theorem QI_stop {D : Mem} {i t : Nat} (w : Wf D) (hnum : NumOk D) (h : QI D) (hi : i < mN D 4) (ht : t < 6) : QI (stopM D i (nI t)) := by
  have w1 : Wf (topM D i (nI t)) := wf_topic ht (wf_lq w hi)
  have n1 : NumOk (topM D i (nI t)) := num_lq (i := i) hnum
  have x1 : QX (topM D i (nI t)) i := QX_sm (QX_lq w h hi) SmX_sT
  have hi1 : i < mN (topM D i (nI t)) 4 := by show i < mN (lqM D i) 4; rw [mN_lq]; exact hi
  unfold stopM
  split
  · exact QI_jq w1 n1 x1 hi1
  · split
    · exact QI_jq w1 n1 x1 hi1
    · exact QI_jq (wf_leave w1) (num_leave n1) (QX_leave x1) (by rw [mN_leave]; exact hi1)
