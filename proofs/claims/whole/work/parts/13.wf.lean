/-! what holds of the desk's memory -/
def cuM (M : Mem) (i : Nat) : Nat := (mP M 4 1 i).getD 0
def lvM (M : Mem) (c : Nat) : Nat := (mT M 1 1 c).toNatClampNeg
def toM (M : Mem) (i : Nat) : Nat := (mT M 4 4 i).toNatClampNeg
def inB (a lo hi : Int32) : Bool := !decide (a < lo) && !decide (hi < a)
/-- the desk's objects and rows are there -/
def WfN (M : Mem) : Prop := mN M 0 ≤ 6 ∧ mN M 1 = 8 ∧ mN M 2 ≤ 80 ∧ mN M 3 ≤ 8 ∧ mN M 4 ≤ 40 ∧ mN M 5 = 6 ∧ mN M 6 = 1 ∧ mN M 8 = mN M 4 ∧ mN M 9 = 6 ∧ mN M 10 = 1 ∧ mN M 11 = 1 ∧ mN M 12 = 1 ∧ mN M 13 = 1 ∧ mN M 14 = mN M 3 ∧ mN M 15 = 1 ∧ mN M 16 = 1 ∧ mN M 17 = 1 ∧ mN M 18 = 1 ∧ mN M 19 = 1
/-- a ticket's fields are of their kinds -/
def WfT (M : Mem) (i : Nat) : Prop := mP M 4 1 i = some (cuM M i) ∧ cuM M i < 8 ∧ mT M 4 4 i = nI (toM M i) ∧ toM M i < 6 ∧ (∀ a, mP M 4 9 i = some a → a < mN M 0) ∧ (∀ a, mP M 4 11 i = some a → a < mN M 3) ∧ (∀ a, mP M 4 13 i = some a → a < mN M 4) ∧ (∀ x ∈ mL M 8 i, x < mN M 2) ∧ (mL M 8 i).length ≤ 80
def WfL (M : Mem) : Prop := mL M 10 0 = List.range (mN M 2) ∧ mL M 11 0 = List.range (mN M 4) ∧ mL M 12 0 = List.range (mN M 0) ∧ mL M 13 0 = List.range (mN M 3)
def Wf (M : Mem) : Prop := WfN M ∧ (∀ c, c < 8 → mT M 1 1 c = nI (lvM M c) ∧ lvM M c < 3) ∧ (∀ i, i < mN M 4 → WfT M i) ∧ WfL M ∧
  (∀ i, i < mN M 2 → ∃ t, mP M 2 1 i = some t ∧ t < mN M 4) ∧ (∀ t, t < 6 → ∀ x ∈ mL M 9 t, x < mN M 4) ∧ ∀ t, t < 6 → (mL M 9 t).Nodup
theorem rw_14 : RwOk 14 0 6 := ⟨by decide, rfl, fun _ _ _ _ => rfl⟩
theorem rw_15 : RwOk 15 0 3 := ⟨by decide, rfl, fun _ _ _ _ => rfl⟩
theorem rw_16 : RwOk 16 0 10 := ⟨by decide, rfl, fun _ _ _ _ => rfl⟩
theorem rw_17 : RwOk 17 0 8 := ⟨by decide, rfl, fun _ _ _ _ => rfl⟩
def leftM (M : Mem) (i : Nat) : Int32 := mT M 15 (lvM M (cuM M i)) 0 - mT M 4 7 i
theorem wf_sT {M : Mem} {k j i : Nat} {x : Int32} (h1 : ¬ (k = 1 ∧ j = 1)) (h2 : ¬ (k = 4 ∧ j = 4)) (w : Wf M) : Wf (sT M k j i x) := by
  have e1 : ∀ c, mT (sT M k j i x) 1 1 c = mT M 1 1 c := fun c => u3_ne (fun z => h1 ⟨z.1.symm, z.2.1.symm⟩)
  have e2 : ∀ c, mT (sT M k j i x) 4 4 c = mT M 4 4 c := fun c => u3_ne (fun z => h2 ⟨z.1.symm, z.2.1.symm⟩)
  simpa only [Wf, WfN, WfT, WfL, lvM, toM, cuM, mN_sT, mP_sT, mL_sT, e1, e2] using w
theorem wf_sJ {M : Mem} {k j i : Nat} {x : Int64} (w : Wf M) : Wf (sJ M k j i x) := w
/-- a pointer of a ticket changes that is not its customer -/
theorem wf_sP {M : Mem} {j i : Nat} {x : Option Nat} (hj : j = 9 ∨ j = 11 ∨ j = 13) (hx : ∀ a, x = some a → (j = 9 → a < mN M 0) ∧ (j = 11 → a < mN M 3) ∧ (j = 13 → a < mN M 4)) (w : Wf M) : Wf (sP M 4 j i x) := by
  have e1 : ∀ c, mP (sP M 4 j i x) 4 1 c = mP M 4 1 c := fun c => u3_ne (fun z => by omega)
  have e2 : ∀ c, mP (sP M 4 j i x) 2 1 c = mP M 2 1 c := fun c => by rw [mP_sP]; exact if_neg (fun z => absurd z.1 (by decide))
  obtain ⟨w1, w2, w3, w4⟩ := w
  refine ⟨w1, w2, fun t ht => ?_, by simpa only [WfL, mN_sP, mL_sP, e2] using w4⟩
  obtain ⟨a1, a2, a3, a4, a5, a6, a7, a8⟩ := w3 t ht
  refine ⟨by simpa only [cuM, e1] using a1, by simpa only [cuM, e1] using a2, a3, a4, ?_, ?_, ?_, a8⟩
  · intro a ha
    rw [mP_sP] at ha
    split at ha
    · rename_i h; exact (hx a ha).1 h.2.1.symm
    · exact a5 a ha
  · intro a ha
    rw [mP_sP] at ha
    split at ha
    · rename_i h; exact (hx a ha).2.1 h.2.1.symm
    · exact a6 a ha
  · intro a ha
    rw [mP_sP] at ha
    split at ha
    · rename_i h; exact (hx a ha).2.2 h.2.1.symm
    · exact a7 a ha
theorem wf_none {M : Mem} {j i : Nat} (hj : j = 9 ∨ j = 11 ∨ j = 13) (w : Wf M) : Wf (sP M 4 j i none) := wf_sP hj (fun a h => nomatch h) w
/-- its topic changes -/
theorem wf_topic {M : Mem} {i t : Nat} (ht : t < 6) (w : Wf M) : Wf (sT M 4 4 i (nI t)) := by
  obtain ⟨w1, w2, w3, w4⟩ := w
  refine ⟨w1, by simpa only [lvM, mT_sT, show ¬ ((1 : Nat) = 4) by decide, false_and, if_false] using w2, fun n hn => ?_, w4⟩
  obtain ⟨a1, a2, a3, a4, a5⟩ := w3 n hn
  refine ⟨a1, a2, ?_, ?_, a5⟩
  · simp only [toM, mT_sT, true_and]
    split
    · rw [nI_clamp (by omega)]
    · exact a3
  · simp only [toM, mT_sT, true_and]
    split
    · rw [nI_clamp (by omega)]; exact ht
    · exact a4
/-- a customer's class changes -/
theorem wf_level {M : Mem} {i t : Nat} (ht : t < 3) (w : Wf M) : Wf (sT M 1 1 i (nI t)) := by
  obtain ⟨w1, w2, w3, w4⟩ := w
  refine ⟨w1, fun c hc => ?_, by simpa only [WfT, toM, cuM, mT_sT, mN_sT, mP_sT, mL_sT, show ¬ ((4 : Nat) = 1) by decide, false_and, if_false] using w3, w4⟩
  simp only [lvM, mT_sT, true_and]
  split
  · rw [nI_clamp (by omega)]; exact ⟨rfl, ht⟩
  · exact w2 c hc
/-- a list of the desk changes -/
theorem wf_line {M : Mem} {t : Nat} {xs : List Nat} (h1 : ∀ x ∈ xs, x < mN M 4) (h2 : xs.Nodup) (w : Wf M) : Wf (sL M 9 t xs) := by
  obtain ⟨w1, w2, w3, w4, w5, w6, w7⟩ := w
  have e : ∀ k i, k ≠ 9 → mL (sL M 9 t xs) k i = mL M k i := fun k i hk => if_neg (fun z => hk z.1)
  refine ⟨w1, w2, by simpa only [WfT, toM, cuM, mT_sL, mN_sL, mP_sL, e 8 _ (by decide)] using w3, by simpa only [WfL, mN_sL, e 10 _ (by decide), e 11 _ (by decide), e 12 _ (by decide), e 13 _ (by decide)] using w4, w5, ?_, ?_⟩
  · intro q hq x hx
    rw [mL_sL] at hx
    split at hx
    · exact h1 x hx
    · exact w6 q hq x hx
  · intro q hq
    rw [mL_sL]
    split
    · exact h2
    · exact w7 q hq
theorem wf_mails {M : Mem} {t : Nat} {xs : List Nat} (h1 : ∀ x ∈ xs, x < mN M 2) (h2 : xs.length ≤ 80) (w : Wf M) : Wf (sL M 8 t xs) := by
  obtain ⟨w1, w2, w3, w4, w5, w6, w7⟩ := w
  have e : ∀ k i, k ≠ 8 → mL (sL M 8 t xs) k i = mL M k i := fun k i hk => if_neg (fun z => hk z.1)
  refine ⟨w1, w2, fun n hn => ?_, by simpa only [WfL, mN_sL, e 10 _ (by decide), e 11 _ (by decide), e 12 _ (by decide), e 13 _ (by decide)] using w4, w5, by simpa only [mN_sL, e 9 _ (by decide)] using w6, by simpa only [e 9 _ (by decide)] using w7⟩
  obtain ⟨a1, a2, a3, a4, a5, a6, a7, a8, a9⟩ := w3 n hn
  refine ⟨a1, a2, a3, a4, a5, a6, a7, ?_, ?_⟩
  · intro x hx
    rw [mL_sL] at hx
    split at hx
    · exact h1 x hx
    · exact a8 x hx
  · rw [mL_sL]
    split
    · exact h2
    · exact a9
theorem wf_ticketOf {M : Mem} {i t : Nat} (ht : t < mN M 4) (w : Wf M) : Wf (sP M 2 1 i (some t)) := by
  obtain ⟨w1, w2, w3, w4, w5, w6⟩ := w
  have e : ∀ k j i', k ≠ 2 → mP (sP M 2 1 i (some t)) k j i' = mP M k j i' := fun k j i' hk => u3_ne (fun z => hk z.1)
  refine ⟨w1, w2, by simpa only [WfT, toM, cuM, mT_sP, mN_sP, mL_sP, e 4 _ _ (by decide)] using w3, w4, fun n hn => ?_, w6⟩
  rw [mP_sP]
  split
  · exact ⟨t, rfl, ht⟩
  · exact w5 n hn
theorem wf_sC {M : Mem} {k i x : Nat} (w : Wf M) : Wf (sC M k i x) := w
theorem nd_len {n : Nat} : ∀ {l : List Nat}, l.Nodup → (∀ x ∈ l, x < n) → l.length ≤ n := by
  induction n with
  | zero => intro l _ h; cases l with
    | nil => exact Nat.le_refl _
    | cons a l => exact absurd (h a List.mem_cons_self) (Nat.not_lt_zero _)
  | succ n ih =>
    intro l hl h
    have h1 := ih (hl.erase n) (fun x hx => by
      have h2 := (hl.mem_erase_iff).mp hx
      have h3 := h x h2.2
      have h4 := h2.1
      omega)
    rw [List.length_erase] at h1
    split at h1 <;> omega
theorem wline {M : Mem} {t : Nat} (w : Wf M) (ht : t < 6) : (mL M 9 t).length ≤ 40 := Nat.le_trans (nd_len (w.2.2.2.2.2.2 t ht) (w.2.2.2.2.2.1 t ht)) w.1.2.2.2.2.1
