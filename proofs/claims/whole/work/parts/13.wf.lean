/-! what holds of the desk's memory -/
def cuM (M : Mem) (i : Nat) : Nat := (mP M 4 1 i).getD 0
def lvM (M : Mem) (c : Nat) : Nat := (mT M 1 1 c).toNatClampNeg
def toM (M : Mem) (i : Nat) : Nat := (mT M 4 4 i).toNatClampNeg
def inB (a lo hi : Int32) : Bool := decide (lo ≤ a) && decide (a ≤ hi)
theorem i_nle {a b : Int32} (h : a < b) : ¬ b ≤ a := Int32.not_le.mpr h
theorem i_le {a b : Int32} (h : ¬ a < b) : b ≤ a := Int32.not_lt.mp h
theorem inB_t {a lo hi : Int32} (h1 : ¬ a < lo) (h2 : ¬ hi < a) : inB a lo hi = true := by unfold inB; rw [decide_eq_true (i_le h1), decide_eq_true (i_le h2)]; rfl
theorem inB_f1 {a lo hi : Int32} (h1 : a < lo) : inB a lo hi = false := by unfold inB; rw [decide_eq_false (i_nle h1)]; rfl
theorem inB_f2 {a lo hi : Int32} (h2 : hi < a) : inB a lo hi = false := by unfold inB; rw [decide_eq_false (i_nle h2), Bool.and_false]
/-- the desk's objects and rows are there -/
def WfN (M : Mem) : Prop := mN M 0 ≤ 6 ∧ mN M 1 = 8 ∧ mN M 2 ≤ 80 ∧ mN M 3 ≤ 8 ∧ mN M 4 ≤ 40 ∧ mN M 5 = 6 ∧ mN M 6 = 1 ∧ mN M 8 = mN M 4 ∧ mN M 9 = 6 ∧ mN M 10 = 1 ∧ mN M 11 = 1 ∧ mN M 12 = 1 ∧ mN M 13 = 1 ∧ mN M 14 = mN M 3 ∧ mN M 15 = 1 ∧ mN M 16 = 1 ∧ mN M 17 = 1 ∧ mN M 18 = 1 ∧ mN M 19 = 1
/-- a ticket's fields are of their kinds -/
def WfT (M : Mem) (i : Nat) : Prop := mP M 4 1 i = some (cuM M i) ∧ cuM M i < 8 ∧ mT M 4 4 i = nI (toM M i) ∧ toM M i < 6 ∧ (∀ a, mP M 4 9 i = some a → a < mN M 0) ∧ (∀ a, mP M 4 11 i = some a → a < mN M 3) ∧ (∀ a, mP M 4 13 i = some a → a < mN M 4) ∧ (∀ x ∈ mL M 8 i, x < mN M 2) ∧ (mL M 8 i).length ≤ 80
def WfL (M : Mem) : Prop := mL M 10 0 = List.range (mN M 2) ∧ mL M 11 0 = List.range (mN M 4) ∧ mL M 12 0 = List.range (mN M 0) ∧ mL M 13 0 = List.range (mN M 3)
def Wf (M : Mem) : Prop := WfN M ∧ (∀ c, c < 8 → mT M 1 1 c = nI (lvM M c) ∧ lvM M c < 3) ∧ (∀ i, i < mN M 4 → WfT M i) ∧ WfL M ∧
  (∀ i, i < mN M 2 → ∃ t, mP M 2 1 i = some t ∧ t < mN M 4) ∧ (∀ t, t < 6 → ∀ x ∈ mL M 9 t, x < mN M 4) ∧ ∀ t, t < 6 → (mL M 9 t).length ≤ 40
theorem rw_14 : RwOk 14 0 6 := ⟨by decide, rfl, fun _ _ _ _ => rfl⟩
theorem rw_15 : RwOk 15 0 3 := ⟨by decide, rfl, fun _ _ _ _ => rfl⟩
theorem rw_16 : RwOk 16 0 10 := ⟨by decide, rfl, fun _ _ _ _ => rfl⟩
theorem rw_17 : RwOk 17 0 8 := ⟨by decide, rfl, fun _ _ _ _ => rfl⟩
def leftM (M : Mem) (i : Nat) : Int32 := mT M 15 (lvM M (cuM M i)) 0 - mT M 4 7 i
