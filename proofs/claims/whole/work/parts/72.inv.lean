/-! what holds at the head of the law's loop, after t calls -/
def BndOk (t : Nat) (M : Mem) : Prop := (∃ a, a ≤ 600 * t ∧ mT M 6 9 0 = nI a) ∧ (∀ i, i < mN M 4 → ∃ a, a ≤ 600 * t ∧ mT M 4 7 i = nI a) ∧ (∀ c, c < 3 → ∃ a, a ≤ 9999 ∧ mT M 15 c 0 = nI a) ∧
  (∃ a, a ≤ t ∧ mT M 6 11 0 = nI a) ∧ (∃ a, a ≤ 600 * t * t ∧ mT M 7 28 0 = nI a)
def CelOk (M : Mem) : Prop := (∀ i, (mT M 4 6 i = 0 ∨ mT M 4 6 i = 111 ∨ mT M 4 6 i = 104 ∨ mT M 4 6 i = 97 ∨ mT M 4 6 i = 99 ∨ mT M 4 6 i = 109) ∧ (mT M 4 8 i = 0 ∨ mT M 4 8 i = 1) ∧ (mT M 4 6 i = 109 → mL M 8 i = []) ∧ (mP M 4 13 i ≠ none → mT M 4 6 i = 109) ∧ (i < mN M 4 → mT M 4 6 i ≠ 0)) ∧ (∀ a, (mT M 0 2 a = 0 ∨ mT M 0 2 a = 1) ∧ ∃ q, q < 64 ∧ mT M 0 1 a = nI q) ∧
  (∀ a, a < mN M 0 → ∃ q, q ≤ 3 ∧ mT M 0 3 a = nI q) ∧ (∀ k, k < mN M 2 → ∃ q, q < 1024 ∧ mT M 23 k 0 = nI q) ∧ (∀ a, a < mN M 3 → ∃ q, q < 1024 ∧ mT M 3 0 a = nI q) ∧ (∀ a, a < mN M 3 → ∀ q, q < 6 → ∃ z, z ≤ 9 ∧ mT M 14 q a = nI z)
def WrdOk (M : Mem) : Prop := (∀ i, i < mN M 4 → woN M M i (mN M 2) = mT M 4 5 i) ∧ ∀ v a, v < 10 → a < 8 → ((mT M 16 v 0 >>> (nI a &&& 31)) &&& 1 = 1 ↔ a < mN M 3 ∧ (mT M 3 0 a >>> (nI v &&& 31)) &&& 1 = 1)
def INV (t : Nat) (M : Mem) : Prop := Wf M ∧ RC M M ∧ (mN M 39 = 1 ∧ mN M 40 = 1) ∧ NumOk M ∧ QI M ∧ (∀ i, i < mN M 4 → MlOk M i) ∧ CelOk M ∧ (∃ rk : Nat → Nat, ∀ u v, mP M 4 13 u = some v → rk v < rk u) ∧
  (∀ a, a < mN M 0 → mT M 0 3 a = heN M a (mN M 4)) ∧ WrdOk M ∧ BndOk t M
theorem INV.wf {t : Nat} {M : Mem} (I : INV t M) : Wf M := I.1
theorem INV.rc {t : Nat} {M : Mem} (I : INV t M) : RC M M := I.2.1
theorem INV.n39 {t : Nat} {M : Mem} (I : INV t M) : mN M 39 = 1 := I.2.2.1.1
theorem INV.n40 {t : Nat} {M : Mem} (I : INV t M) : mN M 40 = 1 := I.2.2.1.2
theorem INV.n7 {t : Nat} {M : Mem} (I : INV t M) : mN M 7 = 1 := I.2.1.1.1
theorem INV.vp {t : Nat} {M : Mem} (I : INV t M) : VP M := vp_of I.1 I.2.1.1
