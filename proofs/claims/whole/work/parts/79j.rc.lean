theorem RC_clock {D M : Mem} {t : Nat} {v : Int32} (r : RC D M) (hi : t < mN D 4) : RC (sT D 4 7 t v) (sT M 27 t 0 v) := by
  obtain ⟨r1, r2, r3, r4, r5, r6, r7, r8⟩ := r
  refine ⟨r1, r2, r3, r4, r5, fun u hu => ?_, fun u h1 h2 => ?_, r8⟩
  · obtain ⟨a1, a2, a3, a4, a5, a6, a7, a8, a9, a10, a11⟩ := r6 u hu
    refine ⟨a1, a2, a3, ?_, a5, a6, a7, a8, a9, a10, a11⟩
    rw [mT_sT, mT_sT]
    by_cases e : u = t
    · rw [if_pos ⟨rfl, e, rfl⟩, if_pos ⟨rfl, rfl, e⟩]
    · rw [if_neg (fun z => e z.2.1), if_neg (fun z => e z.2.2)]; exact a4
  · obtain ⟨b1, b2, b3, b4⟩ := r7 u h1 h2
    have hu : t < u := Nat.lt_of_lt_of_le hi h1
    refine ⟨?_, b2, b3, b4⟩
    rw [mT_sT, if_neg (fun z => by have := z.2.1; omega)]
    exact b1
theorem RC_hand {D M : Mem} {t : Nat} {v : Int32} (r : RC D M) (hi : t < mN D 4) : RC (sT D 4 10 t v) (sT M 29 t 0 v) := by
  obtain ⟨r1, r2, r3, r4, r5, r6, r7, r8⟩ := r
  refine ⟨r1, r2, r3, r4, r5, fun u hu => ?_, fun u h1 h2 => ?_, r8⟩
  · obtain ⟨a1, a2, a3, a4, a5, a6, a7, a8, a9, a10, a11⟩ := r6 u hu
    refine ⟨a1, a2, a3, a4, a5, ?_, a7, a8, a9, a10, a11⟩
    rw [mT_sT, mT_sT]
    by_cases e : u = t
    · rw [if_pos ⟨rfl, e, rfl⟩, if_pos ⟨rfl, rfl, e⟩]
    · rw [if_neg (fun z => e z.2.1), if_neg (fun z => e z.2.2)]; exact a6
  · obtain ⟨b1, b2, b3, b4⟩ := r7 u h1 h2
    have hu : t < u := Nat.lt_of_lt_of_le hi h1
    refine ⟨b1, ?_, b3, b4⟩
    rw [mT_sT, if_neg (fun z => by have := z.2.1; omega)]
    exact b2
theorem RC_closed {D M : Mem} {t : Nat} {v : Int32} (r : RC D M) (hi : t < mN D 4) : RC (sT D 4 12 t v) (sT M 30 t 0 v) := by
  obtain ⟨r1, r2, r3, r4, r5, r6, r7, r8⟩ := r
  refine ⟨r1, r2, r3, r4, r5, fun u hu => ?_, fun u h1 h2 => ?_, r8⟩
  · obtain ⟨a1, a2, a3, a4, a5, a6, a7, a8, a9, a10, a11⟩ := r6 u hu
    refine ⟨a1, a2, a3, a4, a5, a6, ?_, a8, a9, a10, a11⟩
    rw [mT_sT, mT_sT]
    by_cases e : u = t
    · rw [if_pos ⟨rfl, e, rfl⟩, if_pos ⟨rfl, rfl, e⟩]
    · rw [if_neg (fun z => e z.2.1), if_neg (fun z => e z.2.2)]; exact a7
  · obtain ⟨b1, b2, b3, b4⟩ := r7 u h1 h2
    have hu : t < u := Nat.lt_of_lt_of_le hi h1
    refine ⟨b1, b2, ?_, b4⟩
    rw [mT_sT, if_neg (fun z => by have := z.2.1; omega)]
    exact b3
theorem RC_brkv {D M : Mem} {t : Nat} {v : Int32} (r : RC D M) (hi : t < mN D 4) : RC (sT D 4 8 t v) (sT M 34 t 0 v) := by
  obtain ⟨r1, r2, r3, r4, r5, r6, r7, r8⟩ := r
  refine ⟨r1, r2, r3, r4, r5, fun u hu => ?_, fun u h1 h2 => ?_, r8⟩
  · obtain ⟨a1, a2, a3, a4, a5, a6, a7, a8, a9, a10, a11⟩ := r6 u hu
    refine ⟨a1, a2, a3, a4, a5, a6, a7, a8, a9, a10, ?_⟩
    rw [mT_sT, mT_sT]
    by_cases e : u = t
    · rw [if_pos ⟨rfl, e, rfl⟩, if_pos ⟨rfl, rfl, e⟩]
    · rw [if_neg (fun z => e z.2.1), if_neg (fun z => e z.2.2)]; exact a11
  · obtain ⟨b1, b2, b3, b4⟩ := r7 u h1 h2
    have hu : t < u := Nat.lt_of_lt_of_le hi h1
    refine ⟨b1, b2, b3, ?_⟩
    rw [mT_sT, if_neg (fun z => by have := z.2.1; omega)]
    exact b4
theorem RC_sent {D M : Mem} {t : Nat} {o : Option Nat} (r : RC D M) : RC (sP D 4 11 t o) (sT M 32 t 0 (oI o)) := by
  obtain ⟨r1, r2, r3, r4, r5, r6, r7, r8⟩ := r
  refine ⟨r1, r2, r3, r4, r5, fun u hu => ?_, r7, r8⟩
  obtain ⟨a1, a2, a3, a4, a5, a6, a7, a8, a9, a10, a11⟩ := r6 u hu
  refine ⟨a1, a2, a3, a4, a5, a6, a7, a8, ?_, a10, a11⟩
  by_cases e : u = t
  · subst e
    rw [mT_sT, if_pos ⟨rfl, rfl, rfl⟩]
    exact congrArg oI (u3_self _ _ _ _ _).symm
  · rw [mT_sT, if_neg (fun z => e z.2.1)]
    exact a9.trans (congrArg oI (u3_ne (fun z => e z.2.2)).symm)
theorem RC_into {D M : Mem} {t : Nat} {o : Option Nat} (r : RC D M) : RC (sP D 4 13 t o) (sT M 31 t 0 (oI o)) := by
  obtain ⟨r1, r2, r3, r4, r5, r6, r7, r8⟩ := r
  refine ⟨r1, r2, r3, r4, r5, fun u hu => ?_, r7, r8⟩
  obtain ⟨a1, a2, a3, a4, a5, a6, a7, a8, a9, a10, a11⟩ := r6 u hu
  refine ⟨a1, a2, a3, a4, a5, a6, a7, ?_, a9, a10, a11⟩
  by_cases e : u = t
  · subst e
    rw [mT_sT, if_pos ⟨rfl, rfl, rfl⟩]
    exact congrArg oI (u3_self _ _ _ _ _).symm
  · rw [mT_sT, if_neg (fun z => e z.2.1)]
    exact a8.trans (congrArg oI (u3_ne (fun z => e z.2.2)).symm)
theorem RC_shift {D M : Mem} {a : Nat} {v : Int32} (r : RC D M) (ha : a < mN D 0) : RC (sT D 0 2 a v) (sT M 35 a 0 v) := by
  obtain ⟨r1, r2, r3, r4, r5, r6, r7, r8, r9, r10⟩ := r
  refine ⟨r1, r2, r3, r4, r5, r6, r7, fun b hb => ?_, fun b h1 h2 => ?_, r10⟩
  · obtain ⟨c1, c2⟩ := r8 b hb
    refine ⟨c1, ?_⟩
    rw [mT_sT, mT_sT]
    by_cases e : b = a
    · rw [if_pos ⟨rfl, e, rfl⟩, if_pos ⟨rfl, rfl, e⟩]
    · rw [if_neg (fun z => e z.2.1), if_neg (fun z => e z.2.2)]; exact c2
  · have hb : a < b := Nat.lt_of_lt_of_le ha h1
    rw [mT_sT, if_neg (fun z => by have := z.2.1; omega)]
    exact r9 b h1 h2
theorem RC_wgt {D M : Mem} {q t : Nat} {v : Int32} (r : RC D M) (hq : q < mN D 3) (ht : t < 6) : RC (sT D 14 t q v) (sT M 38 (6 * q + t) 0 v) := by
  obtain ⟨r1, r2, r3, r4, r5, r6, r7, r8, r9, r10, r11⟩ := r
  refine ⟨r1, r2, r3, r4, r5, r6, r7, r8, r9, fun p hp => ⟨(r10 p hp).1, fun u hu => ?_⟩, fun j h1 h2 => ?_⟩
  · have h := (r10 p hp).2 u hu
    rw [mT_sT, mT_sT]
    by_cases e : p = q ∧ u = t
    · rw [if_pos ⟨rfl, by omega, rfl⟩, if_pos ⟨rfl, e.2, e.1⟩]
    · rw [if_neg (fun z => by have := z.2.1; omega), if_neg (fun z => e ⟨z.2.2, z.2.1⟩)]; exact h
  · have h3 : mN D 3 ≤ mN D 3 := Nat.le_refl _
    have h1 : 6 * mN D 3 ≤ j := h1
    rw [mT_sT, if_neg (fun z => by have := z.2.1; omega)]
    exact r11 j h1 h2
/-- what the reference does not tell of the desk -/
theorem RC_u45 {D M : Mem} {t : Nat} {v : Int32} (r : RC D M) : RC (sT D 4 5 t v) M := r
theorem gain_fin : ∀ z : Fin 10, (if 9 < nI z.1 + 1 then (9 : Int32) else nI z.1 + 1) = (if inB (nI z.1 + 1) 0 9 = true then nI z.1 + 1 else nI z.1) ∧ (if nI z.1 - 1 < 0 then (0 : Int32) else nI z.1 - 1) = (if inB (nI z.1 + -1) 0 9 = true then nI z.1 + -1 else nI z.1) := by decide +kernel
theorem gain_ok : ∀ z : Fin 10, (if 9 < nI z.1 + 1 then (9 : Int32) else nI z.1 + 1) = nI (if z.1 < 9 then z.1 + 1 else 9) ∧ (if nI z.1 - 1 < 0 then (0 : Int32) else nI z.1 - 1) = nI (z.1 - 1) := by decide +kernel
/-- the weight that a prepared answer gains or loses, with its note taken away -/
theorem RC_lrn {D M : Mem} {i q : Nat} {x : Int32} {v : Int32} (r : RC D M) (hq : q < mN D 3) (w6 : toM D i < 6) (h : mP D 4 11 i = some q) (c : v = if inB (mT D 14 (toM D i) q + x) 0 9 = true then mT D 14 (toM D i) q + x else mT D 14 (toM D i) q) :
    RC (sP (sT D 14 (toM D i) q v) 4 11 i none) (lrnR D M i x) := by
  unfold lrnR
  rw [h]
  by_cases b : inB (mT D 14 (toM D i) q + x) 0 9 = true
  · rw [if_pos b] at c
    simp only [if_pos b, c]
    exact RC_sent (o := none) (RC_wgt r hq w6)
  · rw [if_neg b] at c
    simp only [if_neg b]
    rw [sT_same c.symm]
    exact RC_sent (o := none) r
theorem RC_cls {D M : Mem} {i : Nat} (r : RC D M) (w : WfT D i) (c : ∀ q, mP D 4 11 i = some q → ∃ z, z ≤ 9 ∧ mT D 14 (toM D i) q = nI z) : RC (sP (cls0 D i) 4 11 i none) (lrnR D M i 1) := by
  unfold cls0
  cases h : mP D 4 11 i with
  | none =>
    show RC (sP D 4 11 i none) (lrnR D M i 1)
    rw [sP_same h]
    unfold lrnR
    rw [h]
    exact r
  | some q =>
    obtain ⟨z, z1, z2⟩ := c q h
    refine RC_lrn r (w.2.2.2.2.2.1 q h) w.2.2.2.1 h ?_
    rw [z2]
    exact (gain_fin ⟨z, by omega⟩).1
theorem RC_anew' {D M : Mem} {i : Nat} (r : RC D M) (w : ∀ q, mP D 4 11 i = some q → q < mN D 3 ∧ toM D i < 6) (hi : i < mN D 4) (c : ∀ q, mP D 4 11 i = some q → ∃ z, z ≤ 9 ∧ mT D 14 (toM D i) q = nI z) : RC (anewM D i) (sT (sT (sT (lrnR D M i (-1)) 33 i 0 111) 27 i 0 0) 34 i 0 0) := by
  unfold anewM
  cases h : mP D 4 11 i with
  | none =>
    refine RC_brkv (RC_clock (RC_state ?_) hi) hi
    rw [sP_same h]
    unfold lrnR
    rw [h]
    exact r
  | some q =>
    obtain ⟨z, z1, z2⟩ := c q h
    refine RC_brkv (RC_clock (RC_state (RC_lrn r (w q h).1 (w q h).2 h ?_)) hi) hi
    rw [z2]
    exact (gain_fin ⟨z, by omega⟩).2
theorem mJ_lrn {D M : Mem} {t : Nat} {x : Int32} : mJ (lrnR D M t x) = mJ M := by
  unfold lrnR
  split
  · rfl
  · split <;> rfl
theorem eqd_lrn {D X M : Mem} {t : Nat} {x : Int32} (e : EqD X M) : EqD X (lrnR D M t x) := by
  unfold lrnR
  split
  · exact e
  · refine EqD.sT (Or.inr (by decide)) ?_
    split
    · exact EqD.sT (Or.inr (by decide)) e
    · exact e
theorem INV.b28 {t : Nat} {M Y : Mem} (I : INV t M) (h : mT Y 7 28 0 = mT M 7 28 0) : ∃ a, a ≤ 600 * (t + 1) * (t + 1) ∧ mT Y 7 28 0 = nI a := by
  rw [h]
  exact (inv_up I).bnd.2.2.2.2
theorem INV.live {t i : Nat} {M : Mem} (I : INV t M) (h : mT M 4 6 i ≠ 109) : mP M 4 13 i = none := Decidable.byContradiction (fun z => h ((I.cel.1 i).2.2.2.1 z))

