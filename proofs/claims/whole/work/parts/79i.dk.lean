/-! the desk's part of INV -/
def Dk (t : Nat) (M : Mem) : Prop := NumOk M ∧ (∀ i, i < mN M 4 → MlOk M i) ∧ CelOk M ∧ (∃ rk : Nat → Nat, ∀ u v, mP M 4 13 u = some v → rk v < rk u) ∧
  (∀ a, a < mN M 0 → mT M 0 3 a = heN M a (mN M 4)) ∧ WrdOk M ∧ BndOk t M
theorem INV.dk {t : Nat} {M : Mem} (I : INV t M) : Dk t M := ⟨I.2.2.2.1, I.2.2.2.2.2⟩
theorem dk_up {t : Nat} {M : Mem} (d : Dk t M) : Dk (t + 1) M := by
  obtain ⟨h4, h6, h7, h8, h9, h10, ⟨⟨a, ha, e⟩, hb, hc, ⟨d, hd, ed⟩, ⟨g, hg, eg⟩⟩⟩ := d
  refine ⟨h4, h6, h7, h8, h9, h10, ⟨a, by omega, e⟩, fun i hi => ?_, hc, ⟨d, by omega, ed⟩, ⟨g, ?_, eg⟩⟩
  · obtain ⟨b, hb1, hb2⟩ := hb i hi
    exact ⟨b, by omega, hb2⟩
  · exact Nat.le_trans hg (Nat.mul_le_mul (by omega) (by omega))
def EqD (X Y : Mem) : Prop := mN Y = mN X ∧ mP Y = mP X ∧ mL Y = mL X ∧ (∀ k, k ≠ 7 → k ≠ 17 → (k < 20 ∨ k = 23) → ∀ j i, mT Y k j i = mT X k j i) ∧ ∀ j i, mJ Y 6 j i = mJ X 6 j i
theorem EqD.row {X : Mem} {v : Int64} {u : Int32} : EqD X (sT (sJ X 39 0 0 v) 7 19 0 u) := ⟨rfl, rfl, rfl, fun k h _ _ j i => if_neg (fun z => h z.1), fun _ _ => rfl⟩
theorem EqD.sT {X Y : Mem} {k j i : Nat} {v : Int32} (h : k = 7 ∨ (20 ≤ k ∧ k ≠ 23)) (e : EqD X Y) : EqD X (sT Y k j i v) := by
  obtain ⟨e1, e2, e3, e4, e5⟩ := e
  refine ⟨e1, e2, e3, fun q h1 h2 h3 j' i' => ?_, e5⟩
  rw [mT_sT, if_neg (fun z => by have := z.1; omega)]
  exact e4 q h1 h2 h3 j' i'
theorem eqd_wf {A B : Mem} (h : EqD A B) (w : Wf A) : Wf B := by
  obtain ⟨hN, hP, hL, hT, -⟩ := h
  have e1 : ∀ c, mT B 1 1 c = mT A 1 1 c := fun c => hT 1 (by decide) (by decide) (by decide) 1 c
  have e2 : ∀ c, mT B 4 4 c = mT A 4 4 c := fun c => hT 4 (by decide) (by decide) (by decide) 4 c
  simpa only [Wf, WfN, WfT, WfL, lvM, toM, cuM, hN, hP, hL, e1, e2] using w
/-- the desk's memory X, and Y with the reference's cells too -/
theorem inv_ref {t : Nat} {X Y : Mem} (w : Wf X) (q : QI X) (d : Dk t X) (e : EqD X Y) (n39 : mN X 39 = 1) (n40 : mN X 40 = 1) (rc : RC X Y) (b : ∃ a, a ≤ 600 * t * t ∧ mT Y 7 28 0 = nI a) : INV t Y := by
  have wY := eqd_wf e w
  obtain ⟨hN, hP, hL, hT, hJ⟩ := e
  obtain ⟨num, ml, cel, rk, held, wrd, b1, b2, b3, b4, b5⟩ := d
  have e0 := hT 0 (by decide) (by decide) (by decide)
  have e1 := hT 1 (by decide) (by decide) (by decide)
  have e2 := hT 2 (by decide) (by decide) (by decide)
  have e3 := hT 3 (by decide) (by decide) (by decide)
  have e4 := hT 4 (by decide) (by decide) (by decide)
  have e6 := hT 6 (by decide) (by decide) (by decide)
  have e14 := hT 14 (by decide) (by decide) (by decide)
  have e15 := hT 15 (by decide) (by decide) (by decide)
  have e16 := hT 16 (by decide) (by decide) (by decide)
  have e23 := hT 23 (by decide) (by decide) (by decide)
  refine ⟨wY, ?_, ⟨by rw [hN]; exact n39, by rw [hN]; exact n40⟩, num_cg (A := X) hN (e0 0) (e2 0) (e4 0) num, qi_cg (A := X) (by rw [hN]) (fun i => by rw [hP]) (fun i => by rw [hP]) e4 (e1 1) (fun j => e15 j 0) (fun u => by rw [hL]) q,
    ml_cg (A := X) hN (fun i => by rw [hL]) (fun k => by rw [hP]) ml, ?_, ?_, held_cg (A := X) hN (e0 3) (fun i => by rw [hP]) held, wrd_cg (A := X) hN (fun k => by rw [hP]) (fun k => e23 k 0) (e4 5) (fun j => e16 j 0) (e3 0) wrd, ?_, ?_, ?_, ?_, b⟩
  · exact rc_cg (A := X) (M := Y) ⟨hN, hP, fun k hk j i => hT k (by omega) (by omega) (by omega) j i, hJ⟩ ⟨rfl, fun _ _ _ => rfl, fun _ _ _ _ _ => rfl, fun _ _ => rfl⟩ rc
  · simpa only [CelOk, hN, hP, hL, e0, e3, e4, e14, e23] using cel
  · rw [hP]; exact rk
  · rw [e6]; exact b1
  · intro i hi
    rw [e4]
    exact b2 i (by rw [← hN]; exact hi)
  · intro c hc
    rw [e15]
    exact b3 c hc
  · rw [e6]; exact b4
def MoE (M N : Mem) : Prop := (∀ k, k = 7 ∨ (20 ≤ k ∧ k ≤ 38) → mN N k = mN M k) ∧ (∀ j i, j ≠ 19 → mT N 7 j i = mT M 7 j i) ∧ (∀ k j i, 20 ≤ k → k ≤ 38 → mT N k j i = mT M k j i) ∧ ∀ j i, mJ N 7 j i = mJ M 7 j i
theorem rc_mo {D M N : Mem} (g : MoE M N) (r : RC D M) : RC D N := by
  obtain ⟨gN, gT, gK, gJ⟩ := g
  refine ⟨⟨(gN 7 (Or.inl rfl)).trans r.1.1, fun k a b => (gN k (Or.inr ⟨a, b⟩)).trans (r.1.2 k a b)⟩, ?_⟩
  have f20 := gT 20 0 (by decide)
  have f21 := gT 21 0 (by decide)
  have f22 := gT 22 0 (by decide)
  have f23 := gT 23 0 (by decide)
  have f24 := gT 24 0 (by decide)
  have f25 := gT 25 0 (by decide)
  have f26 := gT 26 0 (by decide)
  have f27 := gT 27 0 (by decide)
  have f28 := gT 28 0 (by decide)
  have m20 := fun j i => gK 20 j i (by decide) (by decide)
  have m21 := fun j i => gK 21 j i (by decide) (by decide)
  have m22 := fun j i => gK 22 j i (by decide) (by decide)
  have m24 := fun j i => gK 24 j i (by decide) (by decide)
  have m25 := fun j i => gK 25 j i (by decide) (by decide)
  have m26 := fun j i => gK 26 j i (by decide) (by decide)
  have m27 := fun j i => gK 27 j i (by decide) (by decide)
  have m28 := fun j i => gK 28 j i (by decide) (by decide)
  have m29 := fun j i => gK 29 j i (by decide) (by decide)
  have m30 := fun j i => gK 30 j i (by decide) (by decide)
  have m31 := fun j i => gK 31 j i (by decide) (by decide)
  have m32 := fun j i => gK 32 j i (by decide) (by decide)
  have m33 := fun j i => gK 33 j i (by decide) (by decide)
  have m34 := fun j i => gK 34 j i (by decide) (by decide)
  have m35 := fun j i => gK 35 j i (by decide) (by decide)
  have m36 := fun j i => gK 36 j i (by decide) (by decide)
  have m37 := fun j i => gK 37 j i (by decide) (by decide)
  have m38 := fun j i => gK 38 j i (by decide) (by decide)
  have r := r.2
  simpa only [RF, RT, gJ, f20, f21, f22, f23, f24, f25, f26, f27, f28, m20, m21, m22, m24, m25, m26, m27, m28, m29, m30, m31, m32, m33, m34, m35, m36, m37, m38] using r
theorem rc_row {D X : Mem} {v : Int64} {u : Int32} (r : RC D X) : RC D (sT (sJ X 39 0 0 v) 7 19 0 u) := rc_mo (M := X) ⟨fun _ _ => rfl, fun _ _ h => if_neg (fun z => h z.2.1), fun k j i h _ => if_neg (fun z => by have := z.1; omega), fun _ _ => rfl⟩ r
theorem rc_ln {X Z N : Mem} (hN : mN X = mN Z) (hP : mP X = mP Z) (hT : mT X = mT Z) (hJ : mJ X = mJ Z) (r : RC Z N) : RC X N :=
  rc_cg (A := Z) (M := N) ⟨hN, hP, fun k _ j i => by rw [hT], fun j i => by rw [hJ]⟩ ⟨rfl, fun _ _ _ => rfl, fun _ _ _ _ _ => rfl, fun _ _ => rfl⟩ r
/-- a call that writes: what the law asks -/
theorem pu_end {t r r' : Nat} {M X M1 M2 : Mem} {v z : Int64} (I : INV t M) (hr : r' = r) (hM1 : M1 = if r = 0 then sJ X 39 0 0 v else M) (h4 : r ≤ 4) (hv : r = 0 → v = z)
    (hmo : r = 0 → RC M X) (hth : r = 0 → mT M2 7 19 0 = 0 ∧ mJ M2 39 0 0 = mJ M1 39 0 0) (hno : r ≠ 0 → M2 = sT M1 7 19 0 (thI r)) (hI : r = 0 → INV (t + 1) M2) :
    RC M M1 ∧ 0 < mN M1 7 ∧ 0 < mN M2 7 ∧ 0 < mN M2 39 ∧ r < 100 ∧ mT M2 7 19 0 = nI r ∧ (r = 0 → mJ M2 39 0 0 = z) ∧ INV (t + 1) M2 := by
  subst hr
  have n7 := I.n7
  have n39 := I.n39
  by_cases h : r' = 0
  · rw [if_pos h] at hM1
    obtain ⟨q1, q2⟩ := hth h
    have I2 := hI h
    have m1 : RC M M1 := by
      rw [hM1]
      exact sm_rc Sm.rf Sm.row (hmo h)
    refine ⟨m1, by rw [m1.1.1]; decide, by have := I2.n7; omega, by have := I2.n39; omega, by omega, by rw [q1, h]; rfl, fun _ => ?_, I2⟩
    rw [q2, hM1, ← hv h, mJ_sJ, if_pos ⟨rfl, rfl, rfl⟩]
  · rw [if_neg h] at hM1
    have e2 := hno h
    subst hM1
    have s2 : Sm M1 M2 := by rw [e2]; exact Sm.thr
    have e := s2.1
    refine ⟨I.rc, by omega, by rw [e]; omega, by rw [e]; omega, by omega, ?_, fun z => absurd z h, inv_sm I s2⟩
    rw [e2, ← thI_nI h4]
    rfl
/-! what of the desk no clause reads -/
def Un (k j : Nat) : Bool := !(k == 2) && !(k == 23) && !(k == 14) && !(k == 15) && !(k == 16) && !(k == 0 && decide (j < 4)) && !(k == 3 && j == 0) && !(k == 4 && (j == 0 || (decide (5 ≤ j) && decide (j ≤ 8)))) && !(k == 6 && (j == 9 || j == 11)) && !(k == 7 && j == 28)
theorem dk_eq {t : Nat} {M X : Mem} (hN : mN X = mN M) (h21 : ∀ k, mP X 2 1 k = mP M 2 1 k) (h49 : ∀ k, mP X 4 9 k = mP M 4 9 k) (h413 : ∀ k, mP X 4 13 k = mP M 4 13 k) (hL : ∀ u, mL X 8 u = mL M 8 u) (hT : ∀ k j, ¬ Un k j = true → ∀ i, mT X k j i = mT M k j i) (d : Dk t M) : Dk t X := by
  obtain ⟨num, ml, cel, ⟨rk, hrk⟩, held, wrd, bnd⟩ := d
  have e14 : ∀ j i, mT X 14 j i = mT M 14 j i := fun j => hT 14 j (by simp [Un])
  have e15 : ∀ j i, mT X 15 j i = mT M 15 j i := fun j => hT 15 j (by simp [Un])
  have e16 : ∀ j i, mT X 16 j i = mT M 16 j i := fun j => hT 16 j (by simp [Un])
  have e23 : ∀ j i, mT X 23 j i = mT M 23 j i := fun j => hT 23 j (by simp [Un])
  have e30 := hT 3 0 (by decide)
  have e00 := hT 0 0 (by decide)
  have e01 := hT 0 1 (by decide)
  have e02 := hT 0 2 (by decide)
  have e03 := hT 0 3 (by decide)
  have e40 := hT 4 0 (by decide)
  have e46 := hT 4 6 (by decide)
  have e48 := hT 4 8 (by decide)
  refine ⟨num_cg (A := M) hN e00 (hT 2 0 (by decide)) e40 num, ml_cg (A := M) hN hL h21 ml, ?_, ⟨rk, fun u v h => hrk u v (by rw [← h413]; exact h)⟩, held_cg (A := M) hN e03 h49 held, wrd_cg (A := M) hN h21 (fun k => e23 k 0) (hT 4 5 (by decide)) (fun j => e16 j 0) e30 wrd,
    bnd_cg (A := M) hN (hT 4 7 (by decide)) (hT 6 9 (by decide) 0) (hT 6 11 (by decide) 0) (fun j => e15 j 0) (hT 7 28 (by decide) 0) bnd⟩
  simpa only [CelOk, hN, hL, h413, e01, e02, e03, e30, e46, e48, e14, e23] using cel
theorem dk_T {t k j i : Nat} {M : Mem} {v : Int32} (h : Un k j = true) (d : Dk t M) : Dk t (sT M k j i v) :=
  dk_eq (M := M) rfl (fun _ => rfl) (fun _ => rfl) (fun _ => rfl) (fun _ => rfl) (fun k' j' n u => sT_ne (fun z => n (by rw [z.1, z.2.1]; exact h))) d
theorem dk_ln {t : Nat} {X Z : Mem} (hN : mN X = mN Z) (hP : mP X = mP Z) (hT : mT X = mT Z) (hL : ∀ u, mL X 8 u = mL Z 8 u) (d : Dk t Z) : Dk t X :=
  dk_eq (M := Z) hN (fun _ => by rw [hP]) (fun _ => by rw [hP]) (fun _ => by rw [hP]) hL (fun k j _ i => by rw [hT]) d
theorem dk_sent {t i : Nat} {M : Mem} {o : Option Nat} (d : Dk t M) : Dk t (sP M 4 11 i o) :=
  dk_eq (M := M) rfl (fun _ => rfl) (fun _ => rfl) (fun _ => rfl) (fun _ => rfl) (fun _ _ _ _ => rfl) d
theorem dk_J {t k j i : Nat} {M : Mem} {v : Int64} (d : Dk t M) : Dk t (sJ M k j i v) :=
  dk_eq (M := M) rfl (fun _ => rfl) (fun _ => rfl) (fun _ => rfl) (fun _ => rfl) (fun _ _ _ _ => rfl) d
theorem dk_st {t i : Nat} {M : Mem} {v : Int32} (hv : v = 111 ∨ v = 104 ∨ v = 97 ∨ v = 99) (hm : mP M 4 13 i = none) (d : Dk t M) : Dk t (sT M 4 6 i v) := by
  have nk : ∀ k, k ≠ 4 → ∀ j u, mT (sT M 4 6 i v) k j u = mT M k j u := fun k h j u => sT_ne (fun z => h z.1)
  have nj : ∀ j, j ≠ 6 → ∀ u, mT (sT M 4 6 i v) 4 j u = mT M 4 j u := fun j h u => sT_ne (fun z => h z.2.1)
  obtain ⟨num, ml, ⟨c1, c2⟩, rk, held, wrd, bnd⟩ := d
  refine ⟨num_cg (A := M) rfl (nk 0 (by decide) 0) (nk 2 (by decide) 0) (nj 0 (by decide)) num, ml_cg (A := M) rfl (fun _ => rfl) (fun _ => rfl) ml, ⟨fun u => ?_, ?_⟩, rk, held_cg (A := M) rfl (nk 0 (by decide) 3) (fun _ => rfl) held,
    wrd_cg (A := M) rfl (fun _ => rfl) (fun k => nk 23 (by decide) k 0) (nj 5 (by decide)) (fun j => nk 16 (by decide) j 0) (nk 3 (by decide) 0) wrd, bnd_cg (A := M) rfl (nj 7 (by decide)) (nk 6 (by decide) 9 0) (nk 6 (by decide) 11 0) (fun j => nk 15 (by decide) j 0) (nk 7 (by decide) 28 0) bnd⟩
  · obtain ⟨d1, d2, d3, d4, d5⟩ := c1 u
    rw [nj 8 (by decide)]
    by_cases e : u = i
    · rw [mT_sT, if_pos ⟨rfl, rfl, e⟩]
      refine ⟨?_, d2, fun z => ?_, fun z => ?_, fun _ => ?_⟩
      · rcases hv with h | h | h | h <;> simp [h]
      · rcases hv with h | h | h | h <;> rw [h] at z <;> exact absurd z (by decide)
      · subst e
        exact absurd hm z
      · rcases hv with h | h | h | h <;> rw [h] <;> decide
    · rw [mT_sT, if_neg (fun z => e z.2.2)]
      exact ⟨d1, d2, d3, d4, d5⟩
  · have e0 := nk 0 (by decide)
    have e3 := nk 3 (by decide)
    have e14 := nk 14 (by decide)
    have e23 := nk 23 (by decide)
    have hN2 : mN (sT M 4 6 i v) = mN M := rfl
    simpa only [hN2, e0, e3, e14, e23] using c2
theorem dk_wgt {t q a z : Nat} {M : Mem} (hz : z ≤ 9) (d : Dk t M) : Dk t (sT M 14 q a (nI z)) := by
  have nk : ∀ k, k ≠ 14 → ∀ j u, mT (sT M 14 q a (nI z)) k j u = mT M k j u := fun k h j u => sT_ne (fun z => h z.1)
  obtain ⟨num, ml, ⟨c1, c2, c3, c4, c5, c6⟩, rk, held, wrd, bnd⟩ := d
  refine ⟨num_cg (A := M) rfl (nk 0 (by decide) 0) (nk 2 (by decide) 0) (nk 4 (by decide) 0) num, ml_cg (A := M) rfl (fun _ => rfl) (fun _ => rfl) ml, ⟨c1, c2, c3, c4, c5, fun b hb p hp => ?_⟩, rk, held_cg (A := M) rfl (nk 0 (by decide) 3) (fun _ => rfl) held,
    wrd_cg (A := M) rfl (fun _ => rfl) (fun k => nk 23 (by decide) k 0) (nk 4 (by decide) 5) (fun j => nk 16 (by decide) j 0) (nk 3 (by decide) 0) wrd, bnd_cg (A := M) rfl (nk 4 (by decide) 7) (nk 6 (by decide) 9 0) (nk 6 (by decide) 11 0) (fun j => nk 15 (by decide) j 0) (nk 7 (by decide) 28 0) bnd⟩
  rw [mT_sT]
  by_cases e : p = q ∧ b = a
  · rw [if_pos ⟨rfl, e⟩]; exact ⟨z, hz, rfl⟩
  · rw [if_neg (fun z => e z.2)]; exact c6 b hb p hp
theorem dk_shift {t a : Nat} {M : Mem} {v : Int32} (hv : v = 0 ∨ v = 1) (d : Dk t M) : Dk t (sT M 0 2 a v) := by
  have nk : ∀ k, k ≠ 0 → ∀ j u, mT (sT M 0 2 a v) k j u = mT M k j u := fun k h j u => sT_ne (fun z => h z.1)
  have nj : ∀ j, j ≠ 2 → ∀ u, mT (sT M 0 2 a v) 0 j u = mT M 0 j u := fun j h u => sT_ne (fun z => h z.2.1)
  obtain ⟨num, ml, ⟨c1, c2, c3, c4, c5, c6⟩, rk, held, wrd, bnd⟩ := d
  refine ⟨num_cg (A := M) rfl (nj 0 (by decide)) (nk 2 (by decide) 0) (nk 4 (by decide) 0) num, ml_cg (A := M) rfl (fun _ => rfl) (fun _ => rfl) ml, ⟨c1, fun b => ⟨?_, by rw [nj 1 (by decide)]; exact (c2 b).2⟩, fun b hb => by rw [nj 3 (by decide)]; exact c3 b hb, c4, c5, c6⟩, rk, held_cg (A := M) rfl (nj 3 (by decide)) (fun _ => rfl) held,
    wrd_cg (A := M) rfl (fun _ => rfl) (fun k => nk 23 (by decide) k 0) (nk 4 (by decide) 5) (fun j => nk 16 (by decide) j 0) (nk 3 (by decide) 0) wrd, bnd_cg (A := M) rfl (nk 4 (by decide) 7) (nk 6 (by decide) 9 0) (nk 6 (by decide) 11 0) (fun j => nk 15 (by decide) j 0) (nk 7 (by decide) 28 0) bnd⟩
  rw [mT_sT]
  by_cases e : b = a
  · rw [if_pos ⟨rfl, rfl, e⟩]; exact hv
  · rw [if_neg (fun z => e z.2.2)]; exact (c2 b).1
/-- one more answer has gone out -/
theorem dk_count {t : Nat} {M : Mem} (d : Dk t M) : Dk (t + 1) (sT M 6 11 0 (mT M 6 11 0 + 1)) := by
  have nk : ∀ k, k ≠ 6 → ∀ j u, mT (sT M 6 11 0 (mT M 6 11 0 + 1)) k j u = mT M k j u := fun k h j u => sT_ne (fun z => h z.1)
  obtain ⟨num, ml, cel, rk, held, wrd, ⟨b1, b2, b3, ⟨c, hc, ec⟩, b5⟩⟩ := d
  obtain ⟨num', ml', cel', rk', held', wrd', ⟨b1', b2', b3', b4', b5'⟩⟩ := dk_up ⟨num, ml, cel, rk, held, wrd, b1, b2, b3, ⟨c, hc, ec⟩, b5⟩
  refine ⟨num_cg (A := M) rfl (nk 0 (by decide) 0) (nk 2 (by decide) 0) (nk 4 (by decide) 0) num, ml_cg (A := M) rfl (fun _ => rfl) (fun _ => rfl) ml, cel, rk, held_cg (A := M) rfl (nk 0 (by decide) 3) (fun _ => rfl) held,
    wrd_cg (A := M) rfl (fun _ => rfl) (fun k => nk 23 (by decide) k 0) (nk 4 (by decide) 5) (fun j => nk 16 (by decide) j 0) (nk 3 (by decide) 0) wrd, b1', b2', b3', ⟨c + 1, Nat.succ_le_succ hc, ?_⟩, b5'⟩
  rw [mT_sT, if_pos ⟨rfl, rfl, rfl⟩, ec]
  exact nI_add c 1
theorem sP_same {M : Mem} {k j i : Nat} {o : Option Nat} (h : mP M k j i = o) : sP M k j i o = M := by
  have e : u3 (mP M) k j i o = mP M := by
    funext a b c
    by_cases q : a = k ∧ b = j ∧ c = i
    · rw [q.1, q.2.1, q.2.2]
      exact (u3_self _ _ _ _ _).trans h.symm
    · exact u3_ne q
  exact congrArg (fun f => ((M.1, M.2.1, M.2.2.1, M.2.2.2.1, f, M.2.2.2.2.2) : Mem)) e
theorem sT_same {M : Mem} {k j i : Nat} {v : Int32} (h : mT M k j i = v) : sT M k j i v = M := by
  have e : u3 (mT M) k j i v = mT M := by
    funext a b c
    by_cases q : a = k ∧ b = j ∧ c = i
    · rw [q.1, q.2.1, q.2.2]
      exact (u3_self _ _ _ _ _).trans h.symm
    · exact u3_ne q
  exact congrArg (fun f => ((M.1, f, M.2.2) : Mem)) e
theorem sP_two {M : Mem} {k j i : Nat} {o o' : Option Nat} : sP (sP M k j i o) k j i o' = sP M k j i o' := by
  have e : u3 (u3 (mP M) k j i o) k j i o' = u3 (mP M) k j i o' := by
    funext a b c
    show (if _ then _ else if _ then _ else _) = (if _ then _ else _)
    split <;> rfl
  exact congrArg (fun f => ((M.1, M.2.1, M.2.2.1, M.2.2.2.1, f, M.2.2.2.2.2) : Mem)) e
theorem dk_leave {t i : Nat} {M : Mem} (d : Dk t M) (n4 : mN M 4 ≤ 40) (hi : i < mN M 4) (ha : ∀ a, mP M 4 9 i = some a → a < mN M 0) : Dk t (leaveM M i) := by
  cases hp : mP M 4 9 i with
  | none =>
    have e : leaveM M i = sP M 4 9 i none := by unfold leaveM; rw [hp]
    rw [e, sP_same hp]; exact d
  | some a =>
    have ha := ha a hp
    obtain ⟨num, ml, ⟨c1, c2, c3, c4, c5, c6⟩, rk, held, wrd, bnd⟩ := d
    rw [leave_T hp]
    have nk : ∀ k, k ≠ 0 → ∀ j u, mT (sP (sT M 0 3 a (mT M 0 3 a - 1)) 4 9 i none) k j u = mT M k j u := fun k h j u => sT_ne (fun z => h z.1)
    have nj : ∀ j, j ≠ 3 → ∀ u, mT (sP (sT M 0 3 a (mT M 0 3 a - 1)) 4 9 i none) 0 j u = mT M 0 j u := fun j h u => sT_ne (fun z => h z.2.1)
    have ho : ∀ b, heN M b (mN M 4) = heN (sP M 4 9 i none) b (mN M 4) + if b = a ∧ i < mN M 4 then 1 else 0 := fun b => he_clr hp _
    have hv : mT M 0 3 a - 1 = heN (sP M 4 9 i none) a (mN M 4) := by
      rw [held a ha, ho a, if_pos ⟨rfl, hi⟩, Int32.add_sub_cancel]
    have n3 : ∀ u, mT (sP (sT M 0 3 a (mT M 0 3 a - 1)) 4 9 i none) 0 3 u = if u = a then heN (sP M 4 9 i none) a (mN M 4) else mT M 0 3 u := fun u => by
      rw [← hv]
      by_cases e : u = a
      · subst e
        rw [if_pos rfl]; exact u3_self _ _ _ _ _
      · rw [if_neg e]; exact sT_ne (fun z => e z.2.2)
    have p13 : ∀ u, mP (sP (sT M 0 3 a (mT M 0 3 a - 1)) 4 9 i none) 4 13 u = mP M 4 13 u := fun u => rfl
    have p21 : ∀ u, mP (sP (sT M 0 3 a (mT M 0 3 a - 1)) 4 9 i none) 2 1 u = mP M 2 1 u := fun u => rfl
    refine ⟨num_cg (A := M) rfl (nj 0 (by decide)) (nk 2 (by decide) 0) (nk 4 (by decide) 0) num, ml_cg (A := M) rfl (fun _ => rfl) p21 ml, ⟨fun u => ?_, fun b => ⟨?_, ?_⟩, fun b hb => ?_, ?_, ?_, ?_⟩, ?_, fun b hb => ?_,
      wrd_cg (A := M) rfl p21 (fun k => nk 23 (by decide) k 0) (nk 4 (by decide) 5) (fun j => nk 16 (by decide) j 0) (nk 3 (by decide) 0) wrd, bnd_cg (A := M) rfl (nk 4 (by decide) 7) (nk 6 (by decide) 9 0) (nk 6 (by decide) 11 0) (fun j => nk 15 (by decide) j 0) (nk 7 (by decide) 28 0) bnd⟩
    · rw [nk 4 (by decide), nk 4 (by decide)]; exact c1 u
    · rw [nj 2 (by decide)]; exact (c2 b).1
    · rw [nj 1 (by decide)]; exact (c2 b).2
    · rw [n3]
      by_cases e : b = a
      · obtain ⟨z, z1, z2⟩ := c3 a ha
        obtain ⟨c, k1, k2⟩ := he_nat (D := sP M 4 9 i none) (b := a) (mN M 4)
        have y := ho a
        rw [← held a ha, if_pos ⟨rfl, hi⟩, k2, z2] at y
        have y2 : nI z = nI (c + 1) := y.trans (nI_add c 1)
        have y3 := nI_inj (by omega) (by omega) y2
        rw [if_pos e, k2]
        exact ⟨c, by omega, rfl⟩
      · rw [if_neg e]; exact c3 b hb
    · have e23 := nk 23 (by decide)
      intro k hk
      rw [e23]
      exact c4 k hk
    · intro b hb
      rw [nk 3 (by decide)]
      exact c5 b hb
    · intro b hb p hp'
      rw [nk 14 (by decide)]
      exact c6 b hb p hp'
    · obtain ⟨rk, h⟩ := rk
      exact ⟨rk, fun u v z => h u v (by rw [← p13]; exact z)⟩
    · rw [n3]
      have e : heN (sP (sT M 0 3 a (mT M 0 3 a - 1)) 4 9 i none) b (mN M 4) = heN (sP M 4 9 i none) b (mN M 4) := he_cg (A := sP M 4 9 i none) (B := sP (sT M 0 3 a (mT M 0 3 a - 1)) 4 9 i none) (fun _ => rfl) b _
      show _ = heN (sP (sT M 0 3 a (mT M 0 3 a - 1)) 4 9 i none) b (mN M 4)
      rw [e]
      by_cases d : b = a
      · rw [if_pos d, d]
      · rw [if_neg d, held b hb, ho b, if_neg (fun z => d z.1), Int32.add_zero]
theorem dk_join {t i a : Nat} {M : Mem} (d : Dk t M) (hi : i < mN M 4) (ha : a < mN M 0) (hp : mP M 4 9 i = none) (h3 : mT M 0 3 a < 3) : Dk t (joinM M i a) := by
  obtain ⟨num, ml, ⟨c1, c2, c3, c4, c5, c6⟩, rk, held, wrd, bnd⟩ := d
  have nk : ∀ k, k ≠ 0 → ∀ j u, mT (joinM M i a) k j u = mT M k j u := fun k h j u => sT_ne (fun z => h z.1)
  have nj : ∀ j, j ≠ 3 → ∀ u, mT (joinM M i a) 0 j u = mT M 0 j u := fun j h u => sT_ne (fun z => h z.2.1)
  have n3 : ∀ u, mT (joinM M i a) 0 3 u = if u = a then mT M 0 3 a + 1 else mT M 0 3 u := fun u => by
    unfold joinM
    rw [mT_sT]
    by_cases e : u = a
    · rw [if_pos ⟨rfl, rfl, e⟩, if_pos e]
      try rfl
    · rw [if_neg (fun z => e z.2.2), if_neg e]
      try rfl
  have p13 : ∀ u, mP (joinM M i a) 4 13 u = mP M 4 13 u := fun u => rfl
  have p21 : ∀ u, mP (joinM M i a) 2 1 u = mP M 2 1 u := fun u => rfl
  refine ⟨num_cg (A := M) rfl (nj 0 (by decide)) (nk 2 (by decide) 0) (nk 4 (by decide) 0) num, ml_cg (A := M) rfl (fun _ => rfl) p21 ml, ⟨fun u => ?_, fun b => ⟨?_, ?_⟩, fun b hb => ?_, ?_, ?_, ?_⟩, ?_, fun b hb => ?_,
    wrd_cg (A := M) rfl p21 (fun k => nk 23 (by decide) k 0) (nk 4 (by decide) 5) (fun j => nk 16 (by decide) j 0) (nk 3 (by decide) 0) wrd, bnd_cg (A := M) rfl (nk 4 (by decide) 7) (nk 6 (by decide) 9 0) (nk 6 (by decide) 11 0) (fun j => nk 15 (by decide) j 0) (nk 7 (by decide) 28 0) bnd⟩
  · rw [nk 4 (by decide), nk 4 (by decide)]; exact c1 u
  · rw [nj 2 (by decide)]; exact (c2 b).1
  · rw [nj 1 (by decide)]; exact (c2 b).2
  · rw [n3]
    by_cases e : b = a
    · obtain ⟨z, z1, z2⟩ := c3 a ha
      have f := held_fin ⟨z, by omega⟩
      rw [z2] at h3
      rw [if_pos e, z2]
      exact ⟨z + 1, f.2.1 h3, f.2.2⟩
    · rw [if_neg e]; exact c3 b hb
  · intro k hk
    rw [nk 23 (by decide)]
    exact c4 k hk
  · intro b hb
    rw [nk 3 (by decide)]
    exact c5 b hb
  · intro b hb p hp'
    rw [nk 14 (by decide)]
    exact c6 b hb p hp'
  · obtain ⟨rk, h⟩ := rk
    exact ⟨rk, fun u v z => h u v (by rw [← p13]; exact z)⟩
  · rw [n3]
    have e : heN (joinM M i a) b (mN M 4) = heN (sP M 4 9 i (some a)) b (mN M 4) := he_cg (A := sP M 4 9 i (some a)) (B := joinM M i a) (fun _ => rfl) b _
    show _ = heN (joinM M i a) b (mN M 4)
    rw [e, he_set hp]
    by_cases d : b = a
    · rw [if_pos d, if_pos ⟨d, hi⟩, d, held a ha]
    · rw [if_neg d, if_neg (fun z => d z.1), Int32.add_zero, held b hb]
