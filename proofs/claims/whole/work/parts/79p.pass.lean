theorem inB_1 {x : Int32} (h : inB x 1 600 = true) : inB x 0 (nI 601 - 1) = true := by
  have e : nI 601 - 1 = 600 := by decide
  have e1 : (1 : Int32).toInt = 1 := by decide
  have e0 : (0 : Int32).toInt = 0 := by decide
  rw [e]
  unfold inB at h ⊢
  simp only [Bool.and_eq_true, Bool.not_eq_true', decide_eq_false_iff_not, i32_lt, e0, e1] at h ⊢
  omega
/-- what the reference's minutes leave alone -/
def Rk (A B : Mem) : Prop := (∀ X, EqD X A → EqD X B) ∧ mT B 7 19 0 = mT A 7 19 0 ∧ mT B 7 28 0 = mT A 7 28 0 ∧ mJ B 39 0 0 = mJ A 39 0 0
theorem Rk.trans {A B C : Mem} (h : Rk A B) (g : Rk B C) : Rk A C := ⟨fun X e => g.1 X (h.1 X e), g.2.1.trans h.2.1, g.2.2.1.trans h.2.2.1, g.2.2.2.trans h.2.2.2⟩
theorem Rk.sT {A : Mem} {k j i : Nat} {v : Int32} (h : (k = 7 ∧ j ≠ 19 ∧ j ≠ 28) ∨ (20 ≤ k ∧ k ≠ 23)) : Rk A (sT A k j i v) :=
  ⟨fun _ e => EqD.sT (by omega) e, sT_ne (fun z => by have := z.1; have := z.2.1; omega), sT_ne (fun z => by have := z.1; have := z.2.1; omega), rfl⟩
theorem Rk.sJ {A : Mem} {v : Int64} : Rk A (sJ A 7 29 0 v) := ⟨fun _ e => ⟨e.1, e.2.1, e.2.2.1, e.2.2.2.1, e.2.2.2.2⟩, rfl, rfl, rfl⟩
theorem rk_miS {D N : Mem} {k : Nat} : Rk N (miS D N k) := by
  have h : Rk N (miA D N k) := (Rk.sT (Or.inr (by decide))).trans Rk.sJ
  unfold miS
  split
  · split
    · exact h.trans (Rk.sT (Or.inr (by decide)))
    · exact h
  · exact ⟨fun _ e => e, rfl, rfl, rfl⟩
theorem rk_miN {D N : Mem} : ∀ k, Rk N (miN D N k)
  | 0 => ⟨fun _ e => e, rfl, rfl, rfl⟩
  | k + 1 => (rk_miN k).trans rk_miS
theorem rk_min {D N : Mem} : Rk N (minR D N) := ((Rk.sT (Or.inl (by decide))).trans (rk_miN _)).trans (Rk.sT (Or.inl (by decide)))
theorem rk_it {D N : Mem} : ∀ n, Rk N (itR D N n)
  | 0 => ⟨fun _ e => e, rfl, rfl, rfl⟩
  | n + 1 => (rk_it n).trans rk_min
theorem cb_of {t n i : Nat} {M : Mem} (I : INV t M) (ht : t < 512) (hn : n ≤ 601) (hi : i < mN M 4) : CbD M n i := by
  obtain ⟨c, c1, c2⟩ := I.bnd.2.1 i hi
  have w := I.wf.2.2.1 i hi
  obtain ⟨a, a1, a2⟩ := I.bnd.2.2.1 _ (I.wf.2.1 (cuM M i) w.2.1).2
  have e1 : (mT M 4 7 i).toInt = c := by rw [c2, nI_toInt (by omega)]
  have e2 : (prD M i).toInt = a := by
    unfold prD
    rw [a2, nI_toInt (by omega)]
  unfold CbD
  rw [e1, e2]
  omega
theorem dk_pass {t n : Nat} {M : Mem} (d : Dk t M) (hn : n ≤ 600) : Dk (t + 1) (passM M (nI n)) := by
  obtain ⟨num, ml, ⟨c1, c2, c3, c4, c5, c6⟩, rk, held, wrd, ⟨⟨a, ha, ea⟩, b2, b3, ⟨e, he, ee⟩, ⟨g, hg, eg⟩⟩⟩ := d
  have hP : mP (passM M (nI n)) = mP M := pm_P
  have hL : mL (passM M (nI n)) = mL M := pm_L
  have hN : mN (passM M (nI n)) = mN M := pm_N
  have o := fun k j i (h1 : k ≠ 6) (h2 : ¬ (k = 4 ∧ (j = 7 ∨ j = 8))) => pm_o (D := M) (x := nI n) (k := k) (j := j) (i := i) h1 h2
  have nk : ∀ k, k ≠ 6 → k ≠ 4 → ∀ j i, mT (passM M (nI n)) k j i = mT M k j i := fun k h1 h2 j i => o k j i h1 (fun z => h2 z.1)
  refine ⟨num_cg (A := M) hN (nk 0 (by decide) (by decide) 0) (nk 2 (by decide) (by decide) 0) (fun i => o 4 0 i (by decide) (by decide)) num, ml_cg (A := M) hN (fun i => by rw [hL]) (fun k => by rw [hP]) ml, ⟨fun i => ?_, fun b => ?_, fun b hb => ?_, fun k hk => ?_, fun b hb => ?_, fun b hb p hp => ?_⟩, by rw [hP]; exact rk,
    held_cg (A := M) hN (nk 0 (by decide) (by decide) 3) (fun i => by rw [hP]) held, wrd_cg (A := M) hN (fun k => by rw [hP]) (fun k => nk 23 (by decide) (by decide) k 0) (fun i => o 4 5 i (by decide) (by decide)) (fun j => nk 16 (by decide) (by decide) j 0) (nk 3 (by decide) (by decide) 0) wrd, ⟨a + n, by omega, ?_⟩, fun i hi => ?_, fun c hc => ?_, ⟨e, by omega, ?_⟩, ⟨g, ?_, ?_⟩⟩
  · obtain ⟨d1, d2, d3, d4, d5⟩ := c1 i
    rw [pm_6, hP, hL, hN]
    refine ⟨d1, ?_, d3, d4, d5⟩
    rw [pm_T, if_neg (fun z => absurd z.1 (by decide)), if_neg (fun z => absurd z.1 (by decide)), if_neg (fun z => absurd z.2.1 (by decide))]
    split
    · exact Or.inr rfl
    · exact d2
  · rw [nk 0 (by decide) (by decide), nk 0 (by decide) (by decide)]; exact c2 b
  · rw [nk 0 (by decide) (by decide)]; exact c3 b (by rw [← hN]; exact hb)
  · rw [nk 23 (by decide) (by decide)]; exact c4 k (by rw [← hN]; exact hk)
  · rw [nk 3 (by decide) (by decide)]; exact c5 b (by rw [← hN]; exact hb)
  · rw [nk 14 (by decide) (by decide)]; exact c6 b (by rw [← hN]; exact hb) p hp
  · rw [pm_T, if_neg (fun z => absurd z.2.1 (by decide)), if_pos ⟨rfl, rfl, rfl⟩, ea]
    exact nI_add a n
  · obtain ⟨b, h1, h2⟩ := b2 i (by rw [← hN]; exact hi)
    rw [pm_T, if_neg (fun z => absurd z.1 (by decide)), if_neg (fun z => absurd z.1 (by decide))]
    split
    · exact ⟨b + n, by omega, by rw [h2]; exact nI_add b n⟩
    · rw [if_neg (fun z => absurd z.2.1 (by decide))]
      exact ⟨b, by omega, h2⟩
  · rw [nk 15 (by decide) (by decide)]; exact b3 c hc
  · rw [pm_T, if_neg (fun z => absurd z.2.1 (by decide)), if_neg (fun z => absurd z.2.1 (by decide)), if_neg (fun z => absurd z.1 (by decide)), if_neg (fun z => absurd z.1 (by decide))]; exact ee
  · exact Nat.le_trans hg (Nat.mul_le_mul (by omega) (by omega))
  · rw [nk 7 (by decide) (by decide)]; exact eg
/-- pass -/
theorem pu_0 {t : Nat} {M : Mem} (I : INV t M) (ht : t < 512) (x : Int32) (M1 M2 : Mem) (hM1 : M1 = if rPass M x = 0 then sJ (passM M x) 39 0 0 ((pbN M x (mN M 4)).toInt64) else M) (hM2 : M2 = if rPass M x = 0 then itR M (sT M1 7 19 0 0) (ix x) else sT M1 7 19 0 (thI (rPass M x))) : (mN (passM M x) 39 = 1) ∧ RC M M1 ∧ 0 < mN M1 7 ∧ 0 < mN M2 7 ∧ 0 < mN M2 39 ∧ rPass M x < 100 ∧ mT M2 7 19 0 = nI (rPass M x) ∧ (rPass M x = 0 → mJ M2 39 0 0 = ((if rPass M x = 0 then itC M (ix x) else 0)).toInt64) ∧ INV (t + 1) M2 := by
  have hi : rPass M x = 0 → ∃ m, ix x = m + 1 ∧ m + 1 ≤ 600 ∧ x = nI (m + 1) := fun h => by
    unfold rPass at h
    by_cases hx : inB x 1 600 = true
    · obtain ⟨x1, x2⟩ := inB_ix (x := x) (n := 601) (inB_1 hx) (by omega)
      cases e : ix x with
      | zero =>
        rw [e] at x2
        rw [x2] at hx
        exact absurd hx (by decide)
      | succ m => exact ⟨m, rfl, by omega, by rw [← e]; exact x2⟩
    · rw [if_neg hx] at h; cases h
  have hN : mN (passM M x) = mN M := pm_N
  have hmo : RC M (passM M x) := rc_mo ⟨fun _ _ => by rw [hN], fun j u _ => pm_o (by decide) (fun z => absurd z.1 (by decide)), fun k j u h1 h2 => pm_o (by omega) (fun z => by omega), fun j u => by rw [pm_J, if_neg (fun z => absurd z.1 (by decide))]⟩ I.rc
  refine ⟨by rw [hN]; exact I.n39, pu_end I rfl hM1 (by unfold rPass; (repeat' split) <;> omega) (fun h => ?_) (fun _ => hmo) (fun h => ?_) (fun h => by rw [hM2, if_neg h]) (fun h => ?_)⟩
  · obtain ⟨m, e1, e2, e3⟩ := hi h
    rw [if_pos h, e1, pb_it (by omega) (fun i hi => cb_of I ht (by omega) hi), ← e3]
  · rw [hM2, if_pos h]
    obtain ⟨-, q1, -, q2⟩ := rk_it (D := M) (N := sT M1 7 19 0 0) (ix x)
    exact ⟨q1, q2⟩
  · obtain ⟨m, e1, e2, e3⟩ := hi h
    obtain ⟨q0, -, q1, -⟩ := rk_it (D := M) (N := sT M1 7 19 0 0) (ix x)
    have eD : EqD (passM M x) M2 := by
      rw [hM2, if_pos h]
      refine q0 _ ?_
      rw [hM1, if_pos h]
      exact EqD.row
    have w1 : Wf (passM M x) := wf_sT (by decide) (by decide) (wf_sT (by decide) (by decide) (wf_ps I.wf _))
    refine inv_ref (X := passM M x) w1 (by rw [e3]; exact QI_pass I.qi (fun i hi => cb_of I ht (by omega) hi)) (by rw [e3]; exact dk_pass I.dk e2) eD (by rw [hN]; exact I.n39) (by rw [hN]; exact I.n40) ?_ (I.b28 ?_)
    · have r0 : RC M (sT M1 7 19 0 0) := by
        rw [hM1, if_pos h]
        exact rc_row hmo
      rw [hM2, if_pos h, e1]
      have q := RC_pass (m := m) r0 (by omega) (fun i hi => cb_of I ht (by omega) hi)
      rw [← e3] at q
      exact q
    · rw [hM2, if_pos h, q1, mT_sT, if_neg (fun z => absurd z.2.1 (by decide)), hM1, if_pos h]
      rw [mT_sJ]
      exact pm_o (by decide) (fun z => absurd z.1 (by decide))
