theorem oaN_l8 {M : Mem} {q u : Nat} : ∀ n, mL (oaN M q n) 8 u = mL M 8 u := oaN_ne (fun z => absurd z.1 (by decide))
theorem oq_l8 {M : Mem} {u : Nat} : ∀ n, mL (oqN M n) 8 u = mL M 8 u
  | 0 => rfl
  | n + 1 => by
    show mL (oaM (oqN M n) n) 8 u = _
    unfold oaM
    rw [oaN_l8, oq_l8 n]
theorem RC_level {D M : Mem} {a : Nat} {v : Int32} (r : RC D M) : RC (sT D 1 1 a v) (sT M 20 a 0 v) := by
  obtain ⟨r1, r2, r3, r4⟩ := r
  refine ⟨r1, r2, fun b hb => ?_, r4⟩
  rw [mT_sT, mT_sT]
  by_cases e : b = a
  · rw [if_pos ⟨rfl, e, rfl⟩, if_pos ⟨rfl, rfl, e⟩]
  · rw [if_neg (fun z => e z.2.1), if_neg (fun z => e z.2.2)]; exact r3 b hb
theorem RC_prom {D M : Mem} {a : Nat} {v : Int32} (r : RC D M) : RC (sT D 15 a 0 v) (sT M 21 a 0 v) := by
  obtain ⟨r1, r2, r3, r4, r5⟩ := r
  refine ⟨r1, r2, r3, fun b hb => ?_, r5⟩
  rw [mT_sT, mT_sT]
  by_cases e : b = a
  · rw [if_pos ⟨rfl, e, rfl⟩, if_pos ⟨rfl, e, rfl⟩]
  · rw [if_neg (fun z => e z.2.1), if_neg (fun z => e z.2.1)]; exact r4 b hb
/-- one cell that orders the lines changes, and the lines are ordered anew -/
theorem inv_order {t k0 j0 i0 km jm im : Nat} {M : Mem} {v : Int32} (I : INV t M) (hk : k0 = 1 ∨ k0 = 15) (h20 : 20 ≤ km ∧ km ≤ 38 ∧ km ≠ 23) (w : Wf (sT M k0 j0 i0 v)) (rc : RC (sT M k0 j0 i0 v) (sT M km jm im v)) (hb : ∀ c, c < 3 → ∃ a, a ≤ 9999 ∧ mT (sT M k0 j0 i0 v) 15 c 0 = nI a) :
    RC M (oqN (sT M k0 j0 i0 v) 6) ∧ INV (t + 1) (sT (oqN (sT M k0 j0 i0 v) 6) km jm im v) := by
  have nk : ∀ k, k ≠ k0 → ∀ j u, mT (sT M k0 j0 i0 v) k j u = mT M k j u := fun k h j u => sT_ne (fun z => h z.1)
  obtain ⟨h1, h2, h3, h4⟩ := oq_T (M := sT M k0 j0 i0 v) 6
  have h6 : (6 : Nat) ≠ k0 := by rcases hk with h | h <;> rw [h] <;> decide
  have h7 : (7 : Nat) ≠ k0 := by rcases hk with h | h <;> rw [h] <;> decide
  have num : NumOk (sT M k0 j0 i0 v) := num_cg (A := M) rfl (nk 0 (by omega) 0) (nk 2 (by omega) 0) (nk 4 (by omega) 0) I.num
  have n4 := nk 4 (by omega)
  have hq : QI (oqN (sT M k0 j0 i0 v) 6) := QI_oq w num (fun q hq x => by
    have e : waM (sT M k0 j0 i0 v) x = waM M x := by unfold waM stM; rw [n4]; rfl
    have e2 : toM (sT M k0 j0 i0 v) x = toM M x := by unfold toM; rw [n4]
    rw [e, e2]
    exact (I.qi q hq).1 x)
  refine inv_cell (Z := sT M k0 j0 i0 v) I h20 (wf_oq w 6 (Nat.le_refl _)) hq h3 h2 h1 h4 (fun u => oq_l8 6) rfl (fun k j u h => nk k (by omega) j u) (fun _ _ => rfl) rc num (ml_cg (A := M) rfl (fun _ => rfl) (fun _ => rfl) I.ml) ?_ I.2.2.2.2.2.2.2.1 (held_cg (A := M) rfl (nk 0 (by omega) 3) (fun _ => rfl) I.held)
    (wrd_cg (A := M) rfl (fun _ => rfl) (fun k => nk 23 (by omega) k 0) (n4 5) (fun j => nk 16 (by omega) j 0) (nk 3 (by omega) 0) I.2.2.2.2.2.2.2.2.2.1) ?_
  · have e0 := nk 0 (by omega)
    have e3 := nk 3 (by omega)
    have e14 := nk 14 (by omega)
    have e23 := nk 23 (by omega)
    have c := I.cel
    have hN2 : mN (sT M k0 j0 i0 v) = mN M := rfl
    have hL2 : mL (sT M k0 j0 i0 v) = mL M := rfl
    have hP2 : mP (sT M k0 j0 i0 v) = mP M := rfl
    simpa only [CelOk, hN2, hP2, hL2, e0, e3, n4, e14, e23] using c
  · obtain ⟨b1, b2, b3, b4, b5⟩ := (inv_up I).bnd
    have e6 := nk 6 h6 9 0
    have e11 := nk 6 h6 11 0
    have e7 := nk 7 h7 28 0
    obtain ⟨a1, d1, f1⟩ := b1
    obtain ⟨a4, d4, f4⟩ := b4
    obtain ⟨a5, d5, f5⟩ := b5
    refine ⟨?_, fun i hi => ?_, hb, ?_, ?_⟩
    · exact ⟨a1, d1, e6.trans f1⟩
    · obtain ⟨a2, d2, f2⟩ := b2 i hi
      exact ⟨a2, d2, (n4 7 i).trans f2⟩
    · exact ⟨a4, d4, e11.trans f4⟩
    · exact ⟨a5, d5, e7.trans f5⟩
theorem inB_up {y : Int32} (h : inB y 1 9999 = true) : inB y 0 9999 = true := by
  unfold inB at h ⊢
  simp only [Bool.and_eq_true, Bool.not_eq_true', decide_eq_false_iff_not] at h ⊢
  refine ⟨fun z => h.1 ?_, h.2⟩
  rw [Int32.lt_iff_toInt_lt] at z ⊢
  have : (0 : Int32).toInt = 0 := by decide
  have : (1 : Int32).toInt = 1 := by decide
  omega
/-- setClass -/
theorem pu_2 {t : Nat} {M : Mem} (I : INV t M) (ht : t < 512) (x y : Int32) (M1 M2 : Mem) (hM1 : M1 = if rSetClass M x y = 0 then sJ (oqN (sT M 1 1 (ix x) y) 6) 39 0 0 ((mT M 1 1 (ix x)).toInt64) else M) (hM2 : M2 = if rSetClass M x y = 0 then sT (sT M1 7 19 0 0) 20 (ix x) 0 y else sT M1 7 19 0 (thI (rSetClass M x y))) : (mN (oqN (sT M 1 1 (ix x) y) 6) 39 = 1) ∧ RC M M1 ∧ 0 < mN M1 7 ∧ 0 < mN M2 7 ∧ 0 < mN M2 39 ∧ rSetClass M x y < 100 ∧ mT M2 7 19 0 = nI (rSetClass M x y) ∧ (rSetClass M x y = 0 → mJ M2 39 0 0 = ((if rSetClass M x y = 0 then mT M 1 1 (ix x) else 0)).toInt64) ∧ INV (t + 1) M2 := by
  have hi : rSetClass M x y = 0 → inB x 0 7 = true ∧ inB y 0 2 = true := fun h => by
    unfold rSetClass at h
    by_cases hx : inB x 0 7 = true ∧ inB y 0 2 = true
    · exact hx
    · rw [if_neg hx] at h; cases h
  have hX := fun h => inv_order (k0 := 1) (j0 := 1) (i0 := ix x) (km := 20) (jm := ix x) (im := 0) (v := y) I (Or.inl rfl) (by decide) (by obtain ⟨y1, y2⟩ := inB_ix (x := y) (n := 3) (hi h).2 (by omega); rw [y2]; exact wf_level y1 I.wf) (RC_level I.rc) (fun c hc => by rw [mT_sT, if_neg (fun z => absurd z.1 (by decide))]; exact I.bnd.2.2.1 c hc)
  have hn : mN (oqN (sT M 1 1 (ix x) y) 6) = mN M := (oq_T 6).2.2.1
  refine ⟨by rw [hn]; exact I.n39, pu_write (Y := sT (oqN (sT M 1 1 (ix x) y) 6) 20 (ix x) 0 y) I rfl hM1 (by unfold rSetClass; split <;> omega) hn (fun h => by rw [if_pos h]) (fun h => (hX h).1) (fun h => ?_) (fun h => ?_) (fun h => (hX h).2)⟩
  · rw [hM2, if_pos h, hM1, if_pos h]
    exact sm_end (by decide)
  · rw [hM2, if_neg h]
/-- setPromise -/
theorem pu_3 {t : Nat} {M : Mem} (I : INV t M) (ht : t < 512) (x y : Int32) (M1 M2 : Mem) (hM1 : M1 = if rSetPromise M x y = 0 then sJ (oqN (sT M 15 (ix x) 0 y) 6) 39 0 0 ((mT M 15 (ix x) 0).toInt64) else M) (hM2 : M2 = if rSetPromise M x y = 0 then sT (sT M1 7 19 0 0) 21 (ix x) 0 y else sT M1 7 19 0 (thI (rSetPromise M x y))) : (mN (oqN (sT M 15 (ix x) 0 y) 6) 39 = 1) ∧ RC M M1 ∧ 0 < mN M1 7 ∧ 0 < mN M2 7 ∧ 0 < mN M2 39 ∧ rSetPromise M x y < 100 ∧ mT M2 7 19 0 = nI (rSetPromise M x y) ∧ (rSetPromise M x y = 0 → mJ M2 39 0 0 = ((if rSetPromise M x y = 0 then mT M 15 (ix x) 0 else 0)).toInt64) ∧ INV (t + 1) M2 := by
  have hi : rSetPromise M x y = 0 → inB x 0 2 = true ∧ inB y 1 9999 = true := fun h => by
    unfold rSetPromise at h
    by_cases hx : inB x 0 2 = true ∧ inB y 1 9999 = true
    · exact hx
    · rw [if_neg hx] at h; cases h
  have hX := fun h => inv_order (k0 := 15) (j0 := ix x) (i0 := 0) (km := 21) (jm := ix x) (im := 0) (v := y) I (Or.inr rfl) (by decide) (wf_sT (by simp) (by simp) I.wf) (RC_prom I.rc) (fun c hc => by
    rw [mT_sT]
    by_cases e : c = ix x
    · rw [if_pos ⟨rfl, e, rfl⟩]
      obtain ⟨y1, y2⟩ := inB_ix (x := y) (n := 10000) (inB_up (hi h).2) (by omega)
      exact ⟨ix y, by omega, y2⟩
    · rw [if_neg (fun z => e z.2.1)]
      exact I.bnd.2.2.1 c hc)
  have hn : mN (oqN (sT M 15 (ix x) 0 y) 6) = mN M := (oq_T 6).2.2.1
  refine ⟨by rw [hn]; exact I.n39, pu_write (Y := sT (oqN (sT M 15 (ix x) 0 y) 6) 21 (ix x) 0 y) I rfl hM1 (by unfold rSetPromise; split <;> omega) hn (fun h => by rw [if_pos h]) (fun h => (hX h).1) (fun h => ?_) (fun h => ?_) (fun h => (hX h).2)⟩
  · rw [hM2, if_pos h, hM1, if_pos h]
    exact sm_end (by decide)
  · rw [hM2, if_neg h]
