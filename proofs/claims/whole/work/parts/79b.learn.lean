/-- the desk's memory changes to X (told by Z, but for the lines), the reference's by one cell -/
theorem inv_cell {t km jm im : Nat} {M X Z : Mem} {v' : Int32} (I : INV t M) (h20 : 20 ≤ km ∧ km ≤ 38 ∧ km ≠ 23) (w : Wf X) (q : QI X) (hN : mN X = mN Z) (hP : mP X = mP Z) (hT : mT X = mT Z) (hJ : mJ X = mJ Z) (hL : ∀ u, mL X 8 u = mL Z 8 u)
    (hZN : mN Z = mN M) (hZm : ∀ k j u, k = 7 ∨ 20 ≤ k → mT Z k j u = mT M k j u) (hZJ : ∀ j u, mJ Z 7 j u = mJ M 7 j u) (rc : RC Z (sT M km jm im v')) (num : NumOk Z) (ml : ∀ i, i < mN Z 4 → MlOk Z i) (cel : CelOk Z) (rk : ∃ rk : Nat → Nat, ∀ u y, mP Z 4 13 u = some y → rk y < rk u) (held : ∀ a, a < mN Z 0 → mT Z 0 3 a = heN Z a (mN Z 4)) (wrd : WrdOk Z) (bnd : BndOk (t + 1) Z) : RC M X ∧ INV (t + 1) (sT X km jm im v') := by
  have b : ∀ k, k ≠ km → ∀ j u, mT (sT X km jm im v') k j u = mT Z k j u := fun k h j u => by
    rw [mT_sT, if_neg (fun z => h z.1), hT]
  obtain ⟨h20, h38, h23⟩ := h20
  refine ⟨rc_cg ⟨rfl, rfl, fun _ _ _ _ => rfl, fun _ _ => rfl⟩ ⟨hN.trans hZN, fun j u _ => by rw [hT]; exact hZm 7 j u (Or.inl rfl), fun k j u h1 _ => by rw [hT]; exact hZm k j u (Or.inr h1), fun j u => by rw [hJ]; exact hZJ j u⟩ I.rc, wf_sT (by omega) (by omega) w, ?_, ⟨by rw [mN_sT, hN, hZN]; exact I.n39, by rw [mN_sT, hN, hZN]; exact I.n40⟩, ?_, ?_, ?_, ?_, ?_, ?_, ?_, ?_⟩
  · refine rc_cg (A := Z) (M := sT M km jm im v') ⟨hN, hP, fun k hk j u => b k (by omega) j u, fun j u => by rw [mJ_sT, hJ]⟩ ⟨hN.trans hZN, fun j u _ => ?_, fun k j u h1 h2 => ?_, fun j u => by rw [mJ_sT, hJ]; exact hZJ j u⟩ rc
    · rw [b 7 (by omega), mT_sT, if_neg (fun z => by omega)]
      exact hZm 7 j u (Or.inl rfl)
    · rw [mT_sT, mT_sT, hT]
      by_cases c : k = km ∧ j = jm ∧ u = im
      · rw [if_pos c, if_pos c]
      · rw [if_neg c, if_neg c]
        exact hZm k j u (Or.inr h1)
  · exact num_cg hN (fun u => b 0 (by omega) 0 u) (fun u => b 2 (by omega) 0 u) (fun u => b 4 (by omega) 0 u) num
  · exact qi_cg (A := X) rfl (fun _ => rfl) (fun _ => rfl) (fun j u => by rw [b 4 (by omega), hT]) (fun u => by rw [b 1 (by omega), hT]) (fun j => by rw [b 15 (by omega), hT]) (fun _ => rfl) q
  · exact ml_cg hN (fun u => hL u) (fun k => by rw [mP_sT, hP]) ml
  · have e0 := b 0 (by omega)
    have e3 := b 3 (by omega)
    have e4 := b 4 (by omega)
    have e14 := b 14 (by omega)
    have e23 := b 23 (by omega)
    have hL2 : ∀ u, mL (sT X km jm im v') 8 u = mL Z 8 u := hL
    have hN2 : mN (sT X km jm im v') = mN Z := hN
    have hP2 : mP (sT X km jm im v') = mP Z := hP
    simpa only [CelOk, hN2, hP2, hL2, e0, e3, e4, e14, e23] using cel
  · obtain ⟨rk, h⟩ := rk
    exact ⟨rk, fun u y hy => h u y (by rw [← hP]; exact hy)⟩
  · exact held_cg hN (fun u => b 0 (by omega) 3 u) (fun u => by rw [mP_sT, hP]) held
  · exact wrd_cg hN (fun k => by rw [mP_sT, hP]) (fun k => b 23 (by omega) k 0) (fun u => b 4 (by omega) 5 u) (fun j => b 16 (by omega) j 0) (fun u => b 3 (by omega) 0 u) wrd
  · exact bnd_cg hN (fun u => b 4 (by omega) 7 u) (b 6 (by omega) 9 0) (b 6 (by omega) 11 0) (fun j => b 15 (by omega) j 0) (b 7 (by omega) 28 0) bnd
/-- the reference's memory after the call, but for the rows that nobody reads -/
theorem sm_end {X : Mem} {km jm im : Nat} {v' : Int32} {z : Int64} (h : km ≠ 7) : Sm (sT X km jm im v') (sT (sT (sJ X 39 0 0 z) 7 19 0 0) km jm im v') ∧ mT (sT (sT (sJ X 39 0 0 z) 7 19 0 0) km jm im v') 7 19 0 = 0 ∧ mJ (sT (sT (sJ X 39 0 0 z) 7 19 0 0) km jm im v') 39 0 0 = mJ (sJ X 39 0 0 z) 39 0 0 := by
  refine ⟨⟨rfl, rfl, rfl, fun k j u y _ => by rw [mT_sT, mT_sT, mT_sT, if_neg (c := k = 7 ∧ j = 19 ∧ u = 0) (fun w => y ⟨w.1, w.2.1⟩)]; rfl, fun k j u y => if_neg (fun w => y w.1)⟩, ?_, rfl⟩
  rw [mT_sT, if_neg (fun y => h y.1.symm), mT_sT, if_pos ⟨rfl, rfl, rfl⟩]
-- learn
theorem RC_skill {D M : Mem} {a : Nat} {v : Int32} (r : RC D M) : RC (sT D 0 1 a v) (sT M 36 a 0 v) := by
  obtain ⟨r1, r2, r3, r4, r5, r6, r7, r8, r9⟩ := r
  refine ⟨r1, r2, r3, r4, r5, r6, r7, fun b hb => ?_, r9⟩
  obtain ⟨c1, c2⟩ := r8 b hb
  refine ⟨?_, c2⟩
  rw [mT_sT, mT_sT]
  by_cases e : b = a
  · rw [if_pos ⟨rfl, e, rfl⟩, if_pos ⟨rfl, rfl, e⟩]
  · rw [if_neg (fun z => e z.2.1), if_neg (fun z => e z.2.2)]; exact c1
theorem skill_fin : ∀ q : Fin 64, ∀ y : Fin 6, nI q.1 ||| ((1 : Int32) <<< (nI y.1 &&& 31)) = nI (q.1 ||| 2 ^ y.1) ∧ q.1 ||| 2 ^ y.1 < 64 := by decide +kernel
theorem sT_ne {M : Mem} {k j i : Nat} {v : Int32} {a b c : Nat} (h : ¬ (a = k ∧ b = j ∧ c = i)) : mT (sT M k j i v) a b c = mT M a b c := if_neg h
theorem inv_learn {t a : Nat} {M : Mem} {v : Int32} (I : INV t M) (hv : ∃ q, q < 64 ∧ v = nI q) : RC M (sT M 0 1 a v) ∧ INV (t + 1) (sT (sT M 0 1 a v) 36 a 0 v) := by
  have nk : ∀ k, k ≠ 0 → ∀ j u, mT (sT M 0 1 a v) k j u = mT M k j u := fun k h j u => sT_ne (fun z => h z.1)
  have nj : ∀ j, j ≠ 1 → ∀ u, mT (sT M 0 1 a v) 0 j u = mT M 0 j u := fun j h u => sT_ne (fun z => h z.2.1)
  refine inv_cell (Z := sT M 0 1 a v) I (by decide) (wf_skill I.wf) (qi_cg (A := M) rfl (fun _ => rfl) (fun _ => rfl) (nk 4 (by decide)) (nk 1 (by decide) 1) (fun j => nk 15 (by decide) j 0) (fun _ => rfl) I.qi) rfl rfl rfl rfl (fun _ => rfl) rfl (fun k j u h => nk k (by omega) j u) (fun _ _ => rfl) (RC_skill I.rc)
    (num_cg (A := M) rfl (nj 0 (by decide)) (nk 2 (by decide) 0) (nk 4 (by decide) 0) I.num) (ml_cg (A := M) rfl (fun _ => rfl) (fun _ => rfl) I.ml) ?_ I.2.2.2.2.2.2.2.1 (held_cg (A := M) rfl (nj 3 (by decide)) (fun _ => rfl) I.held)
    (wrd_cg (A := M) rfl (fun _ => rfl) (fun k => nk 23 (by decide) k 0) (nk 4 (by decide) 5) (fun j => nk 16 (by decide) j 0) (nk 3 (by decide) 0) I.2.2.2.2.2.2.2.2.2.1) (bnd_cg (A := M) rfl (nk 4 (by decide) 7) (nk 6 (by decide) 9 0) (nk 6 (by decide) 11 0) (fun j => nk 15 (by decide) j 0) (nk 7 (by decide) 28 0) (inv_up I).bnd)
  obtain ⟨c1, c2, c3⟩ := I.cel
  refine ⟨fun u => ?_, fun b => ⟨?_, ?_⟩, ?_⟩
  · rw [nk 4 (by decide), nk 4 (by decide)]; exact c1 u
  · rw [nj 2 (by decide)]; exact (c2 b).1
  · rw [mT_sT]
    by_cases e : b = a
    · rw [if_pos ⟨rfl, rfl, e⟩]; exact hv
    · rw [if_neg (fun z => e z.2.2)]; exact (c2 b).2
  · have e3 := nk 3 (by decide)
    have e14 := nk 14 (by decide)
    have e23 := nk 23 (by decide)
    have e03 := nj 3 (by decide)
    simpa only [mN_sT, e3, e14, e23, e03] using c3
/-- learn -/
theorem pu_17 {t : Nat} {M : Mem} (I : INV t M) (ht : t < 512) (x y : Int32) (M1 M2 : Mem) (hM1 : M1 = if rLearn M x y = 0 then sJ (sT M 0 1 (ix x) (mT M 0 1 (ix x) ||| (1 <<< (y &&& 31)))) 39 0 0 ((popC (mT M 0 1 (ix x) ||| (1 <<< (y &&& 31)))).toInt64) else M) (hM2 : M2 = if rLearn M x y = 0 then sT (sT M1 7 19 0 0) 36 (ix x) 0 (mT M 0 1 (ix x) ||| 1 <<< (y &&& 31)) else sT M1 7 19 0 (thI (rLearn M x y))) : (mN (sT M 0 1 (ix x) (mT M 0 1 (ix x) ||| (1 <<< (y &&& 31)))) 39 = 1) ∧ RC M M1 ∧ 0 < mN M1 7 ∧ 0 < mN M2 7 ∧ 0 < mN M2 39 ∧ rLearn M x y < 100 ∧ mT M2 7 19 0 = nI (rLearn M x y) ∧ (rLearn M x y = 0 → mJ M2 39 0 0 = ((if rLearn M x y = 0 then btN (mT M 0 1 (ix x) ||| 1 <<< (y &&& 31)) 10 else 0)).toInt64) ∧ INV (t + 1) M2 := by
  have hi : rLearn M x y = 0 → ∃ q, q < 64 ∧ (mT M 0 1 (ix x) ||| 1 <<< (y &&& 31)) = nI q := fun h => by
    unfold rLearn at h
    by_cases hx : inN x (mN M 0) = true
    · rw [if_pos hx] at h
      by_cases hy : inB y 0 5 = true
      · obtain ⟨y1, y2⟩ := inB_ix (x := y) (n := 6) hy (by omega)
        obtain ⟨q, q1, q2⟩ := (I.cel.2.1 (ix x)).2
        have z := skill_fin ⟨q, q1⟩ ⟨ix y, y1⟩
        refine ⟨_, z.2, ?_⟩
        rw [q2]
        have z1 := z.1
        dsimp only at z1
        rw [← y2] at z1
        exact z1
      · rw [if_neg hy] at h; cases h
    · rw [if_neg hx] at h; cases h
  have hX := fun h => inv_learn (a := ix x) I (hi h)
  refine ⟨I.n39, pu_write (Y := sT (sT M 0 1 (ix x) (mT M 0 1 (ix x) ||| 1 <<< (y &&& 31))) 36 (ix x) 0 (mT M 0 1 (ix x) ||| 1 <<< (y &&& 31))) I rfl hM1 (by unfold rLearn; (repeat' split) <;> omega) rfl (fun h => ?_) (fun h => (hX h).1) (fun h => ?_) (fun h => ?_) (fun h => (hX h).2)⟩
  · rw [if_pos h]
    obtain ⟨q, q1, q2⟩ := hi h
    rw [pop_bt (by omega) q2]
  · rw [hM2, if_pos h, hM1, if_pos h]
    exact sm_end (by decide)
  · rw [hM2, if_neg h]
