theorem RC_state {D M : Mem} {t : Nat} {v : Int32} (r : RC D M) : RC (sT D 4 6 t v) (sT M 33 t 0 v) := by
  obtain ⟨r1, r2, r3, r4, r5, r6, r7⟩ := r
  refine ⟨r1, r2, r3, r4, r5, fun u hu => ?_, r7⟩
  obtain ⟨a1, a2, a3, a4, a5, a6, a7, a8, a9, a10, a11⟩ := r6 u hu
  refine ⟨a1, a2, a3, a4, a5, a6, a7, a8, a9, ?_, a11⟩
  rw [mT_sT, mT_sT]
  by_cases e : u = t
  · rw [if_pos ⟨rfl, e, rfl⟩, if_pos ⟨rfl, rfl, e⟩]
  · rw [if_neg (fun z => e z.2.1), if_neg (fun z => e z.2.2)]; exact a10
theorem l8_jq {M : Mem} {i t : Nat} : mL (jqM M i) 8 t = mL M 8 t := by
  unfold jqM
  split
  · show mL (sC (sL M 9 _ _) 9 _ 0) 8 t = _
    rw [mL_sC, mL_sL, if_neg (fun z => absurd z.1 (by decide))]
  · rfl
/-- a ticket's state changes, and the lines -/
theorem inv_state {t i : Nat} {M X : Mem} {v : Int32} (I : INV t M) (w : Wf X) (q : QI X) (hv : v = 111 ∨ v = 104) (hs : mT M 4 6 i ≠ 109) (hN : mN X = mN M) (hP : mP X = mP M) (hT : ∀ k j u, mT X k j u = mT (sT M 4 6 i v) k j u) (hJ : mJ X = mJ M) (hL : ∀ u, mL X 8 u = mL M 8 u) : RC M X ∧ INV (t + 1) (sT X 33 i 0 v) := by
  have ne : ∀ k j u, ¬ (k = 4 ∧ j = 6) → mT X k j u = mT M k j u := fun k j u h => by
    rw [hT]
    exact if_neg (fun z => h ⟨z.1, z.2.1⟩)
  have n4 : ∀ k, k ≠ 4 → ∀ j u, mT X k j u = mT M k j u := fun k h j u => ne k j u (fun z => h z.1)
  have b33 : ∀ k, k ≠ 33 → ∀ j u, mT (sT X 33 i 0 v) k j u = mT X k j u := fun k h j u => if_neg (fun z => h z.1)
  have rX : RC M X := rc_cg ⟨rfl, rfl, fun _ _ _ _ => rfl, fun _ _ => rfl⟩ ⟨hN, fun j u _ => n4 7 (by decide) j u, fun k j u h1 h2 => n4 k (by omega) j u, fun j u => by rw [hJ]⟩ I.rc
  refine ⟨rX, ?_⟩
  have c := I.cel
  have I1 := inv_up I
  refine ⟨wf_sT (by simp) (by simp) w, ?_, ⟨by rw [mN_sT, hN]; exact I.n39, by rw [mN_sT, hN]; exact I.n40⟩, ?_, ?_, ?_, ?_, ?_, ?_, ?_, ?_⟩
  · refine rc_cg (A := sT M 4 6 i v) (M := sT M 33 i 0 v) ⟨hN, hP, fun k hk j u => ?_, fun j u => by rw [mJ_sT, hJ]; rfl⟩ ⟨hN, fun j u _ => ?_, fun k j u h1 h2 => ?_, fun j u => by rw [mJ_sT, hJ]; rfl⟩ (RC_state I.rc)
    · rw [b33 k (by omega), hT]
    · rw [b33 7 (by decide), n4 7 (by decide), mT_sT, if_neg (fun z => absurd z.1 (by decide))]
    · rw [mT_sT, mT_sT, n4 k (by omega)]
  · exact num_cg hN (fun u => n4 0 (by decide) 0 u) (fun u => n4 2 (by decide) 0 u) (fun u => ne 4 0 u (by decide)) I.num
  · exact qi_cg rfl (fun _ => rfl) (fun _ => rfl) (fun j u => b33 4 (by decide) j u) (fun u => b33 1 (by decide) 1 u) (fun j => b33 15 (by decide) j 0) (fun _ => rfl) q
  · exact ml_cg hN (fun u => hL u) (fun k => by rw [mP_sT, hP]) I.ml
  · obtain ⟨c1, c2, c3, c4, c5, c6⟩ := c
    refine ⟨fun u => ?_, fun a => ?_, fun a ha => ?_, fun k hk => ?_, fun a ha => ?_, fun a ha p hp => ?_⟩
    · obtain ⟨d1, d2, d3, d4, d5⟩ := c1 u
      rw [b33 4 (by decide), b33 4 (by decide), hT, ne 4 8 u (by decide)]
      refine ⟨?_, d2, fun z => ?_, fun z => ?_, fun hu => ?_⟩
      · rw [mT_sT]
        by_cases e : u = i
        · rw [if_pos ⟨rfl, rfl, e⟩]
          rcases hv with h | h <;> rw [h]
          · exact Or.inr (Or.inl rfl)
          · exact Or.inr (Or.inr (Or.inl rfl))
        · rw [if_neg (fun z => e z.2.2)]
          exact d1
      · show mL X 8 u = []
        rw [hL]
        rw [mT_sT] at z
        by_cases e : u = i
        · rw [if_pos ⟨rfl, rfl, e⟩] at z
          rcases hv with h | h <;> rw [h] at z <;> exact absurd z (by decide)
        · rw [if_neg (fun y => e y.2.2)] at z
          exact d3 z
      · rw [mP_sT, hP] at z
        rw [mT_sT]
        by_cases e : u = i
        · exact absurd (e ▸ d4 z) hs
        · rw [if_neg (fun y => e y.2.2)]
          exact d4 z
      · rw [mN_sT, hN] at hu
        rw [mT_sT]
        by_cases e : u = i
        · rw [if_pos ⟨rfl, rfl, e⟩]
          rcases hv with h | h <;> rw [h] <;> decide
        · rw [if_neg (fun y => e y.2.2)]
          exact d5 hu
    · rw [b33 0 (by decide), b33 0 (by decide), n4 0 (by decide), n4 0 (by decide)]; exact c2 a
    · rw [b33 0 (by decide), n4 0 (by decide)]; exact c3 a (by rw [← hN]; exact ha)
    · rw [b33 23 (by decide), n4 23 (by decide)]; exact c4 k (by rw [← hN]; exact hk)
    · rw [b33 3 (by decide), n4 3 (by decide)]; exact c5 a (by rw [← hN]; exact ha)
    · rw [b33 14 (by decide), n4 14 (by decide)]; exact c6 a (by rw [← hN]; exact ha) p hp
  · obtain ⟨rk, h⟩ := I.2.2.2.2.2.2.2.1
    exact ⟨rk, fun u y hy => h u y (by rw [← hP]; exact hy)⟩
  · exact held_cg hN (fun u => n4 0 (by decide) 3 u) (fun u => by rw [mP_sT, hP]) I.held
  · exact wrd_cg hN (fun k => by rw [mP_sT, hP]) (fun k => n4 23 (by decide) k 0) (fun u => ne 4 5 u (by decide)) (fun j => n4 16 (by decide) j 0) (fun u => n4 3 (by decide) 0 u) I.2.2.2.2.2.2.2.2.2.1
  · exact bnd_cg hN (fun u => ne 4 7 u (by decide)) (n4 6 (by decide) 9 0) (n4 6 (by decide) 11 0) (fun j => n4 15 (by decide) j 0) (n4 7 (by decide) 28 0) I1.bnd
/-- hold -/
theorem pu_27 {t : Nat} {M : Mem} (I : INV t M) (ht : t < 512) (x : Int32) (M1 M2 : Mem) (hM1 : M1 = if rHold M x = 0 then sJ (sT (lqM M (ix x)) 4 6 (ix x) 104) 39 0 0 ((mT (lqM M (ix x)) 4 7 (ix x)).toInt64) else M) (hM2 : M2 = if rTurns M x 111 = 0 then sT (sT M1 7 19 0 0) 33 (ix x) 0 104 else sT M1 7 19 0 (thI (rTurns M x 111))) : (mN (sT (lqM M (ix x)) 4 6 (ix x) 104) 39 = 1) ∧ RC M M1 ∧ 0 < mN M1 7 ∧ 0 < mN M2 7 ∧ 0 < mN M2 39 ∧ rHold M x < 100 ∧ mT M2 7 19 0 = nI (rHold M x) ∧ (rHold M x = 0 → mJ M2 39 0 0 = ((if rTurns M x 111 = 0 then mT M 4 7 (ix x) else 0)).toInt64) ∧ INV (t + 1) M2 := by
  have hr : rTurns M x 111 = rHold M x := rfl
  have hi : rHold M x = 0 → ix x < mN M 4 ∧ mT M 4 6 (ix x) = 111 := fun h => by
    unfold rHold at h
    by_cases hx : inN x (mN M 4) = true
    · rw [if_pos hx] at h
      by_cases hs : mT M 4 6 (ix x) = 111
      · exact ⟨(inN_ix hx (by have := wn4 I.wf; omega)).1, hs⟩
      · rw [if_neg hs] at h; cases h
    · rw [if_neg hx] at h; cases h
  have hX := fun h => inv_state (i := ix x) (v := 104) I (wf_sT (by decide) (by decide) (wf_lq I.wf (hi h).1)) (QI_hold I.wf I.qi (hi h).1) (by simp) (by rw [(hi h).2]; decide) mN_lq mP_lq (fun k j u => by rw [mT_sT, mT_sT, mT_lq]) mJ_lq (fun u => l8_lq)
  have hn : mN (sT (lqM M (ix x)) 4 6 (ix x) 104) = mN M := mN_lq
  refine ⟨by rw [hn]; exact I.n39, pu_write (Y := sT (sT (lqM M (ix x)) 4 6 (ix x) 104) 33 (ix x) 0 104) I hr hM1 (by unfold rHold; (repeat' split) <;> omega) hn (fun h => ?_) (fun h => (hX h).1) (fun h => ?_) (fun h => ?_) (fun h => (hX h).2)⟩
  · rw [if_pos (hr.trans h)]
    rw [mT_lq]
  · rw [hM2, if_pos (hr.trans h), hM1, if_pos h]
    exact ⟨⟨rfl, rfl, rfl, fun k j u z _ => by rw [mT_sT, mT_sT, mT_sT, if_neg (c := k = 7 ∧ j = 19 ∧ u = 0) (fun y => z ⟨y.1, y.2.1⟩)]; rfl, fun k j u z => if_neg (fun y => z y.1)⟩, rfl, rfl⟩
  · rw [hM2, if_neg (by rw [hr]; exact h), hr]
theorem out_line {t i q : Nat} {M : Mem} (I : INV t M) (hq : q < 6) (h : waM M i = false) : i ∉ mL M 9 q := fun z => by
  have := (((I.qi q hq).1 i).mp z).2.1
  rw [h] at this
  cases this
theorem wf_res {t i : Nat} {M : Mem} (I : INV t M) (hi : i < mN M 4) (hs : mT M 4 6 i = 104) : Wf (jqM (sT M 4 6 i 111) i) := by
  refine wf_jq (wf_sT (by decide) (by decide) I.wf) hi (fun _ z => ?_)
  have e : toM (sT M 4 6 i 111) i = toM M i := by
    unfold toM
    rw [mT_sT, if_neg (fun z => absurd z.2.1 (by decide))]
  rw [e] at z
  refine out_line I (I.wf.2.2.1 i hi).2.2.2.1 ?_ z
  unfold waM stM
  rw [hs]
  rfl
/-- resume -/
theorem pu_28 {t : Nat} {M : Mem} (I : INV t M) (ht : t < 512) (x : Int32) (M1 M2 : Mem) (hM1 : M1 = if rResume M x = 0 then sJ (jqM (sT M 4 6 (ix x) 111) (ix x)) 39 0 0 ((mT (jqM (sT M 4 6 (ix x) 111) (ix x)) 4 7 (ix x)).toInt64) else M) (hM2 : M2 = if rTurns M x 104 = 0 then sT (sT M1 7 19 0 0) 33 (ix x) 0 111 else sT M1 7 19 0 (thI (rTurns M x 104))) : (mN (jqM (sT M 4 6 (ix x) 111) (ix x)) 39 = 1) ∧ RC M M1 ∧ 0 < mN M1 7 ∧ 0 < mN M2 7 ∧ 0 < mN M2 39 ∧ rResume M x < 100 ∧ mT M2 7 19 0 = nI (rResume M x) ∧ (rResume M x = 0 → mJ M2 39 0 0 = ((if rTurns M x 104 = 0 then mT M 4 7 (ix x) else 0)).toInt64) ∧ INV (t + 1) M2 := by
  have hr : rTurns M x 104 = rResume M x := rfl
  have hi : rResume M x = 0 → ix x < mN M 4 ∧ mT M 4 6 (ix x) = 104 := fun h => by
    unfold rResume at h
    by_cases hx : inN x (mN M 4) = true
    · rw [if_pos hx] at h
      by_cases hs : mT M 4 6 (ix x) = 104
      · exact ⟨(inN_ix hx (by have := wn4 I.wf; omega)).1, hs⟩
      · rw [if_neg hs] at h; cases h
    · rw [if_neg hx] at h; cases h
  have hX := fun h => inv_state (i := ix x) (v := 111) I (wf_res I (hi h).1 (hi h).2) (QI_resume I.wf I.num I.qi (hi h).1 (hi h).2) (by simp) (by rw [(hi h).2]; decide) mN_jq mP_jq (fun k j u => by rw [mT_jq]) mJ_jq (fun u => l8_jq)
  have hn : mN (jqM (sT M 4 6 (ix x) 111) (ix x)) = mN M := mN_jq
  refine ⟨by rw [hn]; exact I.n39, pu_write (Y := sT (jqM (sT M 4 6 (ix x) 111) (ix x)) 33 (ix x) 0 111) I hr hM1 (by unfold rResume; (repeat' split) <;> omega) hn (fun h => ?_) (fun h => (hX h).1) (fun h => ?_) (fun h => ?_) (fun h => (hX h).2)⟩
  · rw [if_pos (hr.trans h)]
    rw [mT_jq, mT_sT, if_neg (fun z => absurd z.2.1 (by decide))]
  · rw [hM2, if_pos (hr.trans h), hM1, if_pos h]
    exact ⟨⟨rfl, rfl, rfl, fun k j u z _ => by rw [mT_sT, mT_sT, mT_sT, if_neg (c := k = 7 ∧ j = 19 ∧ u = 0) (fun y => z ⟨y.1, y.2.1⟩)]; rfl, fun k j u z => if_neg (fun y => z y.1)⟩, rfl, rfl⟩
  · rw [hM2, if_neg (by rw [hr]; exact h), hr]
