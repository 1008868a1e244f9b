theorem hov_T {M : Mem} {i a k j u : Nat} (h0 : ¬ (k = 0 ∧ j = 3)) (h4 : ¬ (k = 4 ∧ j = 10)) : mT (hovM M i a) k j u = mT M k j u := by
  unfold hovM joinM
  rw [mT_sT, if_neg (fun z => h4 ⟨z.1, z.2.1⟩), mT_sT, if_neg (fun z => h0 ⟨z.1, z.2.1⟩), mT_sP, mT_leave h0]
theorem hov_N {M : Mem} {i a : Nat} : mN (hovM M i a) = mN M := mN_leave
theorem hov_J {M : Mem} {i a : Nat} : mJ (hovM M i a) = mJ M := leave_J
theorem hov_10 {M : Mem} {i a : Nat} : mT (joinM (leaveM M i) i a) 4 10 i = mT M 4 10 i := by
  unfold joinM
  rw [mT_sT, if_neg (fun z => absurd z.1 (by decide)), mT_sP, mT_leave (fun z => absurd z.1 (by decide))]
theorem RC_hov {M N : Mem} {i a : Nat} (r : RC M N) (hi : i < mN M 4) (hp : mP M 4 9 i ≠ none) : RC (hovM M i a) (sT (sT N 28 i 0 (nI a)) 29 i 0 (mT M 4 10 i + 1)) := by
  cases e : mP M 4 9 i with
  | none => exact absurd e hp
  | some b =>
    unfold hovM
    rw [hov_10]
    unfold joinM
    rw [leave_T e, sP_two]
    exact RC_hand (RC_held (RC_agent (o := some a) (RC_held r))) hi
/-- handOver -/
theorem pu_25 {t : Nat} {M : Mem} (I : INV t M) (ht : t < 512) (x y : Int32) (M1 M2 : Mem) (hM1 : M1 = if rHandOver M x y = 0 then sJ (hovM M (ix x) (ix y)) 39 0 0 ((mT (hovM M (ix x) (ix y)) 4 10 (ix x)).toInt64) else M) (hM2 : M2 = if rHandM M x y = 0 then sT (sT (sT M1 7 19 0 0) 28 (ix x) 0 y) 29 (ix x) 0 (mT M 4 10 (ix x) + 1) else sT M1 7 19 0 (thI (rHandM M x y))) : (mN (hovM M (ix x) (ix y)) 39 = 1) ∧ RC M M1 ∧ 0 < mN M1 7 ∧ 0 < mN M2 7 ∧ 0 < mN M2 39 ∧ rHandOver M x y < 100 ∧ mT M2 7 19 0 = nI (rHandOver M x y) ∧ (rHandOver M x y = 0 → mJ M2 39 0 0 = ((if rHandM M x y = 0 then mT M 4 10 (ix x) + 1 else 0)).toInt64) ∧ INV (t + 1) M2 := by
  have hr : rHandM M x y = rHandOver M x y := by
    unfold rHandM rHandOver
    by_cases hx : inN x (mN M 4) = true ∧ inN y (mN M 0) = true
    · have a1 := (inN_ix hx.2 (by have := wn0 I.wf; omega)).1
      obtain ⟨q, q1, q2⟩ := I.cel.2.2.1 (ix y) a1
      have f := (held_fin ⟨q, by omega⟩).1
      rw [if_pos hx, if_pos hx, ← I.held _ a1, q2]
      simp only [f]
    · rw [if_neg hx, if_neg hx]
  have hi : rHandOver M x y = 0 → ix x < mN M 4 ∧ (ix y < mN M 0 ∧ y = nI (ix y)) ∧ mP M 4 9 (ix x) ≠ none ∧ mP M 4 9 (ix x) ≠ some (ix y) ∧ mT M 0 3 (ix y) < 3 := fun h => by
    unfold rHandOver at h
    by_cases hx : inN x (mN M 4) = true ∧ inN y (mN M 0) = true
    · rw [if_pos hx] at h
      by_cases c : mP M 4 9 (ix x) = none ∨ mP M 4 9 (ix x) = some (ix y) ∨ ¬ mT M 0 3 (ix y) < 3
      · rw [if_pos c] at h; cases h
      · exact ⟨(inN_ix hx.1 (by have := wn4 I.wf; omega)).1, inN_ix hx.2 (by have := wn0 I.wf; omega), fun z => c (Or.inl z), fun z => c (Or.inr (Or.inl z)), Decidable.not_not.mp (fun z => c (Or.inr (Or.inr z)))⟩
    · rw [if_neg hx] at h; cases h
  have hmo : RC M (hovM M (ix x) (ix y)) := rc_mo ⟨fun _ _ => by rw [hov_N], fun j u _ => hov_T (fun z => absurd z.1 (by decide)) (fun z => absurd z.1 (by decide)), fun k j u h1 h2 => hov_T (fun z => by omega) (fun z => by omega), fun j u => by rw [hov_J]⟩ I.rc
  refine ⟨by rw [hov_N]; exact I.n39, pu_end I hr hM1 (by unfold rHandOver; (repeat' split) <;> omega) (fun h => ?_) (fun _ => hmo) (fun h => ?_) (fun h => by rw [hM2, if_neg (fun z => h (hr.symm.trans z)), hr]) (fun h => ?_)⟩
  · rw [if_pos (hr.trans h)]
    unfold hovM
    rw [mT_sT, if_pos ⟨rfl, rfl, rfl⟩, hov_10]
  · rw [hM2, if_pos (hr.trans h)]
    exact ⟨rfl, rfl⟩
  · obtain ⟨h4, ⟨ha, hy⟩, hp, hq, h3⟩ := hi h
    have n4 := wn4 I.wf
    have e1 : EqD (hovM M (ix x) (ix y)) M2 := by
      rw [hM2, if_pos (hr.trans h), hM1, if_pos h]
      exact EqD.sT (Or.inr (by decide)) (EqD.sT (Or.inr (by decide)) EqD.row)
    have hw9 := fun a => (I.wf.2.2.1 _ h4).2.2.2.2.1 a
    have j3 : mT (leaveM M (ix x)) 0 3 (ix y) < 3 := by
      cases e : mP M 4 9 (ix x) with
      | none => exact absurd e hp
      | some b =>
        rw [leave_T e, mT_sP, mT_sT, if_neg (fun z => hq (by rw [e, z.2.2]))]
        exact h3
    have d1 : Dk (t + 1) (hovM M (ix x) (ix y)) := dk_T (by decide) (dk_join (dk_leave (dk_up I.dk) n4 h4 hw9) (by rw [mN_leave]; exact h4) (by rw [mN_leave]; exact ha) (by rw [mP_leave, if_pos ⟨rfl, rfl, rfl⟩]) j3)
    have w1 : Wf (hovM M (ix x) (ix y)) := wf_sT (by decide) (by decide) (wf_joinA (wf_leave I.wf) (by rw [mN_leave]; exact ha))
    have q1 : QI (hovM M (ix x) (ix y)) := by
      cases e : mP M 4 9 (ix x) with
      | none => exact absurd e hp
      | some b => exact QI_hov I.qi e
    refine inv_ref (X := hovM M (ix x) (ix y)) w1 q1 d1 e1 (by rw [hov_N]; exact I.n39) (by rw [hov_N]; exact I.n40) ?_ (I.b28 ?_)
    · rw [hM2, if_pos (hr.trans h), hM1, if_pos h]
      have q := RC_hov (a := ix y) (rc_row (v := (mT (hovM M (ix x) (ix y)) 4 10 (ix x)).toInt64) (u := 0) hmo) h4 hp
      rw [← hy] at q
      exact q
    · rw [hM2, if_pos (hr.trans h), hM1, if_pos h, mT_sT, if_neg (fun z => absurd z.1 (by decide)), mT_sT, if_neg (fun z => absurd z.1 (by decide)), mT_sT, if_neg (fun z => absurd z.2.1 (by decide))]
      rw [mT_sJ]
      exact hov_T (fun z => absurd z.1 (by decide)) (fun z => absurd z.1 (by decide))
