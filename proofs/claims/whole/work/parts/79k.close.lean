theorem cls_T {M : Mem} {i k j u : Nat} (h4 : k ≠ 4) (h14 : k ≠ 14) : mT (clsM M i) k j u = mT M k j u := by
  unfold clsM cls0
  rw [mT_sT, if_neg (fun z => h4 z.1), mT_sT, if_neg (fun z => h4 z.1)]
  cases mP M 4 11 i with
  | none => rfl
  | some q => exact sT_ne (fun z => h14 z.1)
theorem cls_4 {M : Mem} {i u : Nat} : mT (clsM M i) 4 6 u = mT (sT M 4 6 i 99) 4 6 u := by
  unfold clsM cls0
  rw [mT_sT, if_neg (fun z => absurd z.2.1 (by decide)), mT_sT, mT_sT]
  cases mP M 4 11 i with
  | none => rfl
  | some q => rfl
theorem cls_N {M : Mem} {i : Nat} : mN (clsM M i) = mN M := by
  unfold clsM cls0
  cases mP M 4 11 i with
  | none => rfl
  | some q => rfl
theorem cls_J {M : Mem} {i : Nat} : mJ (clsM M i) = mJ M := by
  unfold clsM cls0
  cases mP M 4 11 i with
  | none => rfl
  | some q => rfl
theorem cc_cg {A B : Mem} (h : ∀ u, mT B 4 6 u = mT A 4 6 u) : ∀ n, ccN B n = ccN A n
  | 0 => rfl
  | n + 1 => by
    unfold ccN
    rw [cc_cg h n, h]
theorem INV.wgt {t i : Nat} {M : Mem} (I : INV t M) (hi : i < mN M 4) : ∀ q, mP M 4 11 i = some q → ∃ z, z ≤ 9 ∧ mT M 14 (toM M i) q = nI z := fun q h =>
  I.cel.2.2.2.2.2 q ((I.wf.2.2.1 i hi).2.2.2.2.2.1 q h) (toM M i) (I.wf.2.2.1 i hi).2.2.2.1
/-- close -/
theorem pu_30 {t : Nat} {M : Mem} (I : INV t M) (ht : t < 512) (x : Int32) (M1 M2 : Mem) (hM1 : M1 = if rClose M x = 0 then sJ (clsM M (ix x)) 39 0 0 ((ccN (clsM M (ix x)) (mN M 4)).toInt64) else M) (hM2 : M2 = if rClose M x = 0 then sT (sT (lrnR M (sT M1 7 19 0 0) (ix x) 1) 33 (ix x) 0 99) 30 (ix x) 0 (mT M 6 9 0) else sT M1 7 19 0 (thI (rClose M x))) : (mN (clsM M (ix x)) 39 = 1) ∧ RC M M1 ∧ 0 < mN M1 7 ∧ 0 < mN M2 7 ∧ 0 < mN M2 39 ∧ rClose M x < 100 ∧ mT M2 7 19 0 = nI (rClose M x) ∧ (rClose M x = 0 → mJ M2 39 0 0 = ((if rClose M x = 0 then ccN (sT M 4 6 (ix x) 99) (mN M 4) else 0)).toInt64) ∧ INV (t + 1) M2 := by
  have hi : rClose M x = 0 → ix x < mN M 4 ∧ mT M 4 6 (ix x) = 97 := fun h => by
    unfold rClose at h
    by_cases hx : inN x (mN M 4) = true
    · rw [if_pos hx] at h
      by_cases hs : mT M 4 6 (ix x) = 97
      · exact ⟨(inN_ix hx (by have := wn4 I.wf; omega)).1, hs⟩
      · rw [if_neg hs] at h; cases h
    · rw [if_neg hx] at h; cases h
  have hmo : RC M (clsM M (ix x)) := rc_mo ⟨fun _ _ => by rw [cls_N], fun j u _ => cls_T (by decide) (by decide), fun k j u h1 h2 => cls_T (by omega) (by omega), fun j u => by rw [cls_J]⟩ I.rc
  refine ⟨by rw [cls_N]; exact I.n39, pu_end I rfl hM1 (by unfold rClose; (repeat' split) <;> omega) (fun h => ?_) (fun _ => hmo) (fun h => ?_) (fun h => by rw [hM2, if_neg h]) (fun h => ?_)⟩
  · rw [if_pos h, cc_cg (A := sT M 4 6 (ix x) 99) (fun u => cls_4)]
  · rw [hM2, if_pos h]
    refine ⟨?_, ?_⟩
    · rw [mT_sT, if_neg (fun z => absurd z.1 (by decide)), mT_sT, if_neg (fun z => absurd z.1 (by decide)), mT_lrn (by decide), mT_sT, if_pos ⟨rfl, rfl, rfl⟩]
    · rw [mJ_sT, mJ_sT, mJ_lrn, mJ_sT]
  · obtain ⟨h4, hs⟩ := hi h
    have hlive := I.live (i := ix x) (by rw [hs]; decide)
    have e1 : EqD (clsM M (ix x)) M2 := by
      rw [hM2, if_pos h, hM1, if_pos h]
      exact EqD.sT (Or.inr (by decide)) (EqD.sT (Or.inr (by decide)) (eqd_lrn EqD.row))
    have w0 : Wf (cls0 M (ix x)) := by
      unfold cls0
      cases mP M 4 11 (ix x) with
      | none => exact I.wf
      | some q => exact wf_gain I.wf
    have n0 : mN (cls0 M (ix x)) = mN M := cls_N
    have p0 : mP (cls0 M (ix x)) = mP M := by
      unfold cls0
      cases mP M 4 11 (ix x) with
      | none => rfl
      | some q => rfl
    have d0 : Dk (t + 1) (cls0 M (ix x)) := by
      unfold cls0
      cases e : mP M 4 11 (ix x) with
      | none => exact dk_up I.dk
      | some q =>
        obtain ⟨z, z1, z2⟩ := I.wgt h4 q e
        show Dk (t + 1) (sT M 14 (toM M (ix x)) q _)
        rw [z2, (gain_ok ⟨z, by omega⟩).1]
        exact dk_wgt (by split <;> omega) (dk_up I.dk)
    have dX : Dk (t + 1) (clsM M (ix x)) := dk_T (by decide) (dk_st (by simp) (by
      show mP (sP (cls0 M (ix x)) 4 11 (ix x) none) 4 13 (ix x) = none
      rw [mP_sP, if_neg (fun z => absurd z.2.1 (by decide)), p0]
      exact hlive) (dk_sent d0))
    refine inv_ref (X := clsM M (ix x)) (wf_sT (by decide) (by decide) (wf_st (wf_sent w0 (fun a z => nomatch z)))) (QI_cls I.qi hs) dX e1 (by rw [cls_N]; exact I.n39) (by rw [cls_N]; exact I.n40) ?_ (I.b28 ?_)
    · rw [hM2, if_pos h, hM1, if_pos h]
      exact RC_closed (RC_state (RC_cls (rc_row hmo) (I.wf.2.2.1 _ h4) (I.wgt h4))) (by show ix x < mN (cls0 M (ix x)) 4; rw [n0]; exact h4)
    · rw [hM2, if_pos h, hM1, if_pos h, mT_sT, if_neg (fun z => absurd z.1 (by decide)), mT_sT, if_neg (fun z => absurd z.1 (by decide)), mT_lrn (by decide), mT_sT, if_neg (fun z => absurd z.2.1 (by decide))]
      rw [mT_sJ]
      exact cls_T (by decide) (by decide)
