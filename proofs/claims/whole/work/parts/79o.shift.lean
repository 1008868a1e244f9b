theorem gb_P {M : Mem} {a k : Nat} : ∀ n, mP (gbN M a n) 4 9 k = if k < n ∧ mP M 4 9 k = some a then none else mP M 4 9 k
  | 0 => by rw [if_neg (fun z => Nat.not_lt_zero _ z.1)]; rfl
  | n + 1 => by
    have ih := gb_P (M := M) (a := a) (k := k) n
    have ihn := gb_P (M := M) (a := a) (k := n) n
    rw [if_neg (fun z => Nat.lt_irrefl _ z.1)] at ihn
    show mP (gbS (gbN M a n) a n) 4 9 k = _
    unfold gbS
    by_cases h : mP M 4 9 n = some a
    · rw [if_pos (ihn.trans h), mP_jq, mP_leave]
      by_cases e : k = n
      · subst e
        rw [if_pos ⟨rfl, rfl, rfl⟩, if_pos ⟨Nat.lt_succ_self _, h⟩]
      · rw [if_neg (fun z => e z.2.2), ih]
        by_cases g : k < n ∧ mP M 4 9 k = some a
        · rw [if_pos g, if_pos ⟨by omega, g.2⟩]
        · rw [if_neg g, if_neg (fun z => g ⟨by omega, z.2⟩)]
    · rw [if_neg (by rw [ihn]; exact h), ih]
      by_cases e : k = n
      · subst e
        rw [if_neg (fun z => h z.2), if_neg (fun z => h z.2)]
      · by_cases g : k < n ∧ mP M 4 9 k = some a
        · rw [if_pos g, if_pos ⟨by omega, g.2⟩]
        · rw [if_neg g, if_neg (fun z => g ⟨by omega, z.2⟩)]
theorem RC_gb {D M R : Mem} {a : Nat} (r : RC M R) (hD : ∀ k, mP D 4 9 k = mP M 4 9 k) : ∀ n, RC (gbN M a n) (clrR D R a n)
  | 0 => r
  | n + 1 => by
    have ih := RC_gb (a := a) r hD n
    have ihn := gb_P (M := M) (a := a) (k := n) n
    rw [if_neg (fun z => Nat.lt_irrefl _ z.1)] at ihn
    show RC (gbS (gbN M a n) a n) (clrR D R a (n + 1))
    unfold gbS clrR
    by_cases h : mP M 4 9 n = some a
    · rw [if_pos (ihn.trans h), if_pos ((hD n).trans h)]
      exact rc_ln (Z := leaveM (gbN M a n) n) mN_jq mP_jq mT_jq mJ_jq (RC_leave ih (by rw [ihn, h]; exact fun z => nomatch z))
    · rw [if_neg (by rw [ihn]; exact h), if_neg (by rw [hD]; exact h)]
      exact ih
theorem gb_J {M : Mem} {a : Nat} : ∀ n, mJ (gbN M a n) = mJ M
  | 0 => rfl
  | n + 1 => by
    show mJ (gbS (gbN M a n) a n) = mJ M
    unfold gbS
    split
    · rw [mJ_jq, leave_J]; exact gb_J n
    · exact gb_J n
theorem gb_T {M : Mem} {a k j u : Nat} (h : ¬ (k = 0 ∧ j = 3)) : ∀ n, mT (gbN M a n) k j u = mT M k j u
  | 0 => rfl
  | n + 1 => by
    show mT (gbS (gbN M a n) a n) k j u = mT M k j u
    unfold gbS
    split
    · rw [mT_jq, mT_leave h]; exact gb_T h n
    · exact gb_T h n
theorem dk_gb {t : Nat} {M : Mem} {a : Nat} (d : Dk t M) (n4 : mN M 4 ≤ 40) (ha : a < mN M 0) : ∀ n, n ≤ mN M 4 → Dk t (gbN M a n)
  | 0, _ => d
  | n + 1, h => by
    have ih := dk_gb d n4 ha n (by omega)
    show Dk t (gbS (gbN M a n) a n)
    unfold gbS
    split
    · rename_i e
      refine dk_ln (Z := leaveM (gbN M a n) n) mN_jq mP_jq mT_jq (fun _ => l8_jq) (dk_leave ih (by rw [mN_gb]; exact n4) (by rw [mN_gb]; omega) (fun b hb => ?_))
      rw [e] at hb
      cases hb
      rw [mN_gb]
      exact ha
    · exact ih
theorem clr_same {D N : Mem} {a : Nat} : ∀ n, mJ (clrR D N a n) = mJ N ∧ ∀ X, EqD X N → EqD X (clrR D N a n)
  | 0 => ⟨rfl, fun _ e => e⟩
  | n + 1 => by
    obtain ⟨q1, q2⟩ := clr_same (D := D) (N := N) (a := a) n
    unfold clrR
    split
    · exact ⟨q1, fun X e => EqD.sT (Or.inr (by decide)) (q2 X e)⟩
    · exact ⟨q1, q2⟩
/-- setOnShift -/
theorem pu_18 {t : Nat} {M : Mem} (I : INV t M) (ht : t < 512) (x y : Int32) (M1 M2 : Mem) (hM1 : M1 = if rSetOnShift M x (!decide (y = 0)) = 0 then sJ (sosM M (ix x) (!decide (y = 0))) 39 0 0 ((if mT M 0 2 (ix x) = 0 then 0 else 1)) else M) (hM2 : M2 = if rSetOnShift M x (!decide (y = 0)) = 0 then sosR M M1 x (!decide (y = 0)) else sT M1 7 19 0 (thI (rSetOnShift M x (!decide (y = 0))))) : (QW M) ∧ (narrow .boolean (.int (mT M 0 2 (ix x))) = .int (mT M 0 2 (ix x))) ∧ (mN (sosM M (ix x) (!decide (y = 0))) 39 = 1) ∧ RC M M1 ∧ (inN x (mN M 0) = true → narrow .boolean (.int (mT M 0 2 (ix x))) = .int (mT M 0 2 (ix x))) ∧ 0 < mN M1 7 ∧ 0 < mN M2 7 ∧ 0 < mN M2 39 ∧ rSetOnShift M x (!decide (y = 0)) < 100 ∧ mT M2 7 19 0 = nI (rSetOnShift M x (!decide (y = 0))) ∧ (rSetOnShift M x (!decide (y = 0)) = 0 → mJ M2 39 0 0 = if (if rSetOnShift M x (!decide (y = 0)) = 0 then mT M 0 2 (ix x) else 0) = 0 then 0 else 1) ∧ INV (t + 1) M2 := by
  generalize (!decide (y = 0)) = b at hM1 hM2 ⊢
  have hnb : narrow .boolean (.int (mT M 0 2 (ix x))) = .int (mT M 0 2 (ix x)) := cel_bool (I.cel.2.1 _).1
  have hi : rSetOnShift M x b = 0 → ix x < mN M 0 := fun h => by
    unfold rSetOnShift at h
    by_cases hx : inN x (mN M 0) = true
    · exact (inN_ix hx (by have := wn0 I.wf; omega)).1
    · rw [if_neg hx] at h; cases h
  have hN : mN (sosM M (ix x) b) = mN M := by
    unfold sosM
    split
    · rfl
    · rw [mN_gb]; rfl
  have hT : ∀ k j u, k ≠ 0 → mT (sosM M (ix x) b) k j u = mT M k j u := fun k j u h0 => by
    unfold sosM
    split
    · exact sT_ne (fun z => h0 z.1)
    · rw [gb_T (fun z => h0 z.1)]; exact sT_ne (fun z => h0 z.1)
  have hJ : mJ (sosM M (ix x) b) = mJ M := by
    unfold sosM
    split
    · rfl
    · rw [gb_J]; rfl
  have hb : bI b = 0 ∨ bI b = 1 := by cases b <;> simp [bI]
  have hmo : RC M (sosM M (ix x) b) := rc_mo ⟨fun _ _ => by rw [hN], fun j u _ => hT 7 j u (by decide), fun k j u h1 h2 => hT k j u (by omega), fun j u => by rw [hJ]⟩ I.rc
  obtain ⟨p1, p2, p3, p4, p5, p6, p7, p8⟩ := pu_end (M2 := M2) (z := if (if rSetOnShift M x b = 0 then mT M 0 2 (ix x) else 0) = 0 then 0 else 1) I rfl hM1 (by unfold rSetOnShift; (repeat' split) <;> omega) (fun h => by rw [if_pos h]) (fun _ => hmo) (fun h => ⟨by
    rw [hM2, if_pos h]
    unfold sosR
    split
    · rfl
    · rw [clr_T (by decide)]; rfl, by
    rw [hM2, if_pos h]
    unfold sosR
    split
    · rfl
    · rw [(clr_same _).1]; rfl⟩) (fun h => by rw [hM2, if_neg h]) (fun h => by
    have ha := hi h
    have n4 := wn4 I.wf
    have wS : Wf (sT M 0 2 (ix x) (bI b)) := wf_shift I.wf
    have dS : Dk (t + 1) (sT M 0 2 (ix x) (bI b)) := dk_shift hb (dk_up I.dk)
    have d1 : Dk (t + 1) (sosM M (ix x) b) := by
      unfold sosM
      split
      · exact dS
      · exact dk_gb dS n4 ha _ (Nat.le_refl _)
    have w1 : Wf (sosM M (ix x) b) := by
      unfold sosM
      split
      · exact wS
      · exact (QI_gb wS dS.1 (QI_shift I.qi) _ (Nat.le_refl _)).1
    have e1 : EqD (sosM M (ix x) b) M2 := by
      rw [hM2, if_pos h, hM1, if_pos h]
      unfold sosR
      split
      · exact EqD.sT (Or.inr (by decide)) EqD.row
      · exact (clr_same _).2 _ (EqD.sT (Or.inr (by decide)) EqD.row)
    refine inv_ref (X := sosM M (ix x) b) w1 (QI_sos I.wf I.num I.qi) d1 e1 (by rw [hN]; exact I.n39) (by rw [hN]; exact I.n40) ?_ (I.b28 ?_)
    · rw [hM2, if_pos h, hM1, if_pos h]
      have r0 := RC_shift (a := ix x) (v := bI b) (rc_row (v := (if mT M 0 2 (ix x) = 0 then 0 else 1)) (u := 0) hmo) ha
      unfold sosR
      by_cases c : b = true
      · rw [if_pos c]
        have e : sosM M (ix x) b = sT M 0 2 (ix x) (bI b) := by unfold sosM; rw [if_pos c]
        rw [e] at r0 ⊢
        exact r0
      · rw [if_neg c]
        have e : sosM M (ix x) b = gbN (sT M 0 2 (ix x) (bI b)) (ix x) (mN M 4) := by unfold sosM; rw [if_neg c]
        rw [e] at r0 ⊢
        exact RC_gb (D := M) r0 (fun _ => rfl) _
    · rw [hM2, if_pos h, hM1, if_pos h]
      unfold sosR
      split
      · exact hT 7 28 0 (by decide)
      · rw [clr_T (by decide)]; exact hT 7 28 0 (by decide))
  exact ⟨I.qi.QW, hnb, by rw [hN]; exact I.n39, p1, fun _ => hnb, p2, p3, p4, p5, p6, p7, p8⟩
