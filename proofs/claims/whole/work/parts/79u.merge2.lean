theorem leave_mT {A B : Mem} {i : Nat} (hp : mP A 4 9 i = mP B 4 9 i) (hT : mT A = mT B) : mT (leaveM A i) = mT (leaveM B i) := by
  cases e : mP B 4 9 i with
  | none =>
    unfold leaveM
    rw [hp, e]
    exact hT
  | some a =>
    rw [leave_T (hp.trans e), leave_T e]
    show u3 (mT A) 0 3 a (mT A 0 3 a - 1) = u3 (mT B) 0 3 a (mT B 0 3 a - 1)
    rw [hT]
theorem to_leave {M : Mem} {i j : Nat} (k a u : Nat) : ∀ n, mP (toN (leaveM M i) j i n) k a u = if k = 4 ∧ a = 9 ∧ u = i then none else mP (toN M j i n) k a u
  | 0 => mP_leave
  | n + 1 => by
    have ih := to_leave (M := M) (i := i) (j := j) k a u n
    show mP (imM (toN (leaveM M i) j i n) j ((mL (leaveM M i) 8 i).getD n 0)) k a u = if k = 4 ∧ a = 9 ∧ u = i then none else mP (imM (toN M j i n) j ((mL M 8 i).getD n 0)) k a u
    rw [im_P, im_P, mL_leave, ih]
    by_cases c : k = 2 ∧ a = 1 ∧ u = (mL M 8 i).getD n 0
    · rw [if_pos c, if_pos c, if_neg (fun z => by omega)]
    · rw [if_neg c, if_neg c]
theorem mg_J {D M : Mem} {i : Nat} {y : Int32} : ∀ n, mJ (mgR D M i y n) = mJ M
  | 0 => rfl
  | n + 1 => by
    unfold mgR
    split
    · exact mg_J n
    · exact mg_J n
theorem mg_eqd {D X M : Mem} {i : Nat} {y : Int32} (e : EqD X M) : ∀ n, EqD X (mgR D M i y n)
  | 0 => e
  | n + 1 => by
    unfold mgR
    split
    · exact EqD.sT (Or.inr (by decide)) (mg_eqd e n)
    · exact mg_eqd e n
/-- whose the mails are changes, and what the reference tells of it -/
theorem RC_tk {D T M N : Mem} (hN : mN T = mN D) (hT : mT T = mT D) (hJ : mJ T = mJ D) (hP : ∀ a u, mP T 4 a u = mP D 4 a u) (gN : mN N = mN M) (gT : ∀ k j i, k ≠ 22 → mT N k j i = mT M k j i) (gJ : mJ N = mJ M) (h22 : ∀ k, k < mN D 2 → mT N 22 k 0 = nI (tkM T k)) (r : RC D M) : RC T N := by
  obtain ⟨r1, rf, r3, r4, r5, r6, r7, r8, r9, r10, r11⟩ := r
  have cu : cuM T = cuM D := by funext i; unfold cuM; rw [hP]
  have g7 := fun j i => gT 7 j i (by decide)
  have g20 := fun j i => gT 20 j i (by decide)
  have g21 := fun j i => gT 21 j i (by decide)
  have g24 := fun j i => gT 24 j i (by decide)
  have g25 := fun j i => gT 25 j i (by decide)
  have g26 := fun j i => gT 26 j i (by decide)
  have g27 := fun j i => gT 27 j i (by decide)
  have g28 := fun j i => gT 28 j i (by decide)
  have g29 := fun j i => gT 29 j i (by decide)
  have g30 := fun j i => gT 30 j i (by decide)
  have g31 := fun j i => gT 31 j i (by decide)
  have g32 := fun j i => gT 32 j i (by decide)
  have g33 := fun j i => gT 33 j i (by decide)
  have g34 := fun j i => gT 34 j i (by decide)
  have g35 := fun j i => gT 35 j i (by decide)
  have g36 := fun j i => gT 36 j i (by decide)
  have g37 := fun j i => gT 37 j i (by decide)
  have g38 := fun j i => gT 38 j i (by decide)
  refine ⟨by rw [gN]; exact r1, ?_, ?_, ?_, fun k hk => h22 k (by rw [← hN]; exact hk), ?_, ?_, ?_, ?_, ?_, ?_⟩
  · simpa only [RF, hN, hT, hJ, g7, gJ] using rf
  · simpa only [hT, g20] using r3
  · simpa only [hT, g21] using r4
  · simpa only [RT, hN, hT, hP, cu, g24, g25, g26, g27, g28, g29, g30, g31, g32, g33, g34] using r6
  · simpa only [hN, g27, g29, g30, g34] using r7
  · simpa only [hN, hT, g35, g36] using r8
  · simpa only [hN, g35] using r9
  · simpa only [hN, hT, g37, g38] using r10
  · simpa only [hN, g38] using r11
theorem RC_lv {D M : Mem} {i : Nat} (r : RC D M) : RC (leaveM D i) (sT M 28 i 0 (-1)) := by
  cases e : mP D 4 9 i with
  | none =>
    have e2 : leaveM D i = sP D 4 9 i none := by unfold leaveM; rw [e]
    rw [e2]
    exact RC_agent (o := none) r
  | some a =>
    rw [leave_T e]
    exact RC_agent (o := none) (RC_held r)
theorem RC_mrg {M N : Mem} {i j : Nat} (r : RC M N) (m : ∀ k, k < mN M 2 → (tkM M k = i ↔ k ∈ mL M 8 i)) (hj : j < mN M 4) : RC (mrgM M i j) (mrgR M N i j (nI j)) := by
  have r1 : RC (toN M j i (mL M 8 i).length) (mgR M N i (nI j) (mN M 2)) := RC_tk (mN_to _) (mT_to _) (to_J _) (fun a u => to_P (fun z => absurd z.1 (by decide)) _) (mg_N _) (fun k a u h => mg_T h _) (mg_J _) (fun k hk => by
    rw [mg_in _ hk, tk_to m hk]
    by_cases c : tkM M k = i
    · rw [if_pos c, if_pos c]
    · rw [if_neg c, if_neg c]; exact rtkof r hk) r
  have hjQ : j < mN (toN M j i (mL M 8 i).length) 4 := by rw [mN_to]; exact hj
  have r6 := RC_brkv (t := j) (v := tvB M i j) (RC_clock (t := j) (v := tvJ M i j) (RC_into (t := i) (o := some j) (RC_lv (i := i) (RC_state (t := i) (v := 109) r1))) (by show j < mN (leaveM (sT (toN M j i (mL M 8 i).length) 4 6 i 109) i) 4; rw [mN_leave]; exact hjQ)) (by show j < mN (leaveM (sT (toN M j i (mL M 8 i).length) 4 6 i 109) i) 4; rw [mN_leave]; exact hjQ)
  refine RC_ln mrg_ln ?_
  have r7 : RC (sT (sT (sT (sT (sP (leaveM (sT (toN M j i (mL M 8 i).length) 4 6 i 109) i) 4 13 i (some j)) 4 7 j (tvJ M i j)) 4 8 j (tvB M i j)) 4 5 j (mT M 4 5 j ||| mT M 4 5 i)) 4 5 i 0) (mrgR M N i j (nI j)) := r6
  have lT : ∀ a u, mT (leaveM M i) 4 a u = mT M 4 a u := fun a u => mT_leave (fun z => absurd z.1 (by decide))
  refine rc_ln ?_ ?_ ?_ ?_ r7
  · show mN (tovM (leaveM M i) j i) = mN (leaveM (sT (toN M j i (mL M 8 i).length) 4 6 i 109) i)
    rw [tov_N, mN_leave, mN_leave]
    exact (mN_to (M := M) (i := j) (t := i) _).symm
  · funext k a u
    show mP (tovM (leaveM M i) j i) k a u = mP (sP (leaveM (sT (toN M j i (mL M 8 i).length) 4 6 i 109) i) 4 13 i (some j)) k a u
    rw [tov_P, mP_sP, to_leave, mL_leave, mP_leave]
    rfl
  · funext k a u
    rw [tov_T, mT_sT, mT_sT, mT_sT, mT_sT, mT_sP, leave_46, leave_mT (A := toN M j i (mL M 8 i).length) (B := M) (to_P (fun z => absurd z.1 (by decide)) _) (mT_to _)]
    have eB : tvB (leaveM M i) i j = tvB M i j := by unfold tvB; rw [lT, lT]
    have eJ : tvJ (leaveM M i) i j = tvJ M i j := by unfold tvJ; rw [lT, lT]
    rw [eB, eJ, lT, lT]
    by_cases c1 : k = 4 ∧ a = 6 ∧ u = i
    · obtain ⟨rfl, rfl, rfl⟩ := c1
      simp
    · by_cases c2 : k = 4 ∧ a = 5 ∧ u = i
      · rw [if_neg c1, if_pos c2, if_pos c2]
      · rw [if_neg c1, if_neg c2, if_neg c2, if_neg c1]
        by_cases c3 : k = 4 ∧ a = 5 ∧ u = j
        · obtain ⟨rfl, rfl, rfl⟩ := c3
          simp
        · rw [if_neg c3, if_neg c3]
  · show mJ (tovM (leaveM M i) j i) = mJ (leaveM (sT (toN M j i (mL M 8 i).length) 4 6 i 109) i)
    rw [tov_J, leave_J, leave_J]
    exact (to_J (A := M) (i := i) (j := j) _).symm
/-- the lines once ticket i came into ticket j -/
theorem QX_mrg {M : Mem} {i j : Nat} (w : Wf M) (q : QI M) (hi : i < mN M 4) (hj : j < mN M 4) (hij : i ≠ j) : QX (tovM (leaveM (lqM (lqM M i) j) i) j i) j := by
  have w1 : Wf (sT (leaveM (lqM M i) i) 4 6 i 109) := wf_st (wf_leave (wf_lq w hi))
  have q1 : QI (sT (leaveM (lqM M i) i) 4 6 i 109) := QI_of (QX_sm (QX_leave (QX_lq w q hi)) SmX_sT) (wa_st (by decide))
  have n1 : mN (sT (leaveM (lqM M i) i) 4 6 i 109) = mN M := by show mN (leaveM (lqM M i) i) = _; rw [mN_leave, mN_lq]
  have q2 := QX_lq w1 q1 (i := j) (by rw [n1]; exact hj)
  have tA : ∀ k a u, mT (lqM (sT (leaveM (lqM M i) i) 4 6 i 109) j) k a u = if k = 4 ∧ a = 6 ∧ u = i then 109 else mT (leaveM M i) k a u := fun k a u => by
    rw [mT_lq, mT_sT, leave_mT (A := lqM M i) (B := M) (by rw [mP_lq]) mT_lq]
  have lT : ∀ k a u, mT (leaveM (lqM (lqM M i) j) i) k a u = mT (leaveM M i) k a u := fun k a u => by
    rw [leave_mT (A := lqM (lqM M i) j) (B := M) (by rw [mP_lq, mP_lq]) (by rw [mT_lq, mT_lq])]
  have tT : ∀ k a u, ¬ (k = 4 ∧ a = 5) → ¬ (k = 4 ∧ u = j) → mT (tovM (leaveM (lqM (lqM M i) j) i) j i) k a u = if k = 4 ∧ a = 6 ∧ u = i then 109 else mT (leaveM M i) k a u := fun k a u h1 h2 => by
    rw [tov_T, if_neg (c := k = 4 ∧ a = 5 ∧ u = i) (fun z => h1 ⟨z.1, z.2.1⟩), if_neg (c := k = 4 ∧ a = 8 ∧ u = j) (fun z => h2 ⟨z.1, z.2.2⟩), if_neg (c := k = 4 ∧ a = 7 ∧ u = j) (fun z => h2 ⟨z.1, z.2.2⟩), if_neg (c := k = 4 ∧ a = 5 ∧ u = j) (fun z => h1 ⟨z.1, z.2.1⟩), lT]
  have pA : ∀ a u, mP (lqM (sT (leaveM (lqM M i) i) 4 6 i 109) j) 4 a u = if a = 9 ∧ u = i then none else mP M 4 a u := fun a u => by
    rw [mP_lq, mP_sT, mP_leave, mP_lq]
    simp
  have pT : ∀ a u, a ≠ 13 → mP (tovM (leaveM (lqM (lqM M i) j) i) j i) 4 a u = if a = 9 ∧ u = i then none else mP M 4 a u := fun a u h => by
    rw [tov_P, if_neg (fun z => h z.2.1), to_P (fun z => absurd z.1 (by decide)), mP_leave, mP_lq, mP_lq]
    simp
  have to1 : toM (sT (leaveM (lqM M i) i) 4 6 i 109) j = toM M j := by
    unfold toM
    rw [mT_sT, if_neg (fun z => absurd z.2.1 (by decide)), mT_leave (fun z => absurd z.1 (by decide)), mT_lq]
  have to2 : toM (lqM M i) j = toM M j := by unfold toM; rw [mT_lq]
  refine QX_sm q2 (SmX_of ?_ (fun p hp => ?_) (fun a x hx ha => ?_) (fun x hx => ?_) (fun x hx => ?_) (fun c => ?_) (fun c => ?_))
  · rw [tov_N, mN_leave, mN_lq, mN_lq, mN_lq, n1]
  · rw [tov_9, mL_leave]
    unfold lqM
    by_cases e : p = toM M j
    · have a1 := qrem_q (M := qremM M (toM M i) i) (q := toM M j) (t := j)
      have a2 := qrem_q (M := sT (leaveM (qremM M (toM M i) i) i) 4 6 i 109) (q := toM M j) (t := j)
      unfold lqM at to1 to2
      rw [to1, to2, e, a1, a2, mL_sT, mL_leave]
    · unfold lqM at to1 to2
      rw [to1, to2, qrem_ne (fun z => e z.2), qrem_ne (fun z => e z.2), mL_sT, mL_leave]
  · rw [tT 4 a x (fun z => by omega) (fun z => hx z.2), tA]
  · rw [pT 9 x (by decide), pA]
  · rw [pT 1 x (by decide), pA]
  · rw [tT 1 1 c (fun z => absurd z.1 (by decide)) (fun z => absurd z.1 (by decide)), tA]
  · rw [tT 15 c 0 (fun z => absurd z.1 (by decide)) (fun z => absurd z.1 (by decide)), tA]
theorem cog_co {M T : Mem} {i j : Nat} : ∀ n, (∀ k, k < n → tkM T k = if tkM M k = i then j else tkM M k) → coG (fun k => if tkM M k = i then j else tkM M k) j n = coN T j n
  | 0, _ => rfl
  | n + 1, h => by
    have ih := cog_co (M := M) (T := T) (i := i) (j := j) n (fun k hk => h k (by omega))
    show coG _ j n + (if (if tkM M n = i then j else tkM M n) = j then 1 else 0) = coN T j n + (if tkM T n = j then 1 else 0)
    rw [ih, h n (by omega)]
/-- merge -/
theorem pu_31 {t : Nat} {M : Mem} (I : INV t M) (ht : t < 512) (x y : Int32) (M1 M2 : Mem) (hM1 : M1 = if rMerge M x y = 0 then sJ (mrgM M (ix x) (ix y)) 39 0 0 ((nI (mL (mrgM M (ix x) (ix y)) 8 (ix y)).length).toInt64) else M) (hM2 : M2 = if rMerge M x y = 0 then mrgR M (sT M1 7 19 0 0) (ix x) (ix y) y else sT M1 7 19 0 (thI (rMerge M x y))) : (∀ i j, i < mN M 4 → j < mN M 4 → i ≠ j → (mL M 8 i).length + (mL M 8 j).length ≤ 80) ∧ (mN (mrgM M (ix x) (ix y)) 39 = 1) ∧ RC M M1 ∧ 0 < mN M1 7 ∧ 0 < mN M2 7 ∧ 0 < mN M2 39 ∧ rMerge M x y < 100 ∧ mT M2 7 19 0 = nI (rMerge M x y) ∧ (rMerge M x y = 0 → mJ M2 39 0 0 = ((if rMerge M x y = 0 then coG (fun k => if tkM M k = ix x then ix y else tkM M k) (ix y) (mN M 2) else 0)).toInt64) ∧ INV (t + 1) M2 := by
  have two : ∀ i j, i < mN M 4 → j < mN M 4 → i ≠ j → (mL M 8 i).length + (mL M 8 j).length ≤ 80 := fun i j a b c => len_two I a b c
  have hi : rMerge M x y = 0 → ix x < mN M 4 ∧ (ix y < mN M 4 ∧ y = nI (ix y)) ∧ ix x ≠ ix y ∧ ohM M (ix x) = true ∧ ohM M (ix y) = true := fun h => by
    unfold rMerge at h
    by_cases hx : inN x (mN M 4) = true ∧ inN y (mN M 4) = true
    · rw [if_pos hx] at h
      by_cases c : ix x = ix y
      · rw [if_pos c] at h; cases h
      · rw [if_neg c] at h
        by_cases o : ohM M (ix x) = true ∧ ohM M (ix y) = true
        · exact ⟨(inN_ix hx.1 (by have := wn4 I.wf; omega)).1, inN_ix hx.2 (by have := wn4 I.wf; omega), c, o.1, o.2⟩
        · rw [if_neg o] at h; cases h
    · rw [if_neg hx] at h; cases h
  have hN : mN (mrgM M (ix x) (ix y)) = mN M := mN_mrg
  have hT : ∀ k j u, k ≠ 0 → k ≠ 4 → mT (mrgM M (ix x) (ix y)) k j u = mT M k j u := fun k j u h0 h4 => by
    rw [mrg_ln.2.2.1, tov_T, if_neg (fun z => h4 z.1), if_neg (fun z => h4 z.1), if_neg (fun z => h4 z.1), if_neg (fun z => h4 z.1), if_neg (fun z => h4 z.1), mT_leave (fun z => h0 z.1)]
  have hJ : mJ (mrgM M (ix x) (ix y)) = mJ M := by rw [mrg_ln.2.2.2.1, tov_J, leave_J]
  have hmo : RC M (mrgM M (ix x) (ix y)) := rc_mo ⟨fun _ _ => by rw [hN], fun j u _ => hT 7 j u (by decide) (by decide), fun k j u h1 h2 => hT k j u (by omega) (by omega), fun j u => by rw [hJ]⟩ I.rc
  refine ⟨two, by rw [hN]; exact I.n39, pu_end I rfl hM1 (by unfold rMerge; (repeat' split) <;> omega) (fun h => ?_) (fun _ => hmo) (fun h => ?_) (fun h => by rw [hM2, if_neg h]) (fun h => ?_)⟩
  · obtain ⟨h4, ⟨h5, -⟩, hne, ox, oy⟩ := hi h
    rw [if_pos h]
    have mi := I.ml _ h4
    have mj := I.ml _ h5
    have tk : ∀ k, k < mN M 2 → tkM (mrgM M (ix x) (ix y)) k = if tkM M k = ix x then ix y else tkM M k := fun k hk => by
      have e : tkM (mrgM M (ix x) (ix y)) k = tkM (toN M (ix y) (ix x) (mL M 8 (ix x)).length) k := by
        unfold tkM
        rw [mrg_ln.2.1, tov_P, if_neg (fun z => absurd z.1 (by decide)), to_leave, if_neg (fun z => absurd z.1 (by decide)), mL_leave]
      rw [e]
      exact tk_to mi.2.1 hk
    rw [cog_co _ tk, (co_mg hne _ tk).1, mj.2.2, mi.2.2, nI_add, mrg_ln.2.2.2.2, tov_8, if_neg (fun z => hne z.symm), to_len, mL_leave]
  · rw [hM2, if_pos h]
    refine ⟨?_, ?_⟩
    · show mT (mgR M (sT M1 7 19 0 0) (ix x) y (mN M 2)) 7 19 0 = 0
      rw [mg_T (by decide)]; rfl
    · show mJ (mgR M (sT M1 7 19 0 0) (ix x) y (mN M 2)) 39 0 0 = _
      rw [mg_J]; rfl
  · obtain ⟨h4, ⟨h5, hy⟩, hne, ox, oy⟩ := hi h
    have lj : mT M 4 6 (ix y) ≠ 109 := fun z => by
      unfold ohM stM at oy
      rw [z] at oy
      exact absurd oy (by decide)
    have n4 := wn4 I.wf
    have e1 : EqD (mrgM M (ix x) (ix y)) M2 := by
      rw [hM2, if_pos h, hM1, if_pos h]
      exact EqD.sT (Or.inr (by decide)) (EqD.sT (Or.inr (by decide)) (EqD.sT (Or.inr (by decide)) (EqD.sT (Or.inr (by decide)) (EqD.sT (Or.inr (by decide)) (mg_eqd EqD.row _)))))
    have dL : Dk (t + 1) (leaveM M (ix x)) := dk_leave (dk_up I.dk) n4 h4 (I.wf.2.2.1 _ h4).2.2.2.2.1
    have d1 : Dk (t + 1) (mrgM M (ix x) (ix y)) := dk_LnEq mrg_ln (dk_tov dL (wf_leave I.wf) (by rw [mN_leave]; exact h4) (by rw [mN_leave]; exact h5) hne (by rw [mT_leave (fun z => absurd z.1 (by decide))]; exact lj))
    have wT : Wf (tovM (leaveM (lqM (lqM M (ix x)) (ix y)) (ix x)) (ix y) (ix x)) := wf_tov (wf_lv I.wf h4 h5) (by rw [mN_lv]; exact h5) (by rw [mN_lv]; exact h4) (by rw [l8_lv, l8_lv]; have := two _ _ h4 h5 hne; omega)
    have qT := QX_mrg I.wf I.qi h4 h5 hne
    have nT : mN (tovM (leaveM (lqM (lqM M (ix x)) (ix y)) (ix x)) (ix y) (ix x)) = mN M := by rw [tov_N, mN_lv]
    have numT : NumOk (tovM (leaveM (lqM (lqM M (ix x)) (ix y)) (ix x)) (ix y) (ix x)) := d1.1 |> fun z => by
      have e : mN (mrgM M (ix x) (ix y)) = mN (tovM (leaveM (lqM (lqM M (ix x)) (ix y)) (ix x)) (ix y) (ix x)) := mN_jq
      have e2 : mT (mrgM M (ix x) (ix y)) = mT (tovM (leaveM (lqM (lqM M (ix x)) (ix y)) (ix x)) (ix y) (ix x)) := mT_jq
      unfold NumOk at z ⊢
      rw [e, e2] at z
      exact z
    have w1 : Wf (mrgM M (ix x) (ix y)) := wf_jq wT (by rw [nT]; exact h5) (fun _ z => by
      have z6 := (wT.2.2.1 (ix y) (by rw [nT]; exact h5)).2.2.2.1
      exact (((qT _ z6).1 _).mp z).2.2.2 rfl)
    have q1 : QI (mrgM M (ix x) (ix y)) := QI_jq wT numT qT (by rw [nT]; exact h5)
    refine inv_ref (X := mrgM M (ix x) (ix y)) w1 q1 d1 e1 (by rw [hN]; exact I.n39) (by rw [hN]; exact I.n40) ?_ (I.b28 ?_)
    · rw [hM2, if_pos h, hM1, if_pos h]
      have q := RC_mrg (i := ix x) (j := ix y) (rc_row (v := (nI (mL (mrgM M (ix x) (ix y)) 8 (ix y)).length).toInt64) (u := 0) hmo) (I.ml _ h4).2.1 h5
      rw [← hy] at q
      exact q
    · rw [hM2, if_pos h, hM1, if_pos h]
      show mT (mgR M (sT (sJ (mrgM M (ix x) (ix y)) 39 0 0 _) 7 19 0 0) (ix x) y (mN M 2)) 7 28 0 = _
      rw [mg_T (by decide), mT_sT, if_neg (fun z => absurd z.2.1 (by decide))]
      exact hT 7 28 0 (by decide) (by decide)
