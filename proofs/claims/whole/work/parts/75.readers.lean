theorem thI_nI {r : Nat} (h : r ≤ 4) : thI r = nI r := by
  match r, h with
  | 0, _ => rfl
  | 1, _ => rfl
  | 2, _ => rfl
  | 3, _ => rfl
  | 4, _ => rfl
theorem sm_m1 {M M1 : Mem} {r : Nat} {v : Int64} (h : M1 = if r = 0 then sJ M 39 0 0 v else M) : Sm M M1 := by
  subst h
  split
  · exact Sm.row
  · exact Sm.rf
/-- a call that changes nothing but the reference's thrown -/
theorem pu_read {t r r' : Nat} {M M1 M2 : Mem} {v : Int64} {z : Int64} (I : INV t M) (hr : r' = r) (hM1 : M1 = if r = 0 then sJ M 39 0 0 v else M) (hM2 : M2 = if r' = 0 then sT M1 7 19 0 0 else sT M1 7 19 0 (thI r')) (h4 : r ≤ 4) (hv : r = 0 → v = z) :
    RC M M1 ∧ 0 < mN M1 7 ∧ 0 < mN M2 7 ∧ 0 < mN M2 39 ∧ r < 100 ∧ mT M2 7 19 0 = nI r ∧ (r = 0 → mJ M2 39 0 0 = z) ∧ INV (t + 1) M2 := by
  subst hr
  have s1 := sm_m1 hM1
  have s2 : Sm M1 M2 := by rw [hM2]; split <;> exact Sm.thr
  have n7 := I.n7
  have n39 := I.n39
  have e1 := s1.1
  have e2 := (s1.trans s2).1
  refine ⟨sm_rc Sm.rf s1 I.rc, by rw [e1]; omega, by rw [e2]; omega, by rw [e2]; omega, by omega, ?_, fun h => ?_, inv_sm I (s1.trans s2)⟩
  · rw [hM2]
    by_cases h : r' = 0
    · rw [if_pos h, h]; rfl
    · rw [if_neg h, ← thI_nI h4]; rfl
  · rw [← hv h, hM2, hM1, if_pos h, if_pos h]
    rfl
theorem INV.num {t : Nat} {M : Mem} (I : INV t M) : NumOk M := I.2.2.2.1
theorem INV.qi {t : Nat} {M : Mem} (I : INV t M) : QI M := I.2.2.2.2.1
theorem INV.ml {t : Nat} {M : Mem} (I : INV t M) : ∀ i, i < mN M 4 → MlOk M i := I.2.2.2.2.2.1
theorem INV.cel {t : Nat} {M : Mem} (I : INV t M) : CelOk M := I.2.2.2.2.2.2.1
theorem INV.held {t : Nat} {M : Mem} (I : INV t M) : ∀ a, a < mN M 0 → mT M 0 3 a = heN M a (mN M 4) := I.2.2.2.2.2.2.2.2.1
theorem rt_lt {M : Mem} (w : Wf M) : ∀ n t, t < mN M 4 → rtM M n t < mN M 4 := by
  intro n
  induction n with
  | zero => intro t h; exact h
  | succ n ih =>
    intro t h
    unfold rtM
    cases e : mP M 4 13 t with
    | none => exact h
    | some u => exact ih u ((w.2.2.1 t h).2.2.2.2.2.2.1 u e)
theorem oI_some {a : Nat} : oI (some a) = nI a := rfl
theorem cel_char {v : Int32} (h : v = 0 ∨ v = 111 ∨ v = 104 ∨ v = 97 ∨ v = 99 ∨ v = 109) : narrow .char (.int v) = .int v := by
  rcases h with h | h | h | h | h | h <;> subst h <;> rfl
theorem cel_bool {v : Int32} (h : v = 0 ∨ v = 1) : narrow .boolean (.int v) = .int v := by
  rcases h with h | h <;> subst h <;> rfl
/-- time -/
theorem pu_1 {t : Nat} {M : Mem} (I : INV t M) (ht : t < 512)  : INV (t + 1) (sT M 7 19 0 0) := by
  exact inv_sm I Sm.thr
/-- ticketOf -/
theorem pu_5 {t : Nat} {M : Mem} (I : INV t M) (ht : t < 512) (x : Int32) (M1 M2 : Mem) (hM1 : M1 = if rTicketOf M x = 0 then sJ (M) 39 0 0 ((mT M 4 0 (tkM M (ix x))).toInt64) else M) (hM2 : M2 = if rTicketOf M x = 0 then sT M1 7 19 0 0 else sT M1 7 19 0 (thI (rTicketOf M x))) : (mN (M) 39 = 1) ∧ RC M M1 ∧ 0 < mN M1 7 ∧ 0 < mN M2 7 ∧ 0 < mN M2 39 ∧ rTicketOf M x < 100 ∧ mT M2 7 19 0 = nI (rTicketOf M x) ∧ (rTicketOf M x = 0 → mJ M2 39 0 0 = ((if rTicketOf M x = 0 then nI (tkM M (ix x)) else 0)).toInt64) ∧ INV (t + 1) M2 := by
  exact ⟨I.n39, pu_read I rfl hM1 hM2 (by unfold rTicketOf; (repeat' split) <;> omega) (fun h => by rw [if_pos h]; have hx : inN x (mN M 2) = true := by { by_cases hx : inN x (mN M 2) = true; exact hx; exact absurd h (by unfold rTicketOf; rw [if_neg hx]; decide) }; rw [I.num.1 _ (tkM_eq I.wf (inN_ix hx (by have := wn2 I.wf; omega)).1).2])⟩
/-- mails -/
theorem pu_6 {t : Nat} {M : Mem} (I : INV t M) (ht : t < 512)  : INV (t + 1) (sT M 7 19 0 0) := by
  exact inv_sm I Sm.thr
/-- mailsOf -/
theorem pu_7 {t : Nat} {M : Mem} (I : INV t M) (ht : t < 512) (x : Int32) (M1 M2 : Mem) (hM1 : M1 = if rMailsOf M x = 0 then sJ (M) 39 0 0 ((nI (mL M 8 (ix x)).length).toInt64) else M) (hM2 : M2 = if rMailsOf M x = 0 then sT M1 7 19 0 0 else sT M1 7 19 0 (thI (rMailsOf M x))) : (mN (M) 39 = 1) ∧ RC M M1 ∧ 0 < mN M1 7 ∧ 0 < mN M2 7 ∧ 0 < mN M2 39 ∧ rMailsOf M x < 100 ∧ mT M2 7 19 0 = nI (rMailsOf M x) ∧ (rMailsOf M x = 0 → mJ M2 39 0 0 = ((if rMailsOf M x = 0 then coN M (ix x) (mN M 2) else 0)).toInt64) ∧ INV (t + 1) M2 := by
  exact ⟨I.n39, pu_read I rfl hM1 hM2 (by unfold rMailsOf; (repeat' split) <;> omega) (fun h => by have hx : inN x (mN M 4) = true := by { by_cases hx : inN x (mN M 4) = true; exact hx; exact absurd h (by unfold rMailsOf; rw [if_neg hx]; decide) }; have h4 := (inN_ix hx (by have := wn4 I.wf; omega)).1; rw [if_pos h, (I.ml _ h4).2.2])⟩
/-- mailAt -/
theorem pu_8 {t : Nat} {M : Mem} (I : INV t M) (ht : t < 512) (x y : Int32) (M1 M2 : Mem) (hM1 : M1 = if rMailAt M x y = 0 then sJ (M) 39 0 0 ((mT M 2 0 ((mL M 8 (ix x)).getD (ix y) 0)).toInt64) else M) (hM2 : M2 = if rMailAt M x y = 0 then sT M1 7 19 0 0 else sT M1 7 19 0 (thI (rMailAt M x y))) : (mN (M) 39 = 1) ∧ RC M M1 ∧ (ix x < mN M 4 → MlOk M (ix x)) ∧ 0 < mN M1 7 ∧ 0 < mN M2 7 ∧ 0 < mN M2 39 ∧ rMailAt M x y < 100 ∧ mT M2 7 19 0 = nI (rMailAt M x y) ∧ (rMailAt M x y = 0 → mJ M2 39 0 0 = ((if rMailAt M x y = 0 then nI ((mL M 8 (ix x)).getD (ix y) 0) else 0)).toInt64) ∧ INV (t + 1) M2 := by
  have hn : rMailAt M x y ≤ 4 := by unfold rMailAt; (repeat' split) <;> omega
  obtain ⟨q1, q2, q3, q4, q5, q6, q7, q8⟩ := pu_read I rfl hM1 hM2 hn (z := ((if rMailAt M x y = 0 then nI ((mL M 8 (ix x)).getD (ix y) 0) else 0)).toInt64) (fun h => by have hx : inN x (mN M 4) = true := by { by_cases hx : inN x (mN M 4) = true; exact hx; exact absurd h (by unfold rMailAt; rw [if_neg hx]; decide) }; have h4 := (inN_ix hx (by have := wn4 I.wf; omega)).1; have hy : inN y (mL M 8 (ix x)).length = true := by { by_cases hy : inN y (mL M 8 (ix x)).length = true; exact hy; exact absurd h (by unfold rMailAt; rw [if_pos hx, if_neg hy]; decide) }; have hw := I.wf.2.2.1 _ h4; have h5 := (inN_ix hy (by have := hw.2.2.2.2.2.2.2.2; omega)).1; rw [if_pos h, I.num.2.1 _ (hw.2.2.2.2.2.2.2.1 _ (getD_mem h5))])
  exact ⟨I.n39, q1, fun h => I.ml _ h, q2, q3, q4, q5, q6, q7, q8⟩
/-- tickets -/
theorem pu_9 {t : Nat} {M : Mem} (I : INV t M) (ht : t < 512)  : INV (t + 1) (sT M 7 19 0 0) := by
  exact inv_sm I Sm.thr
/-- stateOf -/
theorem pu_10 {t : Nat} {M : Mem} (I : INV t M) (ht : t < 512) (x : Int32) (M1 M2 : Mem) (hM1 : M1 = if rStateOf M x = 0 then sJ (M) 39 0 0 ((stM M (ix x)).toInt64) else M) (hM2 : M2 = if rStateOf M x = 0 then sT M1 7 19 0 0 else sT M1 7 19 0 (thI (rStateOf M x))) : (narrow .char (.int (stM M (ix x))) = .int (stM M (ix x))) ∧ (mN (M) 39 = 1) ∧ RC M M1 ∧ (inN x (mN M 4) = true → narrow .char (.int (mT M 4 6 (ix x))) = .int (mT M 4 6 (ix x))) ∧ 0 < mN M1 7 ∧ 0 < mN M2 7 ∧ 0 < mN M2 39 ∧ rStateOf M x < 100 ∧ mT M2 7 19 0 = nI (rStateOf M x) ∧ (rStateOf M x = 0 → mJ M2 39 0 0 = ((if rStateOf M x = 0 then stM M (ix x) else 63)).toInt64) ∧ INV (t + 1) M2 := by
  have hn : rStateOf M x ≤ 4 := by unfold rStateOf; (repeat' split) <;> omega
  obtain ⟨q1, q2, q3, q4, q5, q6, q7, q8⟩ := pu_read I rfl hM1 hM2 hn (z := ((if rStateOf M x = 0 then stM M (ix x) else 63)).toInt64) (fun h => by rw [if_pos h])
  exact ⟨cel_char (I.cel.1 _).1, I.n39, q1, fun _ => cel_char (I.cel.1 _).1, q2, q3, q4, q5, q6, q7, q8⟩
/-- mergedInto -/
theorem pu_11 {t : Nat} {M : Mem} (I : INV t M) (ht : t < 512) (x : Int32)  : ∃ rk : Nat → Nat, (∀ t u, mP M 4 13 t = some u → rk u < rk t) ∧ (mN (M) 39 = 1) ∧ ∀ M1 M2 : Mem, M1 = (if rMergedInto M x = 0 then sJ (M) 39 0 0 ((mT M 4 0 (rtM M (rk (ix x)) (ix x))).toInt64) else M) → M2 = (if rMergedInto M x = 0 then sT M1 7 19 0 0 else sT M1 7 19 0 (thI (rMergedInto M x))) → RC M M1 ∧ 0 < mN M1 7 ∧ 0 < mN M2 7 ∧ 0 < mN M2 39 ∧ rMergedInto M x < 100 ∧ mT M2 7 19 0 = nI (rMergedInto M x) ∧ (rMergedInto M x = 0 → mJ M2 39 0 0 = ((if rMergedInto M x = 0 then nI (rtM M (rk (ix x)) (ix x)) else 0)).toInt64) ∧ INV (t + 1) M2 := by
  obtain ⟨rk, hrk⟩ := I.2.2.2.2.2.2.2.1
  refine ⟨rk, hrk, I.n39, fun M1 M2 hM1 hM2 => pu_read I rfl hM1 hM2 (by unfold rMergedInto; (repeat' split) <;> omega) (fun h => by have hx : inN x (mN M 4) = true := by { by_cases hx : inN x (mN M 4) = true; exact hx; exact absurd h (by unfold rMergedInto; rw [if_neg hx]; decide) }; have h4 := (inN_ix hx (by have := wn4 I.wf; omega)).1; rw [if_pos h, I.num.1 _ (rt_lt I.wf _ _ h4)])⟩
/-- clock -/
theorem pu_13 {t : Nat} {M : Mem} (I : INV t M) (ht : t < 512) (x : Int32) (M1 M2 : Mem) (hM1 : M1 = if rClock M x = 0 then sJ (M) 39 0 0 ((mT M 4 7 (ix x)).toInt64) else M) (hM2 : M2 = if rClock M x = 0 then sT M1 7 19 0 0 else sT M1 7 19 0 (thI (rClock M x))) : (mN (M) 39 = 1) ∧ RC M M1 ∧ 0 < mN M1 7 ∧ 0 < mN M2 7 ∧ 0 < mN M2 39 ∧ rClock M x < 100 ∧ mT M2 7 19 0 = nI (rClock M x) ∧ (rClock M x = 0 → mJ M2 39 0 0 = ((if rClock M x = 0 then mT M 4 7 (ix x) else 0)).toInt64) ∧ INV (t + 1) M2 := by
  exact ⟨I.n39, pu_read I rfl hM1 hM2 (by unfold rClock; (repeat' split) <;> omega) (fun h => by rw [if_pos h])⟩
/-- leftOf -/
theorem pu_14 {t : Nat} {M : Mem} (I : INV t M) (ht : t < 512) (x : Int32) (M1 M2 : Mem) (hM1 : M1 = if rLeftOf M x = 0 then sJ (M) 39 0 0 ((leftM M (ix x)).toInt64) else M) (hM2 : M2 = if rLeftOf M x = 0 then sT M1 7 19 0 0 else sT M1 7 19 0 (thI (rLeftOf M x))) : (mN (M) 39 = 1) ∧ RC M M1 ∧ 0 < mN M1 7 ∧ 0 < mN M2 7 ∧ 0 < mN M2 39 ∧ rLeftOf M x < 100 ∧ mT M2 7 19 0 = nI (rLeftOf M x) ∧ (rLeftOf M x = 0 → mJ M2 39 0 0 = ((if rLeftOf M x = 0 then leftM M (ix x) else 0)).toInt64) ∧ INV (t + 1) M2 := by
  exact ⟨I.n39, pu_read I rfl hM1 hM2 (by unfold rLeftOf; (repeat' split) <;> omega) (fun h => by rw [if_pos h])⟩
/-- isBreached -/
theorem pu_15 {t : Nat} {M : Mem} (I : INV t M) (ht : t < 512) (x : Int32) (M1 M2 : Mem) (hM1 : M1 = if rIsBreached M x = 0 then sJ (M) 39 0 0 ((if (ohM M (ix x) && !decide (mT M 4 8 (ix x) = 0)) = true then 1 else 0)) else M) (hM2 : M2 = if rIsBreached M x = 0 then sT M1 7 19 0 0 else sT M1 7 19 0 (thI (rIsBreached M x))) : (mN (M) 39 = 1) ∧ RC M M1 ∧ 0 < mN M1 7 ∧ 0 < mN M2 7 ∧ 0 < mN M2 39 ∧ rIsBreached M x < 100 ∧ mT M2 7 19 0 = nI (rIsBreached M x) ∧ (rIsBreached M x = 0 → mJ M2 39 0 0 = if (if rIsBreached M x = 0 then bI (ohM M (ix x) && !decide (mT M 4 8 (ix x) = 0)) else 0) = 0 then 0 else 1) ∧ INV (t + 1) M2 := by
  exact ⟨I.n39, pu_read I rfl hM1 hM2 (by unfold rIsBreached; (repeat' split) <;> omega) (fun h => by rw [if_pos h]; cases (ohM M (ix x) && !decide (mT M 4 8 (ix x) = 0)) <;> rfl)⟩
/-- held -/
theorem pu_19 {t : Nat} {M : Mem} (I : INV t M) (ht : t < 512) (x : Int32) (M1 M2 : Mem) (hM1 : M1 = if rHeld M x = 0 then sJ (M) 39 0 0 ((mT M 0 3 (ix x)).toInt64) else M) (hM2 : M2 = if rHeld M x = 0 then sT M1 7 19 0 0 else sT M1 7 19 0 (thI (rHeld M x))) : (mN (M) 39 = 1) ∧ RC M M1 ∧ 0 < mN M1 7 ∧ 0 < mN M2 7 ∧ 0 < mN M2 39 ∧ rHeld M x < 100 ∧ mT M2 7 19 0 = nI (rHeld M x) ∧ (rHeld M x = 0 → mJ M2 39 0 0 = ((if rHeld M x = 0 then heN M (ix x) (mN M 4) else 0)).toInt64) ∧ INV (t + 1) M2 := by
  exact ⟨I.n39, pu_read I rfl hM1 hM2 (by unfold rHeld; (repeat' split) <;> omega) (fun h => by have hx : inN x (mN M 0) = true := by { by_cases hx : inN x (mN M 0) = true; exact hx; exact absurd h (by unfold rHeld; rw [if_neg hx]; decide) }; have h0 := (inN_ix hx (by have := wn0 I.wf; omega)).1; rw [if_pos h, I.held _ h0])⟩
/-- agentOf -/
theorem pu_20 {t : Nat} {M : Mem} (I : INV t M) (ht : t < 512) (x : Int32) (M1 M2 : Mem) (hM1 : M1 = if rAgentOf M x = 0 then sJ (M) 39 0 0 ((mT M 0 0 ((mP M 4 9 (ix x)).getD 0)).toInt64) else M) (hM2 : M2 = if rAgentOf M x = 0 then sT M1 7 19 0 0 else sT M1 7 19 0 (thI (rAgentOf M x))) : (mN (M) 39 = 1) ∧ RC M M1 ∧ 0 < mN M1 7 ∧ 0 < mN M2 7 ∧ 0 < mN M2 39 ∧ rAgentOf M x < 100 ∧ mT M2 7 19 0 = nI (rAgentOf M x) ∧ (rAgentOf M x = 0 → mJ M2 39 0 0 = ((if rAgentOf M x = 0 then oI (mP M 4 9 (ix x)) else 0)).toInt64) ∧ INV (t + 1) M2 := by
  exact ⟨I.n39, pu_read I rfl hM1 hM2 (by unfold rAgentOf; (repeat' split) <;> omega) (fun h => by have hx : inN x (mN M 4) = true := by { by_cases hx : inN x (mN M 4) = true; exact hx; exact absurd h (by unfold rAgentOf; rw [if_neg hx]; decide) }; have h4 := (inN_ix hx (by have := wn4 I.wf; omega)).1; rw [if_pos h]; cases e : mP M 4 9 (ix x) with | none => exact absurd h (by unfold rAgentOf; rw [if_pos hx, if_pos e]; decide) | some a => rw [oI_some]; show (mT M 0 0 a).toInt64 = _; rw [I.num.2.2 a ((I.wf.2.2.1 _ h4).2.2.2.2.1 a e)])⟩
/-- nextFor -/
theorem pu_21 {t : Nat} {M : Mem} (I : INV t M) (ht : t < 512) (x : Int32) (M1 M2 : Mem) (hM1 : M1 = if rNextFor M x = 0 then sJ (M) 39 0 0 ((mT M 4 0 ((nqN M (ix x) 6).getD 0)).toInt64) else M) (hM2 : M2 = if rNextM M x = 0 then sT M1 7 19 0 0 else sT M1 7 19 0 (thI (rNextM M x))) : (mN (M) 39 = 1) ∧ RC M M1 ∧ 0 < mN M1 7 ∧ 0 < mN M2 7 ∧ 0 < mN M2 39 ∧ rNextFor M x < 100 ∧ mT M2 7 19 0 = nI (rNextFor M x) ∧ (rNextFor M x = 0 → mJ M2 39 0 0 = ((if rNextM M x = 0 then oI (mnN M (ix x) (mN M 4)) else 0)).toInt64) ∧ INV (t + 1) M2 := by
  have he : rNextM M x = rNextFor M x := by unfold rNextM rNextFor; rw [nq_mn I.wf I.num I.qi]
  exact ⟨I.n39, pu_read I he hM1 hM2 (by unfold rNextFor; (repeat' split) <;> omega) (fun h => by have hx : inN x (mN M 0) = true := by { by_cases hx : inN x (mN M 0) = true; exact hx; exact absurd h (by unfold rNextFor; rw [if_neg hx]; decide) }; have h0 := (inN_ix hx (by have := wn0 I.wf; omega)).1; rw [if_pos (he.trans h), nq_mn I.wf I.num I.qi]; cases e : mnN M (ix x) (mN M 4) with | none => exact absurd (he.trans h) (by unfold rNextM; rw [if_pos hx, if_pos e]; decide) | some a => rw [oI_some]; show (mT M 4 0 a).toInt64 = _; rw [I.num.1 a (mnN_lt (mN M 4) a e)])⟩
/-- nextByTickets -/
theorem pu_22 {t : Nat} {M : Mem} (I : INV t M) (ht : t < 512) (x : Int32) (M1 M2 : Mem) (hM1 : M1 = if rNextByTickets M x = 0 then sJ (M) 39 0 0 ((mT M 4 0 ((ntN M (ix x) (mN M 4)).getD 0)).toInt64) else M) (hM2 : M2 = if rNextM M x = 0 then sT M1 7 19 0 0 else sT M1 7 19 0 (thI (rNextM M x))) : (mN (M) 39 = 1) ∧ RC M M1 ∧ 0 < mN M1 7 ∧ 0 < mN M2 7 ∧ 0 < mN M2 39 ∧ rNextByTickets M x < 100 ∧ mT M2 7 19 0 = nI (rNextByTickets M x) ∧ (rNextByTickets M x = 0 → mJ M2 39 0 0 = ((if rNextM M x = 0 then oI (mnN M (ix x) (mN M 4)) else 0)).toInt64) ∧ INV (t + 1) M2 := by
  have he : rNextM M x = rNextByTickets M x := by unfold rNextM rNextByTickets; rw [← mn_nt I.wf I.num _ (Nat.le_refl _)]
  exact ⟨I.n39, pu_read I he hM1 hM2 (by unfold rNextByTickets; (repeat' split) <;> omega) (fun h => by have hx : inN x (mN M 0) = true := by { by_cases hx : inN x (mN M 0) = true; exact hx; exact absurd h (by unfold rNextByTickets; rw [if_neg hx]; decide) }; have h0 := (inN_ix hx (by have := wn0 I.wf; omega)).1; rw [if_pos (he.trans h), ← mn_nt I.wf I.num _ (Nat.le_refl _)]; cases e : mnN M (ix x) (mN M 4) with | none => exact absurd (he.trans h) (by unfold rNextM; rw [if_pos hx, if_pos e]; decide) | some a => rw [oI_some]; show (mT M 4 0 a).toInt64 = _; rw [I.num.1 a (mnN_lt (mN M 4) a e)])⟩
/-- weight -/
theorem pu_33 {t : Nat} {M : Mem} (I : INV t M) (ht : t < 512) (x y : Int32) (M1 M2 : Mem) (hM1 : M1 = if rWeight M x y = 0 then sJ (M) 39 0 0 ((mT M 14 (ix y) (ix x)).toInt64) else M) (hM2 : M2 = if rWeight M x y = 0 then sT M1 7 19 0 0 else sT M1 7 19 0 (thI (rWeight M x y))) : (mN (M) 39 = 1) ∧ RC M M1 ∧ 0 < mN M1 7 ∧ 0 < mN M2 7 ∧ 0 < mN M2 39 ∧ rWeight M x y < 100 ∧ mT M2 7 19 0 = nI (rWeight M x y) ∧ (rWeight M x y = 0 → mJ M2 39 0 0 = ((if rWeight M x y = 0 then mT M 14 (ix y) (ix x) else 0)).toInt64) ∧ INV (t + 1) M2 := by
  exact ⟨I.n39, pu_read I rfl hM1 hM2 (by unfold rWeight; (repeat' split) <;> omega) (fun h => by rw [if_pos h])⟩
/-- breaches -/
theorem pu_36 {t : Nat} {M : Mem} (I : INV t M) (ht : t < 512)  : INV (t + 1) (sT M 7 19 0 0) := by
  exact inv_sm I Sm.thr
/-- answers -/
theorem pu_37 {t : Nat} {M : Mem} (I : INV t M) (ht : t < 512)  : INV (t + 1) (sT M 7 19 0 0) := by
  exact inv_sm I Sm.thr
/-- minutesOpen -/
theorem pu_38 {t : Nat} {M : Mem} (I : INV t M) (ht : t < 512)  : INV (t + 1) (sT M 7 19 0 0) := by
  exact inv_sm I Sm.thr
