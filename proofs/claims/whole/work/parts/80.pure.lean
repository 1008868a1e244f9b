/-- pass -/
theorem pu_0 {t : Nat} {M : Mem} (I : INV t M) (ht : t < 512) (x : Int32) (M1 M2 : Mem) (hM1 : M1 = if rPass M x = 0 then sJ (passM M x) 39 0 0 ((pbN M x (mN M 4)).toInt64) else M) (hM2 : M2 = if rPass M x = 0 then itR M (sT M1 7 19 0 0) (ix x) else sT M1 7 19 0 (thI (rPass M x))) : (mN (passM M x) 39 = 1) ∧ RC M M1 ∧ 0 < mN M1 7 ∧ 0 < mN M2 7 ∧ 0 < mN M2 39 ∧ rPass M x < 100 ∧ mT M2 7 19 0 = nI (rPass M x) ∧ (rPass M x = 0 → mJ M2 39 0 0 = ((if rPass M x = 0 then itC M (ix x) else 0)).toInt64) ∧ INV (t + 1) M2 := by
  sorry
/-- time -/
theorem pu_1 {t : Nat} {M : Mem} (I : INV t M) (ht : t < 512)  : INV (t + 1) (sT M 7 19 0 0) := by
  sorry
/-- setClass -/
theorem pu_2 {t : Nat} {M : Mem} (I : INV t M) (ht : t < 512) (x y : Int32) (M1 M2 : Mem) (hM1 : M1 = if rSetClass M x y = 0 then sJ (oqN (sT M 1 1 (ix x) y) 6) 39 0 0 ((mT M 1 1 (ix x)).toInt64) else M) (hM2 : M2 = if rSetClass M x y = 0 then sT (sT M1 7 19 0 0) 20 (ix x) 0 y else sT M1 7 19 0 (thI (rSetClass M x y))) : (mN (oqN (sT M 1 1 (ix x) y) 6) 39 = 1) ∧ RC M M1 ∧ 0 < mN M1 7 ∧ 0 < mN M2 7 ∧ 0 < mN M2 39 ∧ rSetClass M x y < 100 ∧ mT M2 7 19 0 = nI (rSetClass M x y) ∧ (rSetClass M x y = 0 → mJ M2 39 0 0 = ((if rSetClass M x y = 0 then mT M 1 1 (ix x) else 0)).toInt64) ∧ INV (t + 1) M2 := by
  sorry
/-- setPromise -/
theorem pu_3 {t : Nat} {M : Mem} (I : INV t M) (ht : t < 512) (x y : Int32) (M1 M2 : Mem) (hM1 : M1 = if rSetPromise M x y = 0 then sJ (oqN (sT M 15 (ix x) 0 y) 6) 39 0 0 ((mT M 15 (ix x) 0).toInt64) else M) (hM2 : M2 = if rSetPromise M x y = 0 then sT (sT M1 7 19 0 0) 21 (ix x) 0 y else sT M1 7 19 0 (thI (rSetPromise M x y))) : (mN (oqN (sT M 15 (ix x) 0 y) 6) 39 = 1) ∧ RC M M1 ∧ 0 < mN M1 7 ∧ 0 < mN M2 7 ∧ 0 < mN M2 39 ∧ rSetPromise M x y < 100 ∧ mT M2 7 19 0 = nI (rSetPromise M x y) ∧ (rSetPromise M x y = 0 → mJ M2 39 0 0 = ((if rSetPromise M x y = 0 then mT M 15 (ix x) 0 else 0)).toInt64) ∧ INV (t + 1) M2 := by
  sorry
/-- mail -/
theorem pu_4 {t : Nat} {M : Mem} (I : INV t M) (ht : t < 512) (x y z u v : Int32) (M1 M2 : Mem) (hM1 : M1 = if rMail M x y z u v = 0 then sJ (mailM M x y z u v) 39 0 0 ((mailN M x y z u v).toInt64) else M) (hM2 : M2 = mailE M M1 x y z u v) : (mN M 7 = 1 ∧ ∀ k, 20 ≤ k → k ≤ 38 → mN M k = 1) ∧ (∀ i, i < mN M 4 → (mL M 8 i).length ≤ mN M 2) ∧ (mN (mailM M x y z u v) 39 = 1) ∧ RC M M1 ∧ 0 < mN M1 7 ∧ 0 < mN M2 7 ∧ 0 < mN M2 39 ∧ rMail M x y z u v < 100 ∧ mT M2 7 19 0 = nI (rMail M x y z u v) ∧ (rMail M x y z u v = 0 → mJ M2 39 0 0 = ((mailV M x y z u v)).toInt64) ∧ INV (t + 1) M2 := by
  sorry
/-- ticketOf -/
theorem pu_5 {t : Nat} {M : Mem} (I : INV t M) (ht : t < 512) (x : Int32) (M1 M2 : Mem) (hM1 : M1 = if rTicketOf M x = 0 then sJ (M) 39 0 0 ((mT M 4 0 (tkM M (ix x))).toInt64) else M) (hM2 : M2 = if rTicketOf M x = 0 then sT M1 7 19 0 0 else sT M1 7 19 0 (thI (rTicketOf M x))) : (mN (M) 39 = 1) ∧ RC M M1 ∧ 0 < mN M1 7 ∧ 0 < mN M2 7 ∧ 0 < mN M2 39 ∧ rTicketOf M x < 100 ∧ mT M2 7 19 0 = nI (rTicketOf M x) ∧ (rTicketOf M x = 0 → mJ M2 39 0 0 = ((if rTicketOf M x = 0 then nI (tkM M (ix x)) else 0)).toInt64) ∧ INV (t + 1) M2 := by
  sorry
/-- mails -/
theorem pu_6 {t : Nat} {M : Mem} (I : INV t M) (ht : t < 512)  : INV (t + 1) (sT M 7 19 0 0) := by
  sorry
/-- mailsOf -/
theorem pu_7 {t : Nat} {M : Mem} (I : INV t M) (ht : t < 512) (x : Int32) (M1 M2 : Mem) (hM1 : M1 = if rMailsOf M x = 0 then sJ (M) 39 0 0 ((nI (mL M 8 (ix x)).length).toInt64) else M) (hM2 : M2 = if rMailsOf M x = 0 then sT M1 7 19 0 0 else sT M1 7 19 0 (thI (rMailsOf M x))) : (mN (M) 39 = 1) ∧ RC M M1 ∧ 0 < mN M1 7 ∧ 0 < mN M2 7 ∧ 0 < mN M2 39 ∧ rMailsOf M x < 100 ∧ mT M2 7 19 0 = nI (rMailsOf M x) ∧ (rMailsOf M x = 0 → mJ M2 39 0 0 = ((if rMailsOf M x = 0 then coN M (ix x) (mN M 2) else 0)).toInt64) ∧ INV (t + 1) M2 := by
  sorry
/-- mailAt -/
theorem pu_8 {t : Nat} {M : Mem} (I : INV t M) (ht : t < 512) (x y : Int32) (M1 M2 : Mem) (hM1 : M1 = if rMailAt M x y = 0 then sJ (M) 39 0 0 ((mT M 2 0 ((mL M 8 (ix x)).getD (ix y) 0)).toInt64) else M) (hM2 : M2 = if rMailAt M x y = 0 then sT M1 7 19 0 0 else sT M1 7 19 0 (thI (rMailAt M x y))) : (mN (M) 39 = 1) ∧ RC M M1 ∧ (ix x < mN M 4 → MlOk M (ix x)) ∧ 0 < mN M1 7 ∧ 0 < mN M2 7 ∧ 0 < mN M2 39 ∧ rMailAt M x y < 100 ∧ mT M2 7 19 0 = nI (rMailAt M x y) ∧ (rMailAt M x y = 0 → mJ M2 39 0 0 = ((if rMailAt M x y = 0 then nI ((mL M 8 (ix x)).getD (ix y) 0) else 0)).toInt64) ∧ INV (t + 1) M2 := by
  sorry
/-- tickets -/
theorem pu_9 {t : Nat} {M : Mem} (I : INV t M) (ht : t < 512)  : INV (t + 1) (sT M 7 19 0 0) := by
  sorry
/-- stateOf -/
theorem pu_10 {t : Nat} {M : Mem} (I : INV t M) (ht : t < 512) (x : Int32) (M1 M2 : Mem) (hM1 : M1 = if rStateOf M x = 0 then sJ (M) 39 0 0 ((stM M (ix x)).toInt64) else M) (hM2 : M2 = if rStateOf M x = 0 then sT M1 7 19 0 0 else sT M1 7 19 0 (thI (rStateOf M x))) : (narrow .char (.int (stM M (ix x))) = .int (stM M (ix x))) ∧ (mN (M) 39 = 1) ∧ RC M M1 ∧ (inN x (mN M 4) = true → narrow .char (.int (mT M 4 6 (ix x))) = .int (mT M 4 6 (ix x))) ∧ 0 < mN M1 7 ∧ 0 < mN M2 7 ∧ 0 < mN M2 39 ∧ rStateOf M x < 100 ∧ mT M2 7 19 0 = nI (rStateOf M x) ∧ (rStateOf M x = 0 → mJ M2 39 0 0 = ((if rStateOf M x = 0 then stM M (ix x) else 63)).toInt64) ∧ INV (t + 1) M2 := by
  sorry
/-- mergedInto -/
theorem pu_11 {t : Nat} {M : Mem} (I : INV t M) (ht : t < 512) (x : Int32)  : ∃ rk : Nat → Nat, (∀ t u, mP M 4 13 t = some u → rk u < rk t) ∧ (mN (M) 39 = 1) ∧ ∀ M1 M2 : Mem, M1 = (if rMergedInto M x = 0 then sJ (M) 39 0 0 ((mT M 4 0 (rtM M (rk (ix x)) (ix x))).toInt64) else M) → M2 = (if rMergedInto M x = 0 then sT M1 7 19 0 0 else sT M1 7 19 0 (thI (rMergedInto M x))) → RC M M1 ∧ 0 < mN M1 7 ∧ 0 < mN M2 7 ∧ 0 < mN M2 39 ∧ rMergedInto M x < 100 ∧ mT M2 7 19 0 = nI (rMergedInto M x) ∧ (rMergedInto M x = 0 → mJ M2 39 0 0 = ((if rMergedInto M x = 0 then nI (rtM M (rk (ix x)) (ix x)) else 0)).toInt64) ∧ INV (t + 1) M2 := by
  sorry
/-- setTopic -/
theorem pu_12 {t : Nat} {M : Mem} (I : INV t M) (ht : t < 512) (x y : Int32) (M1 M2 : Mem) (hM1 : M1 = if rSetTopic M x y = 0 then sJ (stopM M (ix x) y) 39 0 0 ((mT M 4 4 (ix x)).toInt64) else M) (hM2 : M2 = if rSetTopic M x y = 0 then stoR M (sT M1 7 19 0 0) (ix x) y else sT M1 7 19 0 (thI (rSetTopic M x y))) : (mN (stopM M (ix x) y) 39 = 1) ∧ RC M M1 ∧ 0 < mN M1 7 ∧ 0 < mN M2 7 ∧ 0 < mN M2 39 ∧ rSetTopic M x y < 100 ∧ mT M2 7 19 0 = nI (rSetTopic M x y) ∧ (rSetTopic M x y = 0 → mJ M2 39 0 0 = ((if rSetTopic M x y = 0 then mT M 4 4 (ix x) else 0)).toInt64) ∧ INV (t + 1) M2 := by
  sorry
/-- clock -/
theorem pu_13 {t : Nat} {M : Mem} (I : INV t M) (ht : t < 512) (x : Int32) (M1 M2 : Mem) (hM1 : M1 = if rClock M x = 0 then sJ (M) 39 0 0 ((mT M 4 7 (ix x)).toInt64) else M) (hM2 : M2 = if rClock M x = 0 then sT M1 7 19 0 0 else sT M1 7 19 0 (thI (rClock M x))) : (mN (M) 39 = 1) ∧ RC M M1 ∧ 0 < mN M1 7 ∧ 0 < mN M2 7 ∧ 0 < mN M2 39 ∧ rClock M x < 100 ∧ mT M2 7 19 0 = nI (rClock M x) ∧ (rClock M x = 0 → mJ M2 39 0 0 = ((if rClock M x = 0 then mT M 4 7 (ix x) else 0)).toInt64) ∧ INV (t + 1) M2 := by
  sorry
/-- leftOf -/
theorem pu_14 {t : Nat} {M : Mem} (I : INV t M) (ht : t < 512) (x : Int32) (M1 M2 : Mem) (hM1 : M1 = if rLeftOf M x = 0 then sJ (M) 39 0 0 ((leftM M (ix x)).toInt64) else M) (hM2 : M2 = if rLeftOf M x = 0 then sT M1 7 19 0 0 else sT M1 7 19 0 (thI (rLeftOf M x))) : (mN (M) 39 = 1) ∧ RC M M1 ∧ 0 < mN M1 7 ∧ 0 < mN M2 7 ∧ 0 < mN M2 39 ∧ rLeftOf M x < 100 ∧ mT M2 7 19 0 = nI (rLeftOf M x) ∧ (rLeftOf M x = 0 → mJ M2 39 0 0 = ((if rLeftOf M x = 0 then leftM M (ix x) else 0)).toInt64) ∧ INV (t + 1) M2 := by
  sorry
/-- isBreached -/
theorem pu_15 {t : Nat} {M : Mem} (I : INV t M) (ht : t < 512) (x : Int32) (M1 M2 : Mem) (hM1 : M1 = if rIsBreached M x = 0 then sJ (M) 39 0 0 ((if (ohM M (ix x) && !decide (mT M 4 8 (ix x) = 0)) = true then 1 else 0)) else M) (hM2 : M2 = if rIsBreached M x = 0 then sT M1 7 19 0 0 else sT M1 7 19 0 (thI (rIsBreached M x))) : (mN (M) 39 = 1) ∧ RC M M1 ∧ 0 < mN M1 7 ∧ 0 < mN M2 7 ∧ 0 < mN M2 39 ∧ rIsBreached M x < 100 ∧ mT M2 7 19 0 = nI (rIsBreached M x) ∧ (rIsBreached M x = 0 → mJ M2 39 0 0 = if (if rIsBreached M x = 0 then bI (ohM M (ix x) && !decide (mT M 4 8 (ix x) = 0)) else 0) = 0 then 0 else 1) ∧ INV (t + 1) M2 := by
  sorry
/-- addAgent -/
theorem pu_16 {t : Nat} {M : Mem} (I : INV t M) (ht : t < 512) (x : Int32) (M1 M2 : Mem) (hM1 : M1 = if rAddAgent M x = 0 then sJ (agM M x) 39 0 0 ((nI (mN M 0 + 1) - 1).toInt64) else M) (hM2 : M2 = if rAddAgentM M x = 0 then sT (sT (sT M1 7 19 0 0) 36 (mN M 0) 0 x) 7 23 0 (nI (mN M 0) + 1) else sT M1 7 19 0 (thI (rAddAgentM M x))) : (VP M) ∧ (mN (agM M x) 39 = 1) ∧ RC M M1 ∧ 0 < mN M1 7 ∧ 0 < mN M2 7 ∧ 0 < mN M2 39 ∧ rAddAgent M x < 100 ∧ mT M2 7 19 0 = nI (rAddAgent M x) ∧ (rAddAgent M x = 0 → mJ M2 39 0 0 = ((if rAddAgentM M x = 0 then nI (mN M 0) + 1 - 1 else 0)).toInt64) ∧ INV (t + 1) M2 := by
  sorry
/-- learn -/
theorem pu_17 {t : Nat} {M : Mem} (I : INV t M) (ht : t < 512) (x y : Int32) (M1 M2 : Mem) (hM1 : M1 = if rLearn M x y = 0 then sJ (sT M 0 1 (ix x) (mT M 0 1 (ix x) ||| (1 <<< (y &&& 31)))) 39 0 0 ((popC (mT M 0 1 (ix x) ||| (1 <<< (y &&& 31)))).toInt64) else M) (hM2 : M2 = if rLearn M x y = 0 then sT (sT M1 7 19 0 0) 36 (ix x) 0 (mT M 0 1 (ix x) ||| 1 <<< (y &&& 31)) else sT M1 7 19 0 (thI (rLearn M x y))) : (mN (sT M 0 1 (ix x) (mT M 0 1 (ix x) ||| (1 <<< (y &&& 31)))) 39 = 1) ∧ RC M M1 ∧ 0 < mN M1 7 ∧ 0 < mN M2 7 ∧ 0 < mN M2 39 ∧ rLearn M x y < 100 ∧ mT M2 7 19 0 = nI (rLearn M x y) ∧ (rLearn M x y = 0 → mJ M2 39 0 0 = ((if rLearn M x y = 0 then btN (mT M 0 1 (ix x) ||| 1 <<< (y &&& 31)) 10 else 0)).toInt64) ∧ INV (t + 1) M2 := by
  sorry
/-- setOnShift -/
theorem pu_18 {t : Nat} {M : Mem} (I : INV t M) (ht : t < 512) (x y : Int32) (M1 M2 : Mem) (hM1 : M1 = if rSetOnShift M x (!decide (y = 0)) = 0 then sJ (sosM M (ix x) (!decide (y = 0))) 39 0 0 ((if mT M 0 2 (ix x) = 0 then 0 else 1)) else M) (hM2 : M2 = if rSetOnShift M x (!decide (y = 0)) = 0 then sosR M M1 x (!decide (y = 0)) else sT M1 7 19 0 (thI (rSetOnShift M x (!decide (y = 0))))) : (QW M) ∧ (narrow .boolean (.int (mT M 0 2 (ix x))) = .int (mT M 0 2 (ix x))) ∧ (mN (sosM M (ix x) (!decide (y = 0))) 39 = 1) ∧ RC M M1 ∧ (inN x (mN M 0) = true → narrow .boolean (.int (mT M 0 2 (ix x))) = .int (mT M 0 2 (ix x))) ∧ 0 < mN M1 7 ∧ 0 < mN M2 7 ∧ 0 < mN M2 39 ∧ rSetOnShift M x (!decide (y = 0)) < 100 ∧ mT M2 7 19 0 = nI (rSetOnShift M x (!decide (y = 0))) ∧ (rSetOnShift M x (!decide (y = 0)) = 0 → mJ M2 39 0 0 = if (if rSetOnShift M x (!decide (y = 0)) = 0 then mT M 0 2 (ix x) else 0) = 0 then 0 else 1) ∧ INV (t + 1) M2 := by
  sorry
/-- held -/
theorem pu_19 {t : Nat} {M : Mem} (I : INV t M) (ht : t < 512) (x : Int32) (M1 M2 : Mem) (hM1 : M1 = if rHeld M x = 0 then sJ (M) 39 0 0 ((mT M 0 3 (ix x)).toInt64) else M) (hM2 : M2 = if rHeld M x = 0 then sT M1 7 19 0 0 else sT M1 7 19 0 (thI (rHeld M x))) : (mN (M) 39 = 1) ∧ RC M M1 ∧ 0 < mN M1 7 ∧ 0 < mN M2 7 ∧ 0 < mN M2 39 ∧ rHeld M x < 100 ∧ mT M2 7 19 0 = nI (rHeld M x) ∧ (rHeld M x = 0 → mJ M2 39 0 0 = ((if rHeld M x = 0 then heN M (ix x) (mN M 4) else 0)).toInt64) ∧ INV (t + 1) M2 := by
  sorry
/-- agentOf -/
theorem pu_20 {t : Nat} {M : Mem} (I : INV t M) (ht : t < 512) (x : Int32) (M1 M2 : Mem) (hM1 : M1 = if rAgentOf M x = 0 then sJ (M) 39 0 0 ((mT M 0 0 ((mP M 4 9 (ix x)).getD 0)).toInt64) else M) (hM2 : M2 = if rAgentOf M x = 0 then sT M1 7 19 0 0 else sT M1 7 19 0 (thI (rAgentOf M x))) : (mN (M) 39 = 1) ∧ RC M M1 ∧ 0 < mN M1 7 ∧ 0 < mN M2 7 ∧ 0 < mN M2 39 ∧ rAgentOf M x < 100 ∧ mT M2 7 19 0 = nI (rAgentOf M x) ∧ (rAgentOf M x = 0 → mJ M2 39 0 0 = ((if rAgentOf M x = 0 then oI (mP M 4 9 (ix x)) else 0)).toInt64) ∧ INV (t + 1) M2 := by
  sorry
/-- nextFor -/
theorem pu_21 {t : Nat} {M : Mem} (I : INV t M) (ht : t < 512) (x : Int32) (M1 M2 : Mem) (hM1 : M1 = if rNextFor M x = 0 then sJ (M) 39 0 0 ((mT M 4 0 ((nqN M (ix x) 6).getD 0)).toInt64) else M) (hM2 : M2 = if rNextM M x = 0 then sT M1 7 19 0 0 else sT M1 7 19 0 (thI (rNextM M x))) : (mN (M) 39 = 1) ∧ RC M M1 ∧ 0 < mN M1 7 ∧ 0 < mN M2 7 ∧ 0 < mN M2 39 ∧ rNextFor M x < 100 ∧ mT M2 7 19 0 = nI (rNextFor M x) ∧ (rNextFor M x = 0 → mJ M2 39 0 0 = ((if rNextM M x = 0 then oI (mnN M (ix x) (mN M 4)) else 0)).toInt64) ∧ INV (t + 1) M2 := by
  sorry
/-- nextByTickets -/
theorem pu_22 {t : Nat} {M : Mem} (I : INV t M) (ht : t < 512) (x : Int32) (M1 M2 : Mem) (hM1 : M1 = if rNextByTickets M x = 0 then sJ (M) 39 0 0 ((mT M 4 0 ((ntN M (ix x) (mN M 4)).getD 0)).toInt64) else M) (hM2 : M2 = if rNextM M x = 0 then sT M1 7 19 0 0 else sT M1 7 19 0 (thI (rNextM M x))) : (mN (M) 39 = 1) ∧ RC M M1 ∧ 0 < mN M1 7 ∧ 0 < mN M2 7 ∧ 0 < mN M2 39 ∧ rNextByTickets M x < 100 ∧ mT M2 7 19 0 = nI (rNextByTickets M x) ∧ (rNextByTickets M x = 0 → mJ M2 39 0 0 = ((if rNextM M x = 0 then oI (mnN M (ix x) (mN M 4)) else 0)).toInt64) ∧ INV (t + 1) M2 := by
  sorry
/-- waiting -/
theorem pu_23 {t : Nat} {M : Mem} (I : INV t M) (ht : t < 512) (x : Int32) (M1 M2 : Mem) (hM1 : M1 = if rWaiting M x = 0 then sJ (M) 39 0 0 ((wtN M (ix x) 6).toInt64) else M) (hM2 : M2 = if rWaiting M x = 0 then sT M1 7 19 0 0 else sT M1 7 19 0 (thI (rWaiting M x))) : (mN (M) 39 = 1) ∧ RC M M1 ∧ 0 < mN M1 7 ∧ 0 < mN M2 7 ∧ 0 < mN M2 39 ∧ rWaiting M x < 100 ∧ mT M2 7 19 0 = nI (rWaiting M x) ∧ (rWaiting M x = 0 → mJ M2 39 0 0 = ((if rWaiting M x = 0 then fcN M (ix x) (mN M 4) else 0)).toInt64) ∧ INV (t + 1) M2 := by
  sorry
/-- take -/
theorem pu_24 {t : Nat} {M : Mem} (I : INV t M) (ht : t < 512) (x : Int32) (M1 M2 : Mem) (hM1 : M1 = if rTake M x = 0 then sJ (takeM M (ix x) ((nqN M (ix x) 6).getD 0)) 39 0 0 ((mT (takeM M (ix x) ((nqN M (ix x) 6).getD 0)) 4 0 ((nqN M (ix x) 6).getD 0)).toInt64) else M) (hM2 : M2 = if rTakeM M x = 0 then sT (sT M1 7 19 0 0) 28 ((mnN M (ix x) (mN M 4)).getD 0) 0 x else sT M1 7 19 0 (thI (rTakeM M x))) : (mN (takeM M (ix x) ((nqN M (ix x) 6).getD 0)) 39 = 1) ∧ RC M M1 ∧ 0 < mN M1 7 ∧ 0 < mN M2 7 ∧ 0 < mN M2 39 ∧ rTake M x < 100 ∧ mT M2 7 19 0 = nI (rTake M x) ∧ (rTake M x = 0 → mJ M2 39 0 0 = ((if rTakeM M x = 0 then oI (mnN M (ix x) (mN M 4)) else 0)).toInt64) ∧ INV (t + 1) M2 := by
  sorry
/-- handOver -/
theorem pu_25 {t : Nat} {M : Mem} (I : INV t M) (ht : t < 512) (x y : Int32) (M1 M2 : Mem) (hM1 : M1 = if rHandOver M x y = 0 then sJ (hovM M (ix x) (ix y)) 39 0 0 ((mT (hovM M (ix x) (ix y)) 4 10 (ix x)).toInt64) else M) (hM2 : M2 = if rHandM M x y = 0 then sT (sT (sT M1 7 19 0 0) 28 (ix x) 0 y) 29 (ix x) 0 (mT M 4 10 (ix x) + 1) else sT M1 7 19 0 (thI (rHandM M x y))) : (mN (hovM M (ix x) (ix y)) 39 = 1) ∧ RC M M1 ∧ 0 < mN M1 7 ∧ 0 < mN M2 7 ∧ 0 < mN M2 39 ∧ rHandOver M x y < 100 ∧ mT M2 7 19 0 = nI (rHandOver M x y) ∧ (rHandOver M x y = 0 → mJ M2 39 0 0 = ((if rHandM M x y = 0 then mT M 4 10 (ix x) + 1 else 0)).toInt64) ∧ INV (t + 1) M2 := by
  sorry
/-- giveBack -/
theorem pu_26 {t : Nat} {M : Mem} (I : INV t M) (ht : t < 512) (x : Int32) (M1 M2 : Mem) (hM1 : M1 = if rGiveBack M x = 0 then sJ (gbkM M (ix x)) 39 0 0 ((mT (gbkM M (ix x)) 0 3 ((mP M 4 9 (ix x)).getD 0)).toInt64) else M) (hM2 : M2 = if rGiveBack M x = 0 then sT (sT M1 7 19 0 0) 28 (ix x) 0 (-1) else sT M1 7 19 0 (thI (rGiveBack M x))) : (mN (gbkM M (ix x)) 39 = 1) ∧ RC M M1 ∧ 0 < mN M1 7 ∧ 0 < mN M2 7 ∧ 0 < mN M2 39 ∧ rGiveBack M x < 100 ∧ mT M2 7 19 0 = nI (rGiveBack M x) ∧ (rGiveBack M x = 0 → mJ M2 39 0 0 = ((if rGiveBack M x = 0 then heN (sP M 4 9 (ix x) none) ((mP M 4 9 (ix x)).getD 0) (mN M 4) else 0)).toInt64) ∧ INV (t + 1) M2 := by
  sorry
/-- hold -/
theorem pu_27 {t : Nat} {M : Mem} (I : INV t M) (ht : t < 512) (x : Int32) (M1 M2 : Mem) (hM1 : M1 = if rHold M x = 0 then sJ (sT (lqM M (ix x)) 4 6 (ix x) 104) 39 0 0 ((mT (lqM M (ix x)) 4 7 (ix x)).toInt64) else M) (hM2 : M2 = if rTurns M x 111 = 0 then sT (sT M1 7 19 0 0) 33 (ix x) 0 104 else sT M1 7 19 0 (thI (rTurns M x 111))) : (mN (sT (lqM M (ix x)) 4 6 (ix x) 104) 39 = 1) ∧ RC M M1 ∧ 0 < mN M1 7 ∧ 0 < mN M2 7 ∧ 0 < mN M2 39 ∧ rHold M x < 100 ∧ mT M2 7 19 0 = nI (rHold M x) ∧ (rHold M x = 0 → mJ M2 39 0 0 = ((if rTurns M x 111 = 0 then mT M 4 7 (ix x) else 0)).toInt64) ∧ INV (t + 1) M2 := by
  sorry
/-- resume -/
theorem pu_28 {t : Nat} {M : Mem} (I : INV t M) (ht : t < 512) (x : Int32) (M1 M2 : Mem) (hM1 : M1 = if rResume M x = 0 then sJ (jqM (sT M 4 6 (ix x) 111) (ix x)) 39 0 0 ((mT (jqM (sT M 4 6 (ix x) 111) (ix x)) 4 7 (ix x)).toInt64) else M) (hM2 : M2 = if rTurns M x 104 = 0 then sT (sT M1 7 19 0 0) 33 (ix x) 0 111 else sT M1 7 19 0 (thI (rTurns M x 104))) : (mN (jqM (sT M 4 6 (ix x) 111) (ix x)) 39 = 1) ∧ RC M M1 ∧ 0 < mN M1 7 ∧ 0 < mN M2 7 ∧ 0 < mN M2 39 ∧ rResume M x < 100 ∧ mT M2 7 19 0 = nI (rResume M x) ∧ (rResume M x = 0 → mJ M2 39 0 0 = ((if rTurns M x 104 = 0 then mT M 4 7 (ix x) else 0)).toInt64) ∧ INV (t + 1) M2 := by
  sorry
/-- answer -/
theorem pu_29 {t : Nat} {M : Mem} (I : INV t M) (ht : t < 512) (x y : Int32) (M1 M2 : Mem) (hM1 : M1 = if rAnswer M x y = 0 then sJ (ansP M (ix x) (if y = -1 then none else some (ix y))) 39 0 0 ((mT (ansP M (ix x) (if y = -1 then none else some (ix y))) 4 7 (ix x)).toInt64) else M) (hM2 : M2 = if rAnsM M x y = 0 then ansR (sT M1 7 19 0 0) (ix x) y else sT M1 7 19 0 (thI (rAnsM M x y))) : (mN (ansP M (ix x) (if y = -1 then none else some (ix y))) 39 = 1) ∧ RC M M1 ∧ 0 < mN M1 7 ∧ 0 < mN M2 7 ∧ 0 < mN M2 39 ∧ rAnswer M x y < 100 ∧ mT M2 7 19 0 = nI (rAnswer M x y) ∧ (rAnswer M x y = 0 → mJ M2 39 0 0 = ((if rAnsM M x y = 0 then mT M 4 7 (ix x) else 0)).toInt64) ∧ INV (t + 1) M2 := by
  sorry
/-- close -/
theorem pu_30 {t : Nat} {M : Mem} (I : INV t M) (ht : t < 512) (x : Int32) (M1 M2 : Mem) (hM1 : M1 = if rClose M x = 0 then sJ (clsM M (ix x)) 39 0 0 ((ccN (clsM M (ix x)) (mN M 4)).toInt64) else M) (hM2 : M2 = if rClose M x = 0 then sT (sT (lrnR M (sT M1 7 19 0 0) (ix x) 1) 33 (ix x) 0 99) 30 (ix x) 0 (mT M 6 9 0) else sT M1 7 19 0 (thI (rClose M x))) : (mN (clsM M (ix x)) 39 = 1) ∧ RC M M1 ∧ 0 < mN M1 7 ∧ 0 < mN M2 7 ∧ 0 < mN M2 39 ∧ rClose M x < 100 ∧ mT M2 7 19 0 = nI (rClose M x) ∧ (rClose M x = 0 → mJ M2 39 0 0 = ((if rClose M x = 0 then ccN (sT M 4 6 (ix x) 99) (mN M 4) else 0)).toInt64) ∧ INV (t + 1) M2 := by
  sorry
/-- merge -/
theorem pu_31 {t : Nat} {M : Mem} (I : INV t M) (ht : t < 512) (x y : Int32) (M1 M2 : Mem) (hM1 : M1 = if rMerge M x y = 0 then sJ (mrgM M (ix x) (ix y)) 39 0 0 ((nI (mL (mrgM M (ix x) (ix y)) 8 (ix y)).length).toInt64) else M) (hM2 : M2 = if rMerge M x y = 0 then mrgR M (sT M1 7 19 0 0) (ix x) (ix y) y else sT M1 7 19 0 (thI (rMerge M x y))) : (∀ i j, i < mN M 4 → j < mN M 4 → i ≠ j → (mL M 8 i).length + (mL M 8 j).length ≤ 80) ∧ (mN (mrgM M (ix x) (ix y)) 39 = 1) ∧ RC M M1 ∧ 0 < mN M1 7 ∧ 0 < mN M2 7 ∧ 0 < mN M2 39 ∧ rMerge M x y < 100 ∧ mT M2 7 19 0 = nI (rMerge M x y) ∧ (rMerge M x y = 0 → mJ M2 39 0 0 = ((if rMerge M x y = 0 then coG (fun k => if tkM M k = ix x then ix y else tkM M k) (ix y) (mN M 2) else 0)).toInt64) ∧ INV (t + 1) M2 := by
  sorry
/-- addAnswer -/
theorem pu_32 {t : Nat} {M : Mem} (I : INV t M) (ht : t < 512) (x : Int32) (M1 M2 : Mem) (hM1 : M1 = if rAddAnswer M x = 0 then sJ (awN (prM M x) x (mN M 3) 10) 39 0 0 ((nI (mN M 3)).toInt64) else M) (hM2 : M2 = if rAddAnswerM M x = 0 then sT (sT (sT M1 7 19 0 0) 37 (mN M 3) 0 x) 7 24 0 (nI (mN M 3) + 1) else sT M1 7 19 0 (thI (rAddAnswerM M x))) : (VP M) ∧ (mN (awN (prM M x) x (mN M 3) 10) 39 = 1) ∧ RC M M1 ∧ 0 < mN M1 7 ∧ 0 < mN M2 7 ∧ 0 < mN M2 39 ∧ rAddAnswer M x < 100 ∧ mT M2 7 19 0 = nI (rAddAnswer M x) ∧ (rAddAnswer M x = 0 → mJ M2 39 0 0 = ((if rAddAnswerM M x = 0 then nI (mN M 3) + 1 - 1 else 0)).toInt64) ∧ INV (t + 1) M2 := by
  sorry
/-- weight -/
theorem pu_33 {t : Nat} {M : Mem} (I : INV t M) (ht : t < 512) (x y : Int32) (M1 M2 : Mem) (hM1 : M1 = if rWeight M x y = 0 then sJ (M) 39 0 0 ((mT M 14 (ix y) (ix x)).toInt64) else M) (hM2 : M2 = if rWeight M x y = 0 then sT M1 7 19 0 0 else sT M1 7 19 0 (thI (rWeight M x y))) : (mN (M) 39 = 1) ∧ RC M M1 ∧ 0 < mN M1 7 ∧ 0 < mN M2 7 ∧ 0 < mN M2 39 ∧ rWeight M x y < 100 ∧ mT M2 7 19 0 = nI (rWeight M x y) ∧ (rWeight M x y = 0 → mJ M2 39 0 0 = ((if rWeight M x y = 0 then mT M 14 (ix y) (ix x) else 0)).toInt64) ∧ INV (t + 1) M2 := by
  sorry
/-- suggestion -/
theorem pu_34 {t : Nat} {M : Mem} (I : INV t M) (ht : t < 512) (x : Int32) (M1 M2 : Mem) (hM1 : M1 = if rSuggestion M x = 0 then sJ (M) 39 0 0 (((baN M (ix x) (mN M 3)).1).toInt64) else M) (hM2 : M2 = sugR M M1 x) : (mN (M) 39 = 1) ∧ RC M M1 ∧ 0 < mN M1 7 ∧ 0 < mN M2 7 ∧ 0 < mN M2 39 ∧ rSuggestion M x < 100 ∧ mT M2 7 19 0 = nI (rSuggestion M x) ∧ (rSuggestion M x = 0 → mJ M2 39 0 0 = ((if inN x (mN M 4) = true then (smN M M1 (ix x) (mN M 3)).1 else 0)).toInt64) ∧ INV (t + 1) M2 := by
  sorry
/-- suggestionByWords -/
theorem pu_35 {t : Nat} {M : Mem} (I : INV t M) (ht : t < 512) (x : Int32) (M1 M2 : Mem) (hM1 : M1 = if rSuggestionByWords M x = 0 then sJ (scoM M (mT M 4 5 (ix x))) 39 0 0 (((bwN (scoM M (mT M 4 5 (ix x))) (ix x) (mN M 3)).1).toInt64) else if inN x (mN M 4) = true then scoM M (mT M 4 5 (ix x)) else M) (hM2 : M2 = sugR M M1 x) : (mN (scoM M (mT M 4 5 (ix x))) 39 = 1) ∧ RC M M1 ∧ 0 < mN M1 7 ∧ 0 < mN M2 7 ∧ 0 < mN M2 39 ∧ rSuggestionByWords M x < 100 ∧ mT M2 7 19 0 = nI (rSuggestionByWords M x) ∧ (rSuggestionByWords M x = 0 → mJ M2 39 0 0 = ((if inN x (mN M 4) = true then (smN M M1 (ix x) (mN M 3)).1 else 0)).toInt64) ∧ INV (t + 1) M2 := by
  sorry
/-- breaches -/
theorem pu_36 {t : Nat} {M : Mem} (I : INV t M) (ht : t < 512)  : INV (t + 1) (sT M 7 19 0 0) := by
  sorry
/-- answers -/
theorem pu_37 {t : Nat} {M : Mem} (I : INV t M) (ht : t < 512)  : INV (t + 1) (sT M 7 19 0 0) := by
  sorry
/-- minutesOpen -/
theorem pu_38 {t : Nat} {M : Mem} (I : INV t M) (ht : t < 512)  : INV (t + 1) (sT M 7 19 0 0) := by
  sorry
/-- keptShare -/
theorem pu_39 {t : Nat} {M : Mem} (I : INV t M) (ht : t < 512) (M1 M2 : Mem) (hM1 : M1 = if rKeptShare M = 0 then sF (M) 0 ((FP.f2d (FP.fdiv (FP.i2f (mT M 6 12 0)) (FP.i2f (mT M 6 11 0))))) else M) (hM2 : M2 = sT M1 7 19 0 (if 0 < mT M1 7 26 0 then 0 else 1)) : (mN (M) 40 = 1) ∧ RC M M1 ∧ (0 < mN M1 7) ∧ 0 < mN M1 7 ∧ 0 < mN M2 7 ∧ 0 < mN M2 40 ∧ rKeptShare M < 100 ∧ mT M2 7 19 0 = nI (rKeptShare M) ∧ (rKeptShare M = 0 → vf_n64 (FP.f2d ((if 0 < mT M1 7 26 0 then FP.fdiv (FP.i2f (mT M1 7 27 0)) (FP.i2f (mT M1 7 26 0)) else 0))) ∧ FP.dcmp (mF M2 0) (FP.f2d ((if 0 < mT M1 7 26 0 then FP.fdiv (FP.i2f (mT M1 7 27 0)) (FP.i2f (mT M1 7 26 0)) else 0))) = some .eq) ∧ INV (t + 1) M2 := by
  sorry
/-- meanClock -/
theorem pu_40 {t : Nat} {M : Mem} (I : INV t M) (ht : t < 512) (M1 M2 : Mem) (hM1 : M1 = if rMeanClock M = 0 then sF (M) 0 ((FP.ddiv (FP.l2d (mJ M 6 13 0)) (FP.i2d (mT M 6 11 0)))) else M) (hM2 : M2 = sT M1 7 19 0 (if 0 < mT M1 7 26 0 then 0 else 1)) : (mN (M) 40 = 1) ∧ RC M M1 ∧ (0 < mN M1 7) ∧ 0 < mN M1 7 ∧ 0 < mN M2 7 ∧ 0 < mN M2 40 ∧ rMeanClock M < 100 ∧ mT M2 7 19 0 = nI (rMeanClock M) ∧ (rMeanClock M = 0 → vf_n64 (0) ∧ FP.dcmp (mF M2 0) ((if 0 < mT M1 7 26 0 then FP.ddiv (FP.i2d (mT M1 7 28 0)) (FP.i2d (mT M1 7 26 0)) else 0)) = some .eq) ∧ INV (t + 1) M2 := by
  sorry
/-- isSound -/
theorem pu_41 {t : Nat} {M : Mem} (I : INV t M) (ht : t < 512)  : (∀ i, i < mN M 4 → ¬ mT M 4 6 i = 109 → OwnOk M i) ∧ (emN M (mN M 4) = nI (mN M 2)) ∧ (∀ a, a < mN M 0 → nqN M a 6 = ntN M a (mN M 4)) ∧ INV (t + 1) (sT M 7 19 0 0) := by
  sorry
