theorem one_bit (p : Int32) : p &&& 1 = 0 ∨ p &&& 1 = 1 := by
  have h : (p &&& 1).toBitVec.toNat = p.toBitVec.toNat % 2 := by
    rw [Int32.toBitVec_and, BitVec.toNat_and]
    exact Nat.and_one_is_mod _
  rcases Nat.mod_two_eq_zero_or_one p.toBitVec.toNat with e | e
  · refine Or.inl (Int32.toBitVec_inj.mp (BitVec.eq_of_toNat_eq ?_))
    rw [h, e]; rfl
  · refine Or.inr (Int32.toBitVec_inj.mp (BitVec.eq_of_toNat_eq ?_))
    rw [h, e]; rfl
theorem and_bit (p q : Int32) : (p &&& q) &&& 1 = if p &&& 1 = 1 ∧ q &&& 1 = 1 then 1 else 0 := by
  have e0 : 1 &&& (q &&& 1) = q &&& 1 := by rw [Int32.and_comm, Int32.and_assoc, Int32.and_self]
  have e : (p &&& q) &&& 1 = (p &&& 1) &&& (q &&& 1) := by rw [Int32.and_assoc, Int32.and_assoc, e0]
  rw [e]
  rcases one_bit p with a | a <;> rcases one_bit q with b | b <;> rw [a, b] <;> decide
theorem Sm.sc {A : Mem} {i : Nat} {v : Int32} : Sm A (sT A 17 i 0 v) := ⟨rfl, rfl, rfl, fun k j u _ b => if_neg (fun z => b z.1), fun _ _ _ _ => rfl⟩
theorem Sm.fill {A : Mem} : Sm A (fillM A 17 0 0) := ⟨rfl, rfl, rfl, fun k j u _ b => if_neg (fun z => b z.1), fun _ _ _ _ => rfl⟩
theorem sw_sm {M : Mem} {v : Nat} : ∀ n, Sm M (swN M v n)
  | 0 => Sm.rf
  | n + 1 => by
    refine (sw_sm (M := M) (v := v) n).trans ?_
    show Sm _ (swS (swN M v n) v n)
    unfold swS
    split
    · exact Sm.sc
    · exact Sm.rf
theorem ss_sm {M : Mem} {x : Int32} : ∀ n, Sm M (ssN M x n)
  | 0 => Sm.rf
  | n + 1 => by
    refine (ss_sm (M := M) (x := x) n).trans ?_
    show Sm _ (ssS (ssN M x n) x n)
    unfold ssS
    split
    · exact sw_sm 8
    · exact Sm.rf
theorem sco_sm {M : Mem} {x : Int32} : Sm M (scoM M x) := Sm.fill.trans (ss_sm 10)
theorem Sm.t16 {A B : Mem} (h : Sm A B) (j i : Nat) : mT B 16 j i = mT A 16 j i := h.2.2.2.1 16 j i (fun z => absurd z.1 (by decide)) (by decide)
theorem sw_T {M : Mem} {v a : Nat} : ∀ n, mT (swN M v n) 17 a 0 = mT M 17 a 0 + (if a < n ∧ (mT M 16 v 0 >>> (nI a &&& 31)) &&& 1 = 1 then 10 else 0)
  | 0 => by
    rw [if_neg (fun z => Nat.not_lt_zero _ z.1), Int32.add_zero]; rfl
  | n + 1 => by
    have ih := sw_T (M := M) (v := v) (a := a) n
    show mT (swS (swN M v n) v n) 17 a 0 = _
    unfold swS
    rw [(sw_sm n).t16]
    by_cases c : (mT M 16 v 0 >>> (nI n &&& 31)) &&& 1 = 1
    · rw [if_pos c, mT_sT]
      by_cases e : a = n
      · subst e
        rw [if_pos ⟨rfl, rfl, rfl⟩, ih, if_neg (fun z => Nat.lt_irrefl _ z.1), if_pos ⟨Nat.lt_succ_self _, c⟩, Int32.add_zero]
      · rw [if_neg (fun z => e z.2.1), ih]
        have q : (a < n ∧ (mT M 16 v 0 >>> (nI a &&& 31)) &&& 1 = 1) ↔ (a < n + 1 ∧ (mT M 16 v 0 >>> (nI a &&& 31)) &&& 1 = 1) := ⟨fun z => ⟨by omega, z.2⟩, fun z => ⟨by omega, z.2⟩⟩
        simp only [q]
    · rw [if_neg c, ih]
      have q : (a < n ∧ (mT M 16 v 0 >>> (nI a &&& 31)) &&& 1 = 1) ↔ (a < n + 1 ∧ (mT M 16 v 0 >>> (nI a &&& 31)) &&& 1 = 1) := ⟨fun z => ⟨by omega, z.2⟩, fun z => ⟨by
        by_cases e : a = n
        · subst e; exact absurd z.2 c
        · omega, z.2⟩⟩
      simp only [q]
def scI (M : Mem) (x : Int32) (a : Nat) : Nat → Int32
  | 0 => 0
  | n + 1 => scI M x a n + (if (x >>> (nI n &&& 31)) &&& 1 = 1 ∧ (mT M 16 n 0 >>> (nI a &&& 31)) &&& 1 = 1 then 10 else 0)
theorem ss_T {M : Mem} {x : Int32} {a : Nat} (ha : a < 8) : ∀ n, mT (ssN M x n) 17 a 0 = mT M 17 a 0 + scI M x a n
  | 0 => by
    show mT M 17 a 0 = mT M 17 a 0 + 0
    rw [Int32.add_zero]
  | n + 1 => by
    have ih := ss_T (M := M) (x := x) ha n
    show mT (ssS (ssN M x n) x n) 17 a 0 = _
    unfold ssS scI
    by_cases c : (x >>> (nI n &&& 31)) &&& 1 = 1
    · rw [if_pos c, sw_T 8, ih, (ss_sm n).t16, Int32.add_assoc]
      have q : (a < 8 ∧ (mT M 16 n 0 >>> (nI a &&& 31)) &&& 1 = 1) ↔ ((x >>> (nI n &&& 31)) &&& 1 = 1 ∧ (mT M 16 n 0 >>> (nI a &&& 31)) &&& 1 = 1) := ⟨fun z => ⟨c, z.2⟩, fun z => ⟨ha, z.2⟩⟩
      simp only [q]
    · rw [if_neg c, ih, if_neg (fun z => c z.1), Int32.add_zero]
theorem sc_bt {M : Mem} {x : Int32} {a : Nat} (hb : ∀ v, v < 10 → ((mT M 16 v 0 >>> (nI a &&& 31)) &&& 1 = 1 ↔ (mT M 3 0 a >>> (nI v &&& 31)) &&& 1 = 1)) : ∀ n, n ≤ 10 → scI M x a n = 10 * btN (mT M 3 0 a &&& x) n
  | 0, _ => by
    show (0 : Int32) = 10 * 0
    decide
  | n + 1, h => by
    have ih := sc_bt (x := x) hb n (by omega)
    have b := hb n (by omega)
    unfold scI btN
    rw [ih, Int32.mul_add, Int32.shiftRight_and, and_bit]
    refine congrArg (fun z => 10 * btN (mT M 3 0 a &&& x) n + z) ?_
    by_cases c : (mT M 3 0 a >>> (nI n &&& 31)) &&& 1 = 1 ∧ (x >>> (nI n &&& 31)) &&& 1 = 1
    · rw [if_pos c, if_pos ⟨c.2, b.mpr c.1⟩]; decide
    · rw [if_neg c, if_neg (fun z => c ⟨b.mp z.2, z.1⟩)]; decide
set_option maxRecDepth 100000 in
theorem pos10_fin : ∀ n : Fin 1024, (0 < 10 * btN (nI n.1) 10 ↔ 0 < btN (nI n.1) 10) := by decide +kernel
theorem bw_ba {S M : Mem} {t : Nat} (h4 : toM S t = toM M t) (h14 : ∀ j i, mT S 14 j i = mT M 14 j i) (hc : ∀ n, n < mN M 3 → mT S 17 n 0 = 10 * coM M t n ∧ (0 < 10 * coM M t n ↔ 0 < coM M t n)) : ∀ n, n ≤ mN M 3 → bwN S t n = baN M t n
  | 0, _ => rfl
  | n + 1, h => by
    have ih := bw_ba h4 h14 hc n (by omega)
    obtain ⟨e, p⟩ := hc n (by omega)
    unfold bwN baN bwS baS
    rw [ih, e, h14, h4]
    simp only [p]
theorem wo_sm {D A B : Mem} {t : Nat} (h : Sm A B) : ∀ n, woN D B t n = woN D A t n
  | 0 => rfl
  | n + 1 => by unfold woN; rw [wo_sm h n, h.2.2.2.1 23 n 0 (fun z => absurd z.1 (by decide)) (by decide)]
theorem pu_read2 {t r : Nat} {M M1 M2 : Mem} {z : Int64} (I : INV t M) (s1 : Sm M M1) (hM2 : M2 = if r = 0 then sT M1 7 19 0 0 else sT M1 7 19 0 (thI r)) (h4 : r ≤ 4) (hv : r = 0 → mJ M1 39 0 0 = z) :
    RC M M1 ∧ 0 < mN M1 7 ∧ 0 < mN M2 7 ∧ 0 < mN M2 39 ∧ r < 100 ∧ mT M2 7 19 0 = nI r ∧ (r = 0 → mJ M2 39 0 0 = z) ∧ INV (t + 1) M2 := by
  have s2 : Sm M1 M2 := by rw [hM2]; split <;> exact Sm.thr
  have n7 := I.n7
  have n39 := I.n39
  have e1 := s1.1
  have e2 := (s1.trans s2).1
  refine ⟨sm_rc Sm.rf s1 I.rc, by rw [e1]; omega, by rw [e2]; omega, by rw [e2]; omega, by omega, ?_, fun h => ?_, inv_sm I (s1.trans s2)⟩
  · rw [hM2]
    by_cases h : r = 0
    · rw [if_pos h, h]; rfl
    · rw [if_neg h, ← thI_nI h4]; rfl
  · rw [← hv h, hM2, if_pos h]
    rfl
/-- suggestionByWords -/
theorem pu_35 {t : Nat} {M : Mem} (I : INV t M) (ht : t < 512) (x : Int32) (M1 M2 : Mem) (hM1 : M1 = if rSuggestionByWords M x = 0 then sJ (scoM M (mT M 4 5 (ix x))) 39 0 0 (((bwN (scoM M (mT M 4 5 (ix x))) (ix x) (mN M 3)).1).toInt64) else if inN x (mN M 4) = true then scoM M (mT M 4 5 (ix x)) else M) (hM2 : M2 = sugR M M1 x) : (mN (scoM M (mT M 4 5 (ix x))) 39 = 1) ∧ RC M M1 ∧ 0 < mN M1 7 ∧ 0 < mN M2 7 ∧ 0 < mN M2 39 ∧ rSuggestionByWords M x < 100 ∧ mT M2 7 19 0 = nI (rSuggestionByWords M x) ∧ (rSuggestionByWords M x = 0 → mJ M2 39 0 0 = ((if inN x (mN M 4) = true then (smN M M1 (ix x) (mN M 3)).1 else 0)).toInt64) ∧ INV (t + 1) M2 := by
  have ss : Sm M (scoM M (mT M 4 5 (ix x))) := sco_sm
  have n3 := wn3 I.wf
  have hq : ∀ n, n < mN M 3 → ∃ q, q < 1024 ∧ mT M 3 0 n &&& mT M 4 5 (ix x) = nI q := fun n hn => by
    obtain ⟨q, q1, q2⟩ := I.cel.2.2.2.2.1 n hn
    rw [q2]
    exact and_low q1
  have hbw : bwN (scoM M (mT M 4 5 (ix x))) (ix x) (mN M 3) = baN M (ix x) (mN M 3) := by
    refine bw_ba ?_ (fun j i => ss.2.2.2.1 14 j i (fun z => absurd z.1 (by decide)) (by decide)) (fun n hn => ?_) _ (Nat.le_refl _)
    · unfold toM; rw [ss.2.2.2.1 4 _ _ (fun z => absurd z.1 (by decide)) (by decide)]
    · obtain ⟨q, q1, q2⟩ := hq n hn
      have eb : coM M (ix x) n = btN (mT M 3 0 n &&& mT M 4 5 (ix x)) 10 := by unfold coM; rw [pop_bt q1 q2]
      refine ⟨?_, ?_⟩
      · have e := ss_T (M := fillM M 17 0 0) (x := mT M 4 5 (ix x)) (a := n) (by omega) 10
        have e0 : mT (fillM M 17 0 0) 17 n 0 = 0 := if_pos ⟨rfl, Nat.lt_of_lt_of_le hn n3, rfl⟩
        have e3 : mT (fillM M 17 0 0) 3 0 n = mT M 3 0 n := (Sm.fill (A := M)).2.2.2.1 3 0 n (fun z => absurd z.1 (by decide)) (by decide)
        have e16 : ∀ v, mT (fillM M 17 0 0) 16 v 0 = mT M 16 v 0 := fun v => (Sm.fill (A := M)).t16 v 0
        rw [e0, Int32.zero_add, sc_bt (fun v hv => by
          rw [e16, e3]
          exact (I.2.2.2.2.2.2.2.2.2.1.2 v n hv (by omega)).trans ⟨fun z => z.2, fun z => ⟨hn, z⟩⟩) 10 (Nat.le_refl _), e3, ← eb] at e
        exact e
      · rw [eb, q2]
        exact pos10_fin ⟨q, q1⟩
  have s1 : Sm M M1 := by
    rw [hM1]
    split
    · exact ss.trans Sm.row
    · split
      · exact ss
      · exact Sm.rf
  have hs : inN x (mN M 4) = true → smN M M1 (ix x) (mN M 3) = baN M (ix x) (mN M 3) := fun hx => by
    have h4 := (inN_ix hx (by have := wn4 I.wf; omega)).1
    refine sm_ba ?_ hq _ (Nat.le_refl _)
    rw [wo_sm s1]
    exact I.2.2.2.2.2.2.2.2.2.1.1 _ h4
  have h2 : M2 = if rSuggestionByWords M x = 0 then sT M1 7 19 0 0 else sT M1 7 19 0 (thI (rSuggestionByWords M x)) := by
    rw [hM2]
    unfold sugR rSuggestionByWords
    by_cases hx : inN x (mN M 4) = true
    · rw [if_pos hx, if_pos hx, hs hx, hbw, sT_two]
      have z := (ba_sign (M := M) (t := ix x) (mN M 3) (by omega)).1
      by_cases c : (baN M (ix x) (mN M 3)).1 = -1
      · rw [if_pos c, if_pos (z.mpr c)]; rfl
      · rw [if_neg c, if_neg (fun y => c (z.mp y))]; rfl
    · rw [if_neg hx, if_neg hx]; rfl
  refine ⟨(congrFun ss.1 39).trans I.n39, pu_read2 I s1 h2 (by unfold rSuggestionByWords; (repeat' split) <;> omega) (fun h => ?_)⟩
  have hx : inN x (mN M 4) = true := by
    by_cases hx : inN x (mN M 4) = true
    · exact hx
    · exact absurd h (by unfold rSuggestionByWords; rw [if_neg hx]; decide)
  rw [if_pos hx, hs hx, hM1, if_pos h, hbw]
  rfl
