/-- the desk's memory once the topic is set, but for the lines -/
def stoZ (M : Mem) (i : Nat) (y : Int32) : Mem := match mP M 4 9 i with
  | none => sT M 4 4 i y
  | some a => if hsM M a y = true then sT M 4 4 i y else leaveM (sT M 4 4 i y) i
theorem top_N {M : Mem} {i : Nat} {y : Int32} : mN (topM M i y) = mN M := mN_lq
theorem top_P {M : Mem} {i : Nat} {y : Int32} : mP (topM M i y) = mP M := mP_lq
theorem top_T {M : Mem} {i : Nat} {y : Int32} : mT (topM M i y) = mT (sT M 4 4 i y) := by
  funext k j u
  unfold topM
  rw [mT_sT, mT_sT, mT_lq]
theorem top_hs {M : Mem} {i a : Nat} {y : Int32} : hsM (topM M i y) a y = hsM M a y := by
  unfold hsM
  rw [top_T, mT_sT, if_neg (fun z => absurd z.1 (by decide))]
theorem leave_cg {A B : Mem} {i : Nat} (hN : mN A = mN B) (hP : mP A = mP B) (hT : mT A = mT B) (hJ : mJ A = mJ B) : mN (leaveM A i) = mN (leaveM B i) ∧ mP (leaveM A i) = mP (leaveM B i) ∧ mT (leaveM A i) = mT (leaveM B i) ∧ mJ (leaveM A i) = mJ (leaveM B i) := by
  cases e : mP B 4 9 i with
  | none =>
    have e' : mP A 4 9 i = none := by rw [hP]; exact e
    have q1 : leaveM A i = sP A 4 9 i none := by unfold leaveM; rw [e']
    have q2 : leaveM B i = sP B 4 9 i none := by unfold leaveM; rw [e]
    rw [q1, q2, sP_same e, sP_same e']
    exact ⟨hN, hP, hT, hJ⟩
  | some a =>
    have e' : mP A 4 9 i = some a := by rw [hP]; exact e
    rw [leave_T e, leave_T e']
    refine ⟨hN, ?_, ?_, hJ⟩
    · show u3 (mP A) 4 9 i none = u3 (mP B) 4 9 i none
      rw [hP]
    · show u3 (mT A) 0 3 a (mT A 0 3 a - 1) = u3 (mT B) 0 3 a (mT B 0 3 a - 1)
      rw [hT]
theorem stop_eq {M : Mem} {i : Nat} {y : Int32} : mN (stopM M i y) = mN (stoZ M i y) ∧ mP (stopM M i y) = mP (stoZ M i y) ∧ mT (stopM M i y) = mT (stoZ M i y) ∧ mJ (stopM M i y) = mJ (stoZ M i y) ∧ ∀ u, mL (stopM M i y) 8 u = mL (stoZ M i y) 8 u := by
  have l8 : ∀ u, mL (topM M i y) 8 u = mL M 8 u := fun u => l8_lq
  have jT : mJ (topM M i y) = mJ M := mJ_lq
  unfold stopM stoZ
  rw [mN_jq, mP_jq, mT_jq, mJ_jq]
  have l9 : ∀ {N : Mem} u, mL (jqM N i) 8 u = mL N 8 u := fun u => l8_jq
  simp only [l9]
  rw [top_P]
  cases mP M 4 9 i with
  | none => exact ⟨top_N, top_P, top_T, jT, l8⟩
  | some a =>
    simp only [top_hs]
    by_cases h : hsM M a y = true
    · rw [if_pos h, if_pos h]
      exact ⟨top_N, top_P, top_T, jT, l8⟩
    · rw [if_neg h, if_neg h]
      obtain ⟨q1, q2, q3, q4⟩ := leave_cg (A := topM M i y) (B := sT M 4 4 i y) (i := i) top_N top_P top_T jT
      exact ⟨q1, q2, q3, q4, fun u => by rw [mL_leave, mL_leave]; exact l8 u⟩
theorem stoZ_N {M : Mem} {i : Nat} {y : Int32} : mN (stoZ M i y) = mN M := by
  unfold stoZ
  split
  · rfl
  · split
    · rfl
    · exact mN_leave
theorem stoZ_J {M : Mem} {i : Nat} {y : Int32} : mJ (stoZ M i y) = mJ M := by
  unfold stoZ
  split
  · rfl
  · split
    · rfl
    · exact leave_J
theorem stoZ_T {M : Mem} {i k j u : Nat} {y : Int32} (h0 : ¬ (k = 0 ∧ j = 3)) (h4 : k ≠ 4) : mT (stoZ M i y) k j u = mT M k j u := by
  unfold stoZ
  split
  · exact sT_ne (fun z => h4 z.1)
  · split
    · exact sT_ne (fun z => h4 z.1)
    · rw [mT_leave h0]; exact sT_ne (fun z => h4 z.1)
theorem RC_stoZ {M N : Mem} {i : Nat} {y : Int32} (r : RC M N) : RC (stoZ M i y) (stoR M N i y) := by
  unfold stoZ stoR
  cases e : mP M 4 9 i with
  | none => exact RC_topic r
  | some a =>
    simp only
    by_cases h : hsM M a y = true
    · rw [if_pos h, if_pos h]; exact RC_topic r
    · rw [if_neg h, if_neg h]
      exact RC_leave (RC_topic r) (by show mP M 4 9 i ≠ none; rw [e]; exact fun z => nomatch z)
theorem dk_stoZ {t i : Nat} {M : Mem} {y : Int32} (d : Dk t M) (n4 : mN M 4 ≤ 40) (hi : i < mN M 4) (ha : ∀ a, mP M 4 9 i = some a → a < mN M 0) : Dk t (stoZ M i y) := by
  unfold stoZ
  split
  · exact dk_T rfl d
  · split
    · exact dk_T rfl d
    · exact dk_leave (dk_T rfl d) n4 hi ha
theorem wf_stop {M : Mem} {i q : Nat} (w : Wf M) (h : QI M) (hi : i < mN M 4) (hq : q < 6) : Wf (stopM M i (nI q)) := by
  have wt : Wf (topM M i (nI q)) := wf_topic hq (wf_lq w hi)
  have key : ∀ N : Mem, Wf N → mN N = mN M → mL N = mL (lqM M i) → Wf (jqM N i) := fun N wN hN hL => by
    have hi' : i < mN N 4 := by rw [hN]; exact hi
    refine wf_jq wN hi' (fun _ z => ?_)
    rw [hL] at z
    exact (((QX_lq w h hi (toM N i) (wN.2.2.1 i hi').2.2.2.1).1 i).mp z).2.2.2 rfl
  unfold stopM
  cases mP (topM M i (nI q)) 4 9 i with
  | none => exact key _ wt top_N rfl
  | some a =>
    simp only
    by_cases h : hsM (topM M i (nI q)) a (nI q) = true
    · rw [if_pos h]; exact key _ wt top_N rfl
    · rw [if_neg h]; exact key _ (wf_leave wt) (mN_leave.trans top_N) mL_leave
theorem stoR_same {D N : Mem} {i : Nat} {y : Int32} : mT (stoR D N i y) 7 19 0 = mT N 7 19 0 ∧ mT (stoR D N i y) 7 28 0 = mT N 7 28 0 ∧ mJ (stoR D N i y) = mJ N ∧ ∀ X, EqD X N → EqD X (stoR D N i y) := by
  unfold stoR
  split
  · exact ⟨rfl, rfl, rfl, fun X e => EqD.sT (Or.inr (by decide)) e⟩
  · split
    · exact ⟨rfl, rfl, rfl, fun X e => EqD.sT (Or.inr (by decide)) e⟩
    · exact ⟨rfl, rfl, rfl, fun X e => EqD.sT (Or.inr (by decide)) (EqD.sT (Or.inr (by decide)) e)⟩
/-- setTopic -/
theorem pu_12 {t : Nat} {M : Mem} (I : INV t M) (ht : t < 512) (x y : Int32) (M1 M2 : Mem) (hM1 : M1 = if rSetTopic M x y = 0 then sJ (stopM M (ix x) y) 39 0 0 ((mT M 4 4 (ix x)).toInt64) else M) (hM2 : M2 = if rSetTopic M x y = 0 then stoR M (sT M1 7 19 0 0) (ix x) y else sT M1 7 19 0 (thI (rSetTopic M x y))) : (mN (stopM M (ix x) y) 39 = 1) ∧ RC M M1 ∧ 0 < mN M1 7 ∧ 0 < mN M2 7 ∧ 0 < mN M2 39 ∧ rSetTopic M x y < 100 ∧ mT M2 7 19 0 = nI (rSetTopic M x y) ∧ (rSetTopic M x y = 0 → mJ M2 39 0 0 = ((if rSetTopic M x y = 0 then mT M 4 4 (ix x) else 0)).toInt64) ∧ INV (t + 1) M2 := by
  have hi : rSetTopic M x y = 0 → ix x < mN M 4 ∧ (ix y < 6 ∧ y = nI (ix y)) := fun h => by
    unfold rSetTopic at h
    by_cases hx : inN x (mN M 4) = true
    · rw [if_pos hx] at h
      by_cases hy : inB y 0 5 = true
      · exact ⟨(inN_ix hx (by have := wn4 I.wf; omega)).1, inB_ix (x := y) (n := 6) hy (by omega)⟩
      · rw [if_neg hy] at h; cases h
    · rw [if_neg hx] at h; cases h
  obtain ⟨zN, zP, zT, zJ, zL⟩ := stop_eq (M := M) (i := ix x) (y := y)
  have hN : mN (stopM M (ix x) y) = mN M := zN.trans stoZ_N
  have hmo : RC M (stopM M (ix x) y) := rc_mo ⟨fun _ _ => by rw [hN], fun j u _ => by rw [zT]; exact stoZ_T (fun z => absurd z.1 (by decide)) (by decide), fun k j u h1 h2 => by rw [zT]; exact stoZ_T (fun z => by omega) (by omega), fun j u => by rw [zJ, stoZ_J]⟩ I.rc
  refine ⟨by rw [hN]; exact I.n39, pu_end I rfl hM1 (by unfold rSetTopic; (repeat' split) <;> omega) (fun h => by rw [if_pos h]) (fun _ => hmo) (fun h => ?_) (fun h => by rw [hM2, if_neg h]) (fun h => ?_)⟩
  · rw [hM2, if_pos h]
    exact ⟨stoR_same.1.trans (by rw [mT_sT, if_pos ⟨rfl, rfl, rfl⟩]), by rw [stoR_same.2.2.1]; rfl⟩
  · obtain ⟨h4, hq, hy⟩ := hi h
    have e1 : EqD (stopM M (ix x) y) M2 := by
      rw [hM2, if_pos h, hM1, if_pos h]
      exact stoR_same.2.2.2 _ EqD.row
    have w1 : Wf (stopM M (ix x) y) := by rw [hy]; exact wf_stop I.wf I.qi h4 hq
    have q1 : QI (stopM M (ix x) y) := by rw [hy]; exact QI_stop I.wf I.num I.qi h4 hq
    have d1 : Dk (t + 1) (stopM M (ix x) y) := dk_ln (Z := stoZ M (ix x) y) zN zP zT zL (dk_stoZ (dk_up I.dk) (wn4 I.wf) h4 (I.wf.2.2.1 _ h4).2.2.2.2.1)
    refine inv_ref (X := stopM M (ix x) y) w1 q1 d1 e1 (by rw [hN]; exact I.n39) (by rw [hN]; exact I.n40) ?_ (I.b28 ?_)
    · rw [hM2, if_pos h, hM1, if_pos h]
      exact rc_ln (Z := stoZ M (ix x) y) zN zP zT zJ (RC_stoZ (rc_row hmo))
    · rw [hM2, if_pos h, hM1, if_pos h, stoR_same.2.1, mT_sT, if_neg (fun z => absurd z.2.1 (by decide))]
      rw [mT_sJ, zT]
      exact stoZ_T (fun z => absurd z.1 (by decide)) (by decide)
