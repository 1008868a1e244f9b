theorem INV.bnd {t : Nat} {M : Mem} (I : INV t M) : BndOk t M := I.2.2.2.2.2.2.2.2.2.2
theorem sm_f1 {M M1 : Mem} {r : Nat} {v : UInt64} (h : M1 = if r = 0 then sF M 0 v else M) : Sm M M1 := by
  subst h
  split
  · exact Sm.rowF
  · exact Sm.rf
theorem pos_nI {a : Nat} (ha : a < 2 ^ 31) : (0 < nI a) ↔ ¬ nI a = 0 := by
  rw [show (0 : Int32) = nI 0 from rfl, nI_ltI (by decide) ha]
  constructor
  · intro h z
    have := (nI_eq ha (by decide)).mp z
    omega
  · intro h
    rcases Nat.eq_zero_or_pos a with z | z
    · subst z; exact absurd rfl h
    · exact z
/-- the number of tickets sent: the desk's, the reference's -/
theorem sent_eq {t : Nat} {M M1 : Mem} (I : INV t M) (ht : t < 512) (s1 : Sm M M1) : mT M1 7 26 0 = mT M 6 11 0 ∧ mT M1 7 27 0 = mT M 6 12 0 ∧ (mT M1 7 28 0).toInt64 = mJ M 6 13 0 ∧ (0 < mT M 6 11 0 ↔ ¬ mT M 6 11 0 = 0) := by
  have h := I.rc.2.1
  obtain ⟨a, ha, e⟩ := I.bnd.2.2.2.1
  refine ⟨(s1.2.2.2.1 7 26 0 (by decide) (by decide)).trans h.2.2.2.2.2.2.1, (s1.2.2.2.1 7 27 0 (by decide) (by decide)).trans h.2.2.2.2.2.2.2.1, ?_, ?_⟩
  · rw [s1.2.2.2.1 7 28 0 (by decide) (by decide)]
    exact h.2.2.2.2.2.2.2.2.1
  · rw [e]
    exact pos_nI (by omega)
/-- keptShare -/
theorem pu_39 {t : Nat} {M : Mem} (I : INV t M) (ht : t < 512) (M1 M2 : Mem) (hM1 : M1 = if rKeptShare M = 0 then sF (M) 0 ((FP.f2d (FP.fdiv (FP.i2f (mT M 6 12 0)) (FP.i2f (mT M 6 11 0))))) else M) (hM2 : M2 = sT M1 7 19 0 (if 0 < mT M1 7 26 0 then 0 else 1)) : (mN (M) 40 = 1) ∧ RC M M1 ∧ (0 < mN M1 7) ∧ 0 < mN M1 7 ∧ 0 < mN M2 7 ∧ 0 < mN M2 40 ∧ rKeptShare M < 100 ∧ mT M2 7 19 0 = nI (rKeptShare M) ∧ (rKeptShare M = 0 → vf_n64 (FP.f2d ((if 0 < mT M1 7 26 0 then FP.fdiv (FP.i2f (mT M1 7 27 0)) (FP.i2f (mT M1 7 26 0)) else 0))) ∧ FP.dcmp (mF M2 0) (FP.f2d ((if 0 < mT M1 7 26 0 then FP.fdiv (FP.i2f (mT M1 7 27 0)) (FP.i2f (mT M1 7 26 0)) else 0))) = some .eq) ∧ INV (t + 1) M2 := by
  have s1 := sm_f1 hM1
  have s2 : Sm M1 M2 := by rw [hM2]; exact Sm.thr
  obtain ⟨e26, e27, e28, hp⟩ := sent_eq I ht s1
  have n7 := I.n7
  have n40 := I.n40
  have e1 := s1.1
  have e2 := (s1.trans s2).1
  refine ⟨I.n40, sm_rc Sm.rf s1 I.rc, by rw [e1]; omega, by rw [e1]; omega, by rw [e2]; omega, by rw [e2]; omega, by unfold rKeptShare; split <;> omega, ?_, fun h => ?_, inv_sm I (s1.trans s2)⟩
  · rw [hM2]
    show (if 0 < mT M1 7 26 0 then (0 : Int32) else 1) = _
    rw [e26]
    unfold rKeptShare
    by_cases z : mT M 6 11 0 = 0
    · rw [if_pos z, if_neg (fun y => hp.mp y z)]; rfl
    · rw [if_neg z, if_pos (hp.mpr z)]; rfl
  · have hz : ¬ mT M 6 11 0 = 0 := fun z => absurd h (by unfold rKeptShare; rw [if_pos z]; decide)
    have hF : mF M2 0 = FP.f2d (FP.fdiv (FP.i2f (mT M 6 12 0)) (FP.i2f (mT M 6 11 0))) := by
      rw [hM2, hM1, if_pos h]
      rfl
    rw [hF, e26, if_pos (hp.mpr hz)]
    rw [e27]
    exact ⟨(share_num hz).2.1, (share_num hz).2.2⟩
/-- meanClock -/
theorem pu_40 {t : Nat} {M : Mem} (I : INV t M) (ht : t < 512) (M1 M2 : Mem) (hM1 : M1 = if rMeanClock M = 0 then sF (M) 0 ((FP.ddiv (FP.l2d (mJ M 6 13 0)) (FP.i2d (mT M 6 11 0)))) else M) (hM2 : M2 = sT M1 7 19 0 (if 0 < mT M1 7 26 0 then 0 else 1)) : (mN (M) 40 = 1) ∧ RC M M1 ∧ (0 < mN M1 7) ∧ 0 < mN M1 7 ∧ 0 < mN M2 7 ∧ 0 < mN M2 40 ∧ rMeanClock M < 100 ∧ mT M2 7 19 0 = nI (rMeanClock M) ∧ (rMeanClock M = 0 → vf_n64 (0) ∧ FP.dcmp (mF M2 0) ((if 0 < mT M1 7 26 0 then FP.ddiv (FP.i2d (mT M1 7 28 0)) (FP.i2d (mT M1 7 26 0)) else 0)) = some .eq) ∧ INV (t + 1) M2 := by
  have s1 := sm_f1 hM1
  have s2 : Sm M1 M2 := by rw [hM2]; exact Sm.thr
  obtain ⟨e26, e27, e28, hp⟩ := sent_eq I ht s1
  have n7 := I.n7
  have n40 := I.n40
  have e1 := s1.1
  have e2 := (s1.trans s2).1
  refine ⟨I.n40, sm_rc Sm.rf s1 I.rc, by rw [e1]; omega, by rw [e1]; omega, by rw [e2]; omega, by rw [e2]; omega, by unfold rMeanClock; split <;> omega, ?_, fun h => ?_, inv_sm I (s1.trans s2)⟩
  · rw [hM2]
    show (if 0 < mT M1 7 26 0 then (0 : Int32) else 1) = _
    rw [e26]
    unfold rMeanClock
    by_cases z : mT M 6 11 0 = 0
    · rw [if_pos z, if_neg (fun y => hp.mp y z)]; rfl
    · rw [if_neg z, if_pos (hp.mpr z)]; rfl
  · have hz : ¬ mT M 6 11 0 = 0 := fun z => absurd h (by unfold rMeanClock; rw [if_pos z]; decide)
    have hF : mF M2 0 = FP.ddiv (FP.l2d (mJ M 6 13 0)) (FP.i2d (mT M 6 11 0)) := by
      rw [hM2, hM1, if_pos h]
      rfl
    rw [hF, e26, if_pos (hp.mpr hz)]
    rw [i2d_wide (mT M1 7 28 0), e28]
    exact ⟨by unfold vf_n64; decide, (mean_num hz).2⟩
