theorem mn_fi {D : Mem} {a : Nat} : ∀ n, ∀ t, mnN D a n = some t → fiM D a t = true
  | 0, t, h => nomatch (h : (none : Option Nat) = some t)
  | n + 1, t, h => by
    have ih := mn_fi (D := D) (a := a) n
    unfold mnN at h
    by_cases c : fiM D a n = true
    · rw [if_pos c] at h
      cases e : mnN D a n with
      | none =>
        rw [e] at h
        cases h
        exact c
      | some b =>
        rw [e] at h
        by_cases d : soM D n b = true
        · simp only [d, if_true] at h
          cases h
          exact c
        · simp only [d, if_false, Bool.false_eq_true] at h
          cases h
          exact ih _ e
    · rw [if_neg c] at h
      exact ih _ h
theorem he_set {D : Mem} {i a b : Nat} (h : mP D 4 9 i = none) : ∀ n, heN (sP D 4 9 i (some a)) b n = heN D b n + if b = a ∧ i < n then 1 else 0
  | 0 => by rw [if_neg (fun z => Nat.not_lt_zero _ z.2), Int32.add_zero]; rfl
  | n + 1 => by
    unfold heN
    rw [he_set h n]
    by_cases e : n = i
    · subst e
      have p1 : mP (sP D 4 9 n (some a)) 4 9 n = some a := u3_self _ _ _ _ _
      rw [p1, h, if_neg (c := b = a ∧ n < n) (fun z => Nat.lt_irrefl _ z.2), if_neg (c := (none : Option Nat) = some b) (fun z => nomatch z), Int32.add_zero]
      by_cases d : b = a
      · rw [if_pos (by rw [d]), if_pos ⟨d, Nat.lt_succ_self _⟩]
      · rw [if_neg (fun z => d (Option.some.inj z).symm), if_neg (fun z => d z.1)]
    · have p1 : mP (sP D 4 9 i (some a)) 4 9 n = mP D 4 9 n := u3_ne (fun z => e z.2.2)
      have q : (b = a ∧ i < n + 1) ↔ (b = a ∧ i < n) := ⟨fun z => ⟨z.1, by omega⟩, fun z => ⟨z.1, by omega⟩⟩
      rw [p1]
      simp only [q]
      rw [Int32.add_assoc, Int32.add_assoc, Int32.add_comm (if mP D 4 9 n = some b then 1 else 0)]
theorem RC_held {D M : Mem} {a : Nat} {v : Int32} (r : RC D M) : RC (sT D 0 3 a v) M := by
  obtain ⟨r1, r2, r3, r4, r5, r6, r7, r8, r9⟩ := r
  refine ⟨r1, r2, r3, r4, r5, r6, r7, fun b hb => ?_, r9⟩
  rw [mT_sT, mT_sT, if_neg (fun z => absurd z.2.1 (by decide)), if_neg (fun z => absurd z.2.1 (by decide))]
  exact r8 b hb
theorem held_fin : ∀ q : Fin 4, (¬ nI q.1 < 3 ↔ nI q.1 = 3) ∧ (nI q.1 < 3 → q.1 < 3) ∧ nI q.1 + 1 = nI (q.1 + 1) := by decide
theorem inv_join {t i a : Nat} {M X : Mem} (I : INV t M) (hi : i < mN M 4) (ha : a < mN M 0) (hp : mP M 4 9 i = none) (h3 : mT M 0 3 a < 3) (w : Wf X) (q : QI X) (hN : mN X = mN M) (hP : mP X = mP (joinM M i a)) (hT : mT X = mT (joinM M i a)) (hJ : mJ X = mJ M) (hL : ∀ u, mL X 8 u = mL M 8 u) :
    RC M X ∧ INV (t + 1) (sT X 28 i 0 (nI a)) := by
  have nk : ∀ k, k ≠ 0 → ∀ j u, mT (joinM M i a) k j u = mT M k j u := fun k h j u => sT_ne (fun z => h z.1)
  have nj : ∀ j, j ≠ 3 → ∀ u, mT (joinM M i a) 0 j u = mT M 0 j u := fun j h u => sT_ne (fun z => h z.2.1)
  have n3 : ∀ u, mT (joinM M i a) 0 3 u = if u = a then mT M 0 3 a + 1 else mT M 0 3 u := fun u => by
    unfold joinM
    rw [mT_sT]
    by_cases e : u = a
    · rw [if_pos ⟨rfl, rfl, e⟩, if_pos e]
      try rfl
    · rw [if_neg (fun z => e z.2.2), if_neg e]
      try rfl
  refine inv_cell (Z := joinM M i a) I (by decide) w q hN hP hT hJ hL rfl (fun k j u h => nk k (by omega) j u) (fun _ _ => rfl) (RC_held (RC_agent (o := some a) I.rc))
    (num_cg (A := M) rfl (nj 0 (by decide)) (nk 2 (by decide) 0) (nk 4 (by decide) 0) I.num) (ml_cg (A := M) rfl (fun _ => rfl) (fun _ => rfl) I.ml) ?_ I.2.2.2.2.2.2.2.1 (fun b hb => ?_)
    (wrd_cg (A := M) rfl (fun _ => rfl) (fun k => nk 23 (by decide) k 0) (nk 4 (by decide) 5) (fun j => nk 16 (by decide) j 0) (nk 3 (by decide) 0) I.2.2.2.2.2.2.2.2.2.1) (bnd_cg (A := M) rfl (nk 4 (by decide) 7) (nk 6 (by decide) 9 0) (nk 6 (by decide) 11 0) (fun j => nk 15 (by decide) j 0) (nk 7 (by decide) 28 0) (inv_up I).bnd)
  · obtain ⟨c1, c2, c3, c4⟩ := I.cel
    refine ⟨fun u => ?_, fun b => ⟨?_, ?_⟩, fun b hb => ?_, ?_⟩
    · rw [nk 4 (by decide), nk 4 (by decide)]; exact c1 u
    · rw [nj 2 (by decide)]; exact (c2 b).1
    · rw [nj 1 (by decide)]; exact (c2 b).2
    · rw [n3]
      by_cases e : b = a
      · obtain ⟨z, z1, z2⟩ := c3 a ha
        have f := held_fin ⟨z, by omega⟩
        rw [z2] at h3
        rw [if_pos e, z2]
        exact ⟨z + 1, f.2.1 h3, f.2.2⟩
      · rw [if_neg e]; exact c3 b hb
    · have e3 := nk 3 (by decide)
      have e14 := nk 14 (by decide)
      have e23 := nk 23 (by decide)
      have hN2 : mN (joinM M i a) = mN M := rfl
      simpa only [hN2, e3, e14, e23] using c4
  · rw [n3]
    have e : heN (joinM M i a) b (mN M 4) = heN (sP M 4 9 i (some a)) b (mN M 4) := he_cg (A := sP M 4 9 i (some a)) (B := joinM M i a) (fun _ => rfl) b _
    show _ = heN (joinM M i a) b (mN M 4)
    rw [e, he_set hp]
    by_cases d : b = a
    · rw [if_pos d, if_pos ⟨d, hi⟩, d, I.held a ha]
    · rw [if_neg d, if_neg (fun z => d z.1), Int32.add_zero, I.held b hb]
/-- take -/
theorem pu_24 {t : Nat} {M : Mem} (I : INV t M) (ht : t < 512) (x : Int32) (M1 M2 : Mem) (hM1 : M1 = if rTake M x = 0 then sJ (takeM M (ix x) ((nqN M (ix x) 6).getD 0)) 39 0 0 ((mT (takeM M (ix x) ((nqN M (ix x) 6).getD 0)) 4 0 ((nqN M (ix x) 6).getD 0)).toInt64) else M) (hM2 : M2 = if rTakeM M x = 0 then sT (sT M1 7 19 0 0) 28 ((mnN M (ix x) (mN M 4)).getD 0) 0 x else sT M1 7 19 0 (thI (rTakeM M x))) : (mN (takeM M (ix x) ((nqN M (ix x) 6).getD 0)) 39 = 1) ∧ RC M M1 ∧ 0 < mN M1 7 ∧ 0 < mN M2 7 ∧ 0 < mN M2 39 ∧ rTake M x < 100 ∧ mT M2 7 19 0 = nI (rTake M x) ∧ (rTake M x = 0 → mJ M2 39 0 0 = ((if rTakeM M x = 0 then oI (mnN M (ix x) (mN M 4)) else 0)).toInt64) ∧ INV (t + 1) M2 := by
  rw [nq_mn I.wf I.num I.qi] at hM1
  have hx0 : inN x (mN M 0) = true → ix x < mN M 0 ∧ x = nI (ix x) := fun hx => inN_ix hx (by have := wn0 I.wf; omega)
  have he : rTakeM M x = rTake M x := by
    unfold rTakeM rTake
    by_cases hx : inN x (mN M 0) = true
    · obtain ⟨q, q1, q2⟩ := I.cel.2.2.1 (ix x) (hx0 hx).1
      have f := (held_fin ⟨q, by omega⟩).1
      rw [if_pos hx, if_pos hx, ← I.held _ (hx0 hx).1, nq_mn I.wf I.num I.qi, q2]
      simp only [f]
    · rw [if_neg hx, if_neg hx]
  have hi : rTake M x = 0 → inN x (mN M 0) = true ∧ mT M 0 3 (ix x) < 3 ∧ ∃ i, mnN M (ix x) (mN M 4) = some i := fun h => by
    unfold rTake at h
    by_cases hx : inN x (mN M 0) = true
    · rw [if_pos hx] at h
      by_cases c : mT M 0 2 (ix x) = 0 ∨ ¬ mT M 0 3 (ix x) < 3
      · rw [if_pos c] at h; cases h
      · rw [if_neg c, nq_mn I.wf I.num I.qi] at h
        refine ⟨hx, Decidable.not_not.mp (fun z => c (Or.inr z)), ?_⟩
        cases e : mnN M (ix x) (mN M 4) with
        | none => rw [if_pos e] at h; cases h
        | some i => exact ⟨i, rfl⟩
    · rw [if_neg hx] at h; cases h
  have lqN : ∀ i, mN (lqM M i) = mN M ∧ mP (lqM M i) = mP M ∧ mT (lqM M i) = mT M ∧ mJ (lqM M i) = mJ M ∧ ∀ u, mL (lqM M i) 8 u = mL M 8 u := fun i => by
    unfold lqM qremM
    split
    · exact ⟨rfl, rfl, rfl, rfl, fun u => by { rw [mL_sC, mL_sL, if_neg (fun z => absurd z.1 (by decide))] }⟩
    · exact ⟨rfl, rfl, rfl, rfl, fun _ => rfl⟩
  rw [nq_mn I.wf I.num I.qi]
  have tkN : ∀ i a, mN (takeM M a i) = mN M := fun i a => (lqN i).1
  have hX : rTake M x = 0 → RC M (takeM M (ix x) ((mnN M (ix x) (mN M 4)).getD 0)) ∧ INV (t + 1) (sT (takeM M (ix x) ((mnN M (ix x) (mN M 4)).getD 0)) 28 ((mnN M (ix x) (mN M 4)).getD 0) 0 x) := fun h => by
    obtain ⟨hx, h3, i, e⟩ := hi h
    obtain ⟨a1, a2⟩ := hx0 hx
    have i4 := mnN_lt _ _ e
    have fi := mn_fi _ _ e
    have hp : mP M 4 9 i = none := by
      unfold fiM waM at fi
      simp only [Bool.and_eq_true, Option.isNone_iff_eq_none] at fi
      exact fi.1.2
    obtain ⟨l1, l2, l3, l4, l5⟩ := lqN i
    rw [e]
    have r := inv_join (X := takeM M (ix x) i) I i4 a1 hp h3 (wf_joinA (wf_lq I.wf i4) (by rw [l1]; exact a1)) (QI_take I.wf I.qi i4) (tkN i _) (by unfold takeM joinM; show u3 (mP (lqM M i)) 4 9 i _ = u3 (mP M) 4 9 i _; rw [l2]) (by unfold takeM joinM; show u3 (mT (lqM M i)) 0 3 _ (mT (lqM M i) 0 3 _ + 1) = u3 (mT M) 0 3 _ (mT M 0 3 _ + 1); rw [l3]) l4 l5
    rw [← a2] at r
    exact r
  refine ⟨by rw [tkN]; exact I.n39, pu_write (Y := sT (takeM M (ix x) ((mnN M (ix x) (mN M 4)).getD 0)) 28 ((mnN M (ix x) (mN M 4)).getD 0) 0 x) I he hM1 (by unfold rTake; (repeat' split) <;> omega) (tkN _ _) (fun h => ?_) (fun h => (hX h).1) (fun h => ?_) (fun h => ?_) (fun h => (hX h).2)⟩
  · obtain ⟨hx, h3, i, e⟩ := hi h
    rw [if_pos (he.trans h), e]
    have i4 := mnN_lt _ _ e
    show (mT (takeM M (ix x) i) 4 0 i).toInt64 = (nI i).toInt64
    rw [← I.num.1 i i4]
    unfold takeM joinM
    rw [mT_sT, if_neg (fun z => absurd z.1 (by decide))]
    show (mT (lqM M i) 4 0 i).toInt64 = _
    rw [(lqN i).2.2.1]
  · rw [hM2, if_pos (he.trans h), hM1, if_pos h]
    exact sm_end (by decide)
  · rw [hM2, if_neg (fun z => h (he.symm.trans z)), he]
