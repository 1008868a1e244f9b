theorem ag_T {M : Mem} {x : Int32} {k j i : Nat} (h : ¬ (k = 0 ∧ j < 4 ∧ i = mN M 0)) : mT (agM M x) k j i = mT M k j i := by
  have e : ∀ j', j' < 4 → ¬ (k = 0 ∧ j = j' ∧ i = mN M 0) := fun j' h' z => h ⟨z.1, by omega, z.2.2⟩
  show mT (sT (sT (sT (sT M 0 0 (mN M 0) (nI (mN M 0))) 0 1 (mN M 0) x) 0 2 (mN M 0) 0) 0 3 (mN M 0) 0) k j i = _
  rw [mT_sT, if_neg (e 3 (by omega)), mT_sT, if_neg (e 2 (by omega)), mT_sT, if_neg (e 1 (by omega)), mT_sT, if_neg (e 0 (by omega))]
theorem ag_0 {M : Mem} {x : Int32} : mT (agM M x) 0 0 (mN M 0) = nI (mN M 0) ∧ mT (agM M x) 0 1 (mN M 0) = x ∧ mT (agM M x) 0 2 (mN M 0) = 0 ∧ mT (agM M x) 0 3 (mN M 0) = 0 := by
  have e : ∀ j, mT (agM M x) 0 j (mN M 0) = mT (sT (sT (sT (sT M 0 0 (mN M 0) (nI (mN M 0))) 0 1 (mN M 0) x) 0 2 (mN M 0) 0) 0 3 (mN M 0) 0) 0 j (mN M 0) := fun j => rfl
  refine ⟨?_, ?_, ?_, ?_⟩ <;> simp [e, mT_sT]
theorem ag_N {M : Mem} {x : Int32} {k : Nat} (h : k ≠ 0) : mN (agM M x) k = mN M k := if_neg h
theorem he_none {D : Mem} {a : Nat} : ∀ n, (∀ i, i < n → mP D 4 9 i ≠ some a) → heN D a n = 0
  | 0, _ => rfl
  | n + 1, h => by
    unfold heN
    rw [he_none n (fun i hi => h i (by omega)), if_neg (h n (by omega))]
    rfl
theorem dk_ag {t : Nat} {M : Mem} {x : Int32} (d : Dk t M) (w : Wf M) (hx : ∃ q, q < 64 ∧ x = nI q) : Dk t (agM M x) := by
  obtain ⟨⟨u1, u2, u3⟩, ml, ⟨c1, c2, c3, c4, c5, c6⟩, rk, held, ⟨o1, o2⟩, bnd⟩ := d
  have nk : ∀ k, k ≠ 0 → ∀ j u, mT (agM M x) k j u = mT M k j u := fun k h j u => ag_T (fun z => h z.1)
  have n0 : ∀ j u, u ≠ mN M 0 → mT (agM M x) 0 j u = mT M 0 j u := fun j u h => ag_T (fun z => h z.2.2)
  obtain ⟨a0, a1, a2, a3⟩ := ag_0 (M := M) (x := x)
  have lt : ∀ a, a < mN (agM M x) 0 → a < mN M 0 ∨ a = mN M 0 := fun a h => by
    have h : a < mN M 0 + 1 := h
    omega
  refine ⟨⟨fun i hi => ?_, fun i hi => ?_, fun i hi => ?_⟩, fun i hi => ?_, ⟨fun i => ?_, fun a => ?_, fun a ha => ?_, fun k hk => ?_, fun a ha => ?_, fun a ha p hp => ?_⟩, rk, fun a ha => ?_, ⟨fun i hi => ?_, fun v a hv ha => ?_⟩, ?_⟩
  · rw [nk 4 (by decide)]; exact u1 i hi
  · rw [nk 2 (by decide)]; exact u2 i hi
  · rcases lt i hi with h | h
    · rw [n0 0 i (by omega)]; exact u3 i h
    · rw [h]; exact a0
  · obtain ⟨m1, m2, m3⟩ := ml i hi
    exact ⟨m1, m2, (co_cg (A := M) (B := agM M x) (fun _ => rfl) i _).trans m3⟩
  · rw [nk 4 (by decide), nk 4 (by decide)]; exact c1 i
  · by_cases h : a = mN M 0
    · rw [h, a2, a1]; exact ⟨Or.inl rfl, hx⟩
    · rw [n0 2 a h, n0 1 a h]; exact c2 a
  · rcases lt a ha with h | h
    · rw [n0 3 a (by omega)]; exact c3 a h
    · rw [h, a3]; exact ⟨0, by omega, rfl⟩
  · rw [nk 23 (by decide)]; exact c4 k hk
  · rw [nk 3 (by decide)]; exact c5 a ha
  · rw [nk 14 (by decide)]; exact c6 a ha p hp
  · have e : heN (agM M x) a (mN M 4) = heN M a (mN M 4) := he_cg (A := M) (B := agM M x) (fun _ => rfl) a _
    show mT (agM M x) 0 3 a = heN (agM M x) a (mN M 4)
    rw [e]
    rcases lt a ha with h | h
    · rw [n0 3 a (by omega)]; exact held a h
    · rw [h, a3, he_none _ (fun i hi z => Nat.lt_irrefl _ ((w.2.2.1 i hi).2.2.2.2.1 _ z))]
  · have e : woN (agM M x) (agM M x) i (mN M 2) = woN M M i (mN M 2) := wo_cg (A := M) (B := agM M x) (fun _ => rfl) (fun k => nk 23 (by decide) k 0) i _
    show woN (agM M x) (agM M x) i (mN M 2) = mT (agM M x) 4 5 i
    rw [e, nk 4 (by decide)]
    exact o1 i hi
  · rw [nk 16 (by decide), nk 3 (by decide)]; exact o2 v a hv ha
  · obtain ⟨b1, b2, b3, b4, b5⟩ := bnd
    refine ⟨?_, fun i hi => ?_, fun c hc => ?_, ?_, ?_⟩
    · rw [nk 6 (by decide)]; exact b1
    · rw [nk 4 (by decide)]; exact b2 i hi
    · rw [nk 15 (by decide)]; exact b3 c hc
    · rw [nk 6 (by decide)]; exact b4
    · rw [nk 7 (by decide)]; exact b5
theorem RC_ag {M N : Mem} {x : Int32} (r : RC M N) (h6 : mN M 0 < 6) : RC (agM M x) (sT (sT N 36 (mN M 0) 0 x) 7 23 0 (nI (mN M 0) + 1)) := by
  obtain ⟨r1, ⟨b1, b2, b3, b4, b5⟩, r3, r4, r5, r6, r7, r8, r9, r10⟩ := r
  have e23 : nI (mN M 0) + 1 = nI (mN M 0 + 1) := nI_add _ 1
  obtain ⟨a0, a1, a2, a3⟩ := ag_0 (M := M) (x := x)
  refine ⟨r1, ⟨b1, b2, b3, e23, b5⟩, r3, r4, r5, r6, r7, fun a ha => ?_, fun a h1 h2 => ?_, r10⟩
  · have ha : a < mN M 0 + 1 := ha
    by_cases e : a = mN M 0
    · subst e
      rw [a1, a2]
      exact ⟨u3_self _ _ _ _ _, r9 _ (Nat.le_refl _) h6⟩
    · obtain ⟨q1, q2⟩ := r8 a (by omega)
      rw [ag_T (fun z => e z.2.2), ag_T (fun z => e z.2.2)]
      exact ⟨(u3_ne (fun z => e z.2.1)).trans q1, q2⟩
  · have h1 : mN M 0 + 1 ≤ a := h1
    exact r9 a (by omega) h2
theorem six_fin : ∀ k : Fin 7, (nI k.1 < 6 ↔ ¬ k.1 = 6) := by decide
/-- addAgent -/
theorem pu_16 {t : Nat} {M : Mem} (I : INV t M) (ht : t < 512) (x : Int32) (M1 M2 : Mem) (hM1 : M1 = if rAddAgent M x = 0 then sJ (agM M x) 39 0 0 ((nI (mN M 0 + 1) - 1).toInt64) else M) (hM2 : M2 = if rAddAgentM M x = 0 then sT (sT (sT M1 7 19 0 0) 36 (mN M 0) 0 x) 7 23 0 (nI (mN M 0) + 1) else sT M1 7 19 0 (thI (rAddAgentM M x))) : (VP M) ∧ (mN (agM M x) 39 = 1) ∧ RC M M1 ∧ 0 < mN M1 7 ∧ 0 < mN M2 7 ∧ 0 < mN M2 39 ∧ rAddAgent M x < 100 ∧ mT M2 7 19 0 = nI (rAddAgent M x) ∧ (rAddAgent M x = 0 → mJ M2 39 0 0 = ((if rAddAgentM M x = 0 then nI (mN M 0) + 1 - 1 else 0)).toInt64) ∧ INV (t + 1) M2 := by
  have hr : rAddAgentM M x = rAddAgent M x := by
    have f := six_fin ⟨mN M 0, by have := wn0 I.wf; omega⟩
    unfold rAddAgentM rAddAgent
    by_cases hx : inB x 0 63 = true
    · rw [if_pos hx, if_pos hx]
      by_cases e : mN M 0 = 6
      · rw [if_pos e, if_neg (fun z => f.mp z e)]
      · rw [if_neg e, if_pos (f.mpr e)]
    · rw [if_neg hx, if_neg hx]
  have hi : rAddAgent M x = 0 → mN M 0 < 6 ∧ ix x < 64 ∧ x = nI (ix x) := fun h => by
    have n0 := wn0 I.wf
    have f := six_fin ⟨mN M 0, by omega⟩
    unfold rAddAgent at h
    by_cases hx : inB x 0 63 = true
    · rw [if_pos hx] at h
      by_cases c : nI (mN M 0) < 6
      · have g := f.mp c
        exact ⟨by have g : ¬ mN M 0 = 6 := g; omega, inB_ix (x := x) (n := 64) hx (by omega)⟩
      · rw [if_neg c] at h; cases h
    · rw [if_neg hx] at h; cases h
  have hmo : RC M (agM M x) := rc_mo ⟨fun k hk => ag_N (by omega), fun j u _ => ag_T (fun z => absurd z.1 (by decide)), fun k j u h1 h2 => ag_T (fun z => by omega), fun j u => rfl⟩ I.rc
  refine ⟨I.vp, (ag_N (by decide)).trans I.n39, pu_end I hr hM1 (by unfold rAddAgent; (repeat' split) <;> omega) (fun h => ?_) (fun _ => hmo) (fun h => ?_) (fun h => by rw [hM2, if_neg (fun z => h (hr.symm.trans z)), hr]) (fun h => ?_)⟩
  · rw [if_pos (hr.trans h)]
    have e : nI (mN M 0) + 1 = nI (mN M 0 + 1) := nI_add _ 1
    rw [e]
  · rw [hM2, if_pos (hr.trans h)]
    exact ⟨rfl, rfl⟩
  · obtain ⟨h6, hx1, hx2⟩ := hi h
    have e1 : EqD (agM M x) M2 := by
      rw [hM2, if_pos (hr.trans h), hM1, if_pos h]
      exact EqD.sT (Or.inl rfl) (EqD.sT (Or.inr (by decide)) EqD.row)
    have q1 : QI (agM M x) := qi_cg (A := M) rfl (fun _ => rfl) (fun _ => rfl) (fun j i => ag_T (fun z => absurd z.1 (by decide))) (fun i => ag_T (fun z => absurd z.1 (by decide))) (fun j => ag_T (fun z => absurd z.1 (by decide))) (fun _ => rfl) I.qi
    refine inv_ref (X := agM M x) (wf_ag I.wf h6) q1 (dk_ag (dk_up I.dk) I.wf ⟨ix x, hx1, hx2⟩) e1 ((ag_N (by decide)).trans I.n39) ((ag_N (by decide)).trans I.n40) ?_ (I.b28 ?_)
    · rw [hM2, if_pos (hr.trans h), hM1, if_pos h]
      exact RC_ag (rc_row hmo) h6
    · rw [hM2, if_pos (hr.trans h), hM1, if_pos h]
      rw [mT_sT, if_neg (fun z => absurd z.2.1 (by decide)), mT_sT, if_neg (fun z => absurd z.1 (by decide)), mT_sT, if_neg (fun z => absurd z.2.1 (by decide)), mT_sJ]
      exact ag_T (fun z => absurd z.1 (by decide))
