theorem he_nat {D : Mem} {b : Nat} : ∀ n, ∃ c, c ≤ n ∧ heN D b n = nI c
  | 0 => ⟨0, Nat.le_refl _, rfl⟩
  | n + 1 => by
    obtain ⟨c, h1, h2⟩ := he_nat (D := D) (b := b) n
    unfold heN
    rw [h2]
    by_cases d : mP D 4 9 n = some b
    · rw [if_pos d]; exact ⟨c + 1, by omega, nI_add c 1⟩
    · rw [if_neg d, Int32.add_zero]; exact ⟨c, by omega, rfl⟩
theorem he_clr {D : Mem} {i a b : Nat} (h : mP D 4 9 i = some a) (n : Nat) : heN D b n = heN (sP D 4 9 i none) b n + if b = a ∧ i < n then 1 else 0 := by
  rw [← he_set (D := sP D 4 9 i none) (u3_self _ _ _ _ _) n]
  refine he_cg (A := sP (sP D 4 9 i none) 4 9 i (some a)) (B := D) (fun k => ?_) b n
  by_cases e : k = i
  · subst e
    exact h.trans (u3_self _ _ _ _ _).symm
  · exact ((u3_ne (fun z => e z.2.2)).trans (u3_ne (fun z => e z.2.2))).symm
theorem leave_T {M : Mem} {i a : Nat} (h : mP M 4 9 i = some a) : leaveM M i = sP (sT M 0 3 a (mT M 0 3 a - 1)) 4 9 i none := by
  unfold leaveM
  rw [h]
theorem inv_leave {t i a : Nat} {M X : Mem} (I : INV t M) (hi : i < mN M 4) (ha : a < mN M 0) (hp : mP M 4 9 i = some a) (w : Wf X) (q : QI X) (hN : mN X = mN M) (hP : mP X = mP (leaveM M i)) (hT : mT X = mT (leaveM M i)) (hJ : mJ X = mJ M) (hL : ∀ u, mL X 8 u = mL M 8 u) :
    (RC M X ∧ INV (t + 1) (sT X 28 i 0 (-1))) ∧ mT X 0 3 a = heN (sP M 4 9 i none) a (mN M 4) := by
  rw [leave_T hp] at hP hT
  have nk : ∀ k, k ≠ 0 → ∀ j u, mT (sP (sT M 0 3 a (mT M 0 3 a - 1)) 4 9 i none) k j u = mT M k j u := fun k h j u => sT_ne (fun z => h z.1)
  have nj : ∀ j, j ≠ 3 → ∀ u, mT (sP (sT M 0 3 a (mT M 0 3 a - 1)) 4 9 i none) 0 j u = mT M 0 j u := fun j h u => sT_ne (fun z => h z.2.1)
  have ho : ∀ b, heN M b (mN M 4) = heN (sP M 4 9 i none) b (mN M 4) + if b = a ∧ i < mN M 4 then 1 else 0 := fun b => he_clr hp _
  have hv : mT M 0 3 a - 1 = heN (sP M 4 9 i none) a (mN M 4) := by
    rw [I.held a ha, ho a, if_pos ⟨rfl, hi⟩, Int32.add_sub_cancel]
  have n3 : ∀ u, mT (sP (sT M 0 3 a (mT M 0 3 a - 1)) 4 9 i none) 0 3 u = if u = a then heN (sP M 4 9 i none) a (mN M 4) else mT M 0 3 u := fun u => by
    rw [← hv]
    by_cases e : u = a
    · subst e
      rw [if_pos rfl]; exact u3_self _ _ _ _ _
    · rw [if_neg e]; exact sT_ne (fun z => e z.2.2)
  refine ⟨inv_cell (Z := sP (sT M 0 3 a (mT M 0 3 a - 1)) 4 9 i none) I (by decide) w q hN hP hT hJ hL rfl (fun k j u h => nk k (by omega) j u) (fun _ _ => rfl) (RC_agent (o := none) (RC_held I.rc))
    (num_cg (A := M) rfl (nj 0 (by decide)) (nk 2 (by decide) 0) (nk 4 (by decide) 0) I.num) (ml_cg (A := M) rfl (fun _ => rfl) (fun _ => rfl) I.ml) ?_ I.2.2.2.2.2.2.2.1 (fun b hb => ?_)
    (wrd_cg (A := M) rfl (fun _ => rfl) (fun k => nk 23 (by decide) k 0) (nk 4 (by decide) 5) (fun j => nk 16 (by decide) j 0) (nk 3 (by decide) 0) I.2.2.2.2.2.2.2.2.2.1) (bnd_cg (A := M) rfl (nk 4 (by decide) 7) (nk 6 (by decide) 9 0) (nk 6 (by decide) 11 0) (fun j => nk 15 (by decide) j 0) (nk 7 (by decide) 28 0) (inv_up I).bnd), ?_⟩
  · obtain ⟨c1, c2, c3, c4⟩ := I.cel
    refine ⟨fun u => ?_, fun b => ⟨?_, ?_⟩, fun b hb => ?_, ?_⟩
    · rw [nk 4 (by decide), nk 4 (by decide)]; exact c1 u
    · rw [nj 2 (by decide)]; exact (c2 b).1
    · rw [nj 1 (by decide)]; exact (c2 b).2
    · rw [n3]
      by_cases e : b = a
      · obtain ⟨z, z1, z2⟩ := c3 a ha
        obtain ⟨c, k1, k2⟩ := he_nat (D := sP M 4 9 i none) (b := a) (mN M 4)
        have n4 := wn4 I.wf
        have y := ho a
        rw [← I.held a ha, if_pos ⟨rfl, hi⟩, k2, z2] at y
        have y2 : nI z = nI (c + 1) := y.trans (nI_add c 1)
        have y3 := nI_inj (by omega) (by omega) y2
        rw [if_pos e, k2]
        exact ⟨c, by omega, rfl⟩
      · rw [if_neg e]; exact c3 b hb
    · have e3 := nk 3 (by decide)
      have e14 := nk 14 (by decide)
      have e23 := nk 23 (by decide)
      have hN2 : mN (sP (sT M 0 3 a (mT M 0 3 a - 1)) 4 9 i none) = mN M := rfl
      simpa only [hN2, e3, e14, e23] using c4
  · rw [n3]
    have e : heN (sP (sT M 0 3 a (mT M 0 3 a - 1)) 4 9 i none) b (mN M 4) = heN (sP M 4 9 i none) b (mN M 4) := he_cg (A := sP M 4 9 i none) (B := sP (sT M 0 3 a (mT M 0 3 a - 1)) 4 9 i none) (fun _ => rfl) b _
    show _ = heN (sP (sT M 0 3 a (mT M 0 3 a - 1)) 4 9 i none) b (mN M 4)
    rw [e]
    by_cases d : b = a
    · rw [if_pos d, d]
    · rw [if_neg d, I.held b hb, ho b, if_neg (fun z => d z.1), Int32.add_zero]
  · rw [hT, n3, if_pos rfl]
/-- giveBack -/
theorem pu_26 {t : Nat} {M : Mem} (I : INV t M) (ht : t < 512) (x : Int32) (M1 M2 : Mem) (hM1 : M1 = if rGiveBack M x = 0 then sJ (gbkM M (ix x)) 39 0 0 ((mT (gbkM M (ix x)) 0 3 ((mP M 4 9 (ix x)).getD 0)).toInt64) else M) (hM2 : M2 = if rGiveBack M x = 0 then sT (sT M1 7 19 0 0) 28 (ix x) 0 (-1) else sT M1 7 19 0 (thI (rGiveBack M x))) : (mN (gbkM M (ix x)) 39 = 1) ∧ RC M M1 ∧ 0 < mN M1 7 ∧ 0 < mN M2 7 ∧ 0 < mN M2 39 ∧ rGiveBack M x < 100 ∧ mT M2 7 19 0 = nI (rGiveBack M x) ∧ (rGiveBack M x = 0 → mJ M2 39 0 0 = ((if rGiveBack M x = 0 then heN (sP M 4 9 (ix x) none) ((mP M 4 9 (ix x)).getD 0) (mN M 4) else 0)).toInt64) ∧ INV (t + 1) M2 := by
  have hi : rGiveBack M x = 0 → ix x < mN M 4 ∧ ∃ a, mP M 4 9 (ix x) = some a := fun h => by
    unfold rGiveBack at h
    by_cases hx : inN x (mN M 4) = true
    · rw [if_pos hx] at h
      refine ⟨(inN_ix hx (by have := wn4 I.wf; omega)).1, ?_⟩
      cases e : mP M 4 9 (ix x) with
      | none => rw [if_pos e] at h; cases h
      | some a => exact ⟨a, rfl⟩
    · rw [if_neg hx] at h; cases h
  have gN : mN (gbkM M (ix x)) = mN M := mN_jq.trans mN_leave
  have hX : rGiveBack M x = 0 → (RC M (gbkM M (ix x)) ∧ INV (t + 1) (sT (gbkM M (ix x)) 28 (ix x) 0 (-1))) ∧ mT (gbkM M (ix x)) 0 3 ((mP M 4 9 (ix x)).getD 0) = heN (sP M 4 9 (ix x) none) ((mP M 4 9 (ix x)).getD 0) (mN M 4) := fun h => by
    obtain ⟨h4, a, e⟩ := hi h
    have ha : a < mN M 0 := (I.wf.2.2.1 _ h4).2.2.2.2.1 a e
    have hL : mL (leaveM M (ix x)) = mL M := by rw [leave_T e]; rfl
    have hJ : mJ (leaveM M (ix x)) = mJ M := by rw [leave_T e]; rfl
    have hw : Wf (gbkM M (ix x)) := wf_jq (wf_leave I.wf) (by rw [mN_leave]; exact h4) (fun _ hm => by
      rw [hL] at hm
      have tl : toM (leaveM M (ix x)) (ix x) = toM M (ix x) := by unfold toM; rw [mT_leave (fun z => absurd z.1 (by decide))]
      rw [tl] at hm
      have z := (((I.qi _ (I.wf.2.2.1 _ h4).2.2.2.1).1 _).mp hm).2.1
      unfold waM at z
      rw [e] at z
      exact absurd z (by rw [Option.isNone_some, Bool.and_false]; decide))
    have jq : mJ (gbkM M (ix x)) = mJ M ∧ ∀ u, mL (gbkM M (ix x)) 8 u = mL M 8 u := by
      unfold gbkM jqM
      split
      · exact ⟨hJ, fun u => by { unfold qinsM; rw [mL_sC, mL_sL, if_neg (fun z => absurd z.1 (by decide)), hL] }⟩
      · exact ⟨hJ, fun u => by rw [hL]⟩
    rw [e]
    exact inv_leave I h4 ha e hw (QI_gbk I.wf I.num I.qi h4 (by rw [e]; exact fun z => nomatch z)) gN mP_jq mT_jq jq.1 jq.2
  refine ⟨by rw [gN]; exact I.n39, pu_write (Y := sT (gbkM M (ix x)) 28 (ix x) 0 (-1)) I rfl hM1 (by unfold rGiveBack; (repeat' split) <;> omega) gN (fun h => by rw [if_pos h, (hX h).2]) (fun h => (hX h).1.1) (fun h => ?_) (fun h => by rw [hM2, if_neg h]) (fun h => (hX h).1.2)⟩
  rw [hM2, if_pos h, hM1, if_pos h]
  exact sm_end (by decide)
