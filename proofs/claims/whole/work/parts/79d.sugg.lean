theorem and_low {q : Nat} {w : Int32} (h : q < 1024) : ∃ p, p < 1024 ∧ nI q &&& w = nI p := by
  have e : (nI q).toBitVec.toNat = q := by
    show (BitVec.ofNat 32 q).toNat = q
    rw [BitVec.toNat_ofNat]
    exact Nat.mod_eq_of_lt (by omega)
  refine ⟨(nI q &&& w).toBitVec.toNat, ?_, ?_⟩
  · rw [Int32.toBitVec_and, BitVec.toNat_and, e]
    exact Nat.lt_of_le_of_lt Nat.and_le_left h
  · apply Int32.toBitVec_inj.mp
    show _ = BitVec.ofNat 32 _
    rw [BitVec.ofNat_toNat, BitVec.setWidth_eq]
theorem wo_row {D M : Mem} {t j i : Nat} {v : Int64} : ∀ n, woN D (sJ M 39 j i v) t n = woN D M t n
  | 0 => rfl
  | n + 1 => by unfold woN; rw [wo_row n]; rfl
theorem ba_sign {M : Mem} {t : Nat} : ∀ n, n < 100 → ((baN M t n).1 < 0 ↔ (baN M t n).1 = -1) ∧ ((baN M t n).1 = -1 ∨ ∃ k, k < 100 ∧ (baN M t n).1 = nI k)
  | 0, _ => ⟨by show (-1 : Int32) < 0 ↔ (-1 : Int32) = -1; decide, Or.inl rfl⟩
  | n + 1, h => by
    unfold baN baS
    split
    · have z : ∀ k : Fin 100, (nI k.1 < 0 ↔ nI k.1 = -1) := by decide
      exact ⟨z ⟨n, by omega⟩, Or.inr ⟨n, by omega, rfl⟩⟩
    · exact ba_sign n (by omega)
theorem sT_two {M : Mem} {k j i : Nat} {v v' : Int32} : sT (sT M k j i v) k j i v' = sT M k j i v' := by
  unfold sT
  refine congrArg (fun f => (M.1, f, M.2.2)) ?_
  funext a b c
  show (if _ then _ else if _ then _ else _) = (if _ then _ else _)
  split <;> rfl
/-- suggestion -/
theorem pu_34 {t : Nat} {M : Mem} (I : INV t M) (ht : t < 512) (x : Int32) (M1 M2 : Mem) (hM1 : M1 = if rSuggestion M x = 0 then sJ (M) 39 0 0 (((baN M (ix x) (mN M 3)).1).toInt64) else M) (hM2 : M2 = sugR M M1 x) : (mN (M) 39 = 1) ∧ RC M M1 ∧ 0 < mN M1 7 ∧ 0 < mN M2 7 ∧ 0 < mN M2 39 ∧ rSuggestion M x < 100 ∧ mT M2 7 19 0 = nI (rSuggestion M x) ∧ (rSuggestion M x = 0 → mJ M2 39 0 0 = ((if inN x (mN M 4) = true then (smN M M1 (ix x) (mN M 3)).1 else 0)).toInt64) ∧ INV (t + 1) M2 := by
  have hs : ∀ (T : Mem), (T = M ∨ ∃ v, T = sJ M 39 0 0 v) → inN x (mN M 4) = true → smN M T (ix x) (mN M 3) = baN M (ix x) (mN M 3) := fun T hT hx => by
    have h4 := (inN_ix hx (by have := wn4 I.wf; omega)).1
    have hw : woN M M (ix x) (mN M 2) = mT M 4 5 (ix x) := I.2.2.2.2.2.2.2.2.2.1.1 _ h4
    refine sm_ba ?_ (fun n hn => ?_) _ (Nat.le_refl _)
    · rcases hT with e | ⟨v, e⟩
      · rw [e]; exact hw
      · rw [e, wo_row]; exact hw
    · obtain ⟨q, q1, q2⟩ := I.cel.2.2.2.2.1 n hn
      rw [q2]
      exact and_low q1
  have hT : M1 = M ∨ ∃ v, M1 = sJ M 39 0 0 v := by
    rw [hM1]
    split
    · exact Or.inr ⟨_, rfl⟩
    · exact Or.inl rfl
  have n3 : mN M 3 < 100 := by have := wn3 I.wf; omega
  have h2 : M2 = if rSuggestion M x = 0 then sT M1 7 19 0 0 else sT M1 7 19 0 (thI (rSuggestion M x)) := by
    rw [hM2]
    unfold sugR rSuggestion
    by_cases hx : inN x (mN M 4) = true
    · rw [if_pos hx, if_pos hx, hs M1 hT hx, sT_two]
      have z := (ba_sign (M := M) (t := ix x) (mN M 3) n3).1
      by_cases c : (baN M (ix x) (mN M 3)).1 = -1
      · rw [if_pos c, if_pos (z.mpr c)]; rfl
      · rw [if_neg c, if_neg (fun y => c (z.mp y))]; rfl
    · rw [if_neg hx, if_neg hx]; rfl
  exact ⟨I.n39, pu_read I rfl hM1 h2 (by unfold rSuggestion; (repeat' split) <;> omega) (fun h => by
    have hx : inN x (mN M 4) = true := by
      by_cases hx : inN x (mN M 4) = true
      · exact hx
      · exact absurd h (by unfold rSuggestion; rw [if_neg hx]; decide)
    rw [if_pos hx, hs M1 hT hx])⟩
