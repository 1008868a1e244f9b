theorem or_bit (p q : Int32) : (p ||| q) &&& 1 = 1 ↔ p &&& 1 = 1 ∨ q &&& 1 = 1 := by
  have h : ∀ r : Int32, (r &&& 1).toBitVec.toNat = r.toBitVec.toNat % 2 := fun r => by
    rw [Int32.toBitVec_and, BitVec.toNat_and]
    exact Nat.and_one_is_mod _
  have one : ∀ r : Int32, r &&& 1 = 1 ↔ r.toBitVec.toNat.testBit 0 = true := fun r => by
    rw [Nat.testBit_zero, decide_eq_true_iff, ← h r]
    constructor
    · intro e
      rw [e]; rfl
    · intro e
      exact Int32.toBitVec_inj.mp (BitVec.eq_of_toNat_eq e)
  rw [one, one, one, Int32.toBitVec_or, BitVec.toNat_or, Nat.testBit_or, Bool.or_eq_true]
theorem sh_fin : ∀ a b : Fin 8, (((1 : Int32) <<< (nI a.1 &&& 31)) >>> (nI b.1 &&& 31)) &&& 1 = 1 ↔ b = a := by decide
theorem set_bit {w : Int32} {a b : Nat} (ha : a < 8) (hb : b < 8) : ((w ||| ((1 : Int32) <<< (nI a &&& 31))) >>> (nI b &&& 31)) &&& 1 = 1 ↔ (w >>> (nI b &&& 31)) &&& 1 = 1 ∨ b = a := by
  have f := sh_fin ⟨a, ha⟩ ⟨b, hb⟩
  have e : (w ||| ((1 : Int32) <<< (nI a &&& 31))) >>> (nI b &&& 31) = (w >>> (nI b &&& 31)) ||| (((1 : Int32) <<< (nI a &&& 31)) >>> (nI b &&& 31)) := Int32.shiftRight_or
  rw [e, or_bit, f, Fin.mk.injEq]
theorem aw_T {M : Mem} {x : Int32} {a k j i : Nat} : ∀ n, mT (awN M x a n) k j i = if k = 16 ∧ i = 0 ∧ j < n ∧ (x >>> (nI j &&& 31)) &&& 1 = 1 then mT M 16 j 0 ||| ((1 : Int32) <<< (nI a &&& 31)) else mT M k j i
  | 0 => by rw [if_neg (fun z => Nat.not_lt_zero _ z.2.2.1)]; rfl
  | n + 1 => by
    have ih := aw_T (M := M) (x := x) (a := a) (k := k) (j := j) (i := i) n
    have ihn := aw_T (M := M) (x := x) (a := a) (k := 16) (j := n) (i := 0) n
    rw [if_neg (fun z => Nat.lt_irrefl _ z.2.2.1)] at ihn
    show mT (awS (awN M x a n) x a n) k j i = _
    unfold awS
    by_cases c : (x >>> (nI n &&& 31)) &&& 1 = 1
    · rw [if_pos c, mT_sT, ihn]
      by_cases e : k = 16 ∧ j = n ∧ i = 0
      · obtain ⟨rfl, rfl, rfl⟩ := e
        rw [if_pos ⟨rfl, rfl, rfl⟩, if_pos ⟨rfl, rfl, Nat.lt_succ_self _, c⟩]
      · rw [if_neg e, ih]
        by_cases g : k = 16 ∧ i = 0 ∧ j < n ∧ (x >>> (nI j &&& 31)) &&& 1 = 1
        · rw [if_pos g, if_pos ⟨g.1, g.2.1, by omega, g.2.2.2⟩]
        · rw [if_neg g, if_neg (fun z => g ⟨z.1, z.2.1, by
            have := z.2.2.1
            have : j ≠ n := fun y => e ⟨z.1, y, z.2.1⟩
            omega, z.2.2.2⟩)]
    · rw [if_neg c, ih]
      by_cases g : k = 16 ∧ i = 0 ∧ j < n ∧ (x >>> (nI j &&& 31)) &&& 1 = 1
      · rw [if_pos g, if_pos ⟨g.1, g.2.1, by omega, g.2.2.2⟩]
      · rw [if_neg g, if_neg (fun z => g ⟨z.1, z.2.1, by
          have := z.2.2.1
          have : j ≠ n := fun y => c (by rw [← y]; exact z.2.2.2)
          omega, z.2.2.2⟩)]
theorem aw_O {M : Mem} {x : Int32} {a : Nat} : ∀ n, mN (awN M x a n) = mN M ∧ mP (awN M x a n) = mP M ∧ mJ (awN M x a n) = mJ M ∧ mL (awN M x a n) = mL M
  | 0 => ⟨rfl, rfl, rfl, rfl⟩
  | n + 1 => by
    have ih := aw_O (M := M) (x := x) (a := a) n
    show mN (awS (awN M x a n) x a n) = mN M ∧ mP (awS (awN M x a n) x a n) = mP M ∧ mJ (awS (awN M x a n) x a n) = mJ M ∧ mL (awS (awN M x a n) x a n) = mL M
    unfold awS
    split
    · exact ih
    · exact ih
theorem pr_T {M : Mem} {x : Int32} {k j i : Nat} (h : ¬ (i = mN M 3 ∧ (k = 14 ∨ (k = 3 ∧ j = 0)))) : mT (prM M x) k j i = mT M k j i := by
  show mT (zeM (sT M 3 0 (mN M 3) x) 14 (mN M 3)) k j i = _
  rw [mT_ze, if_neg (fun z => h ⟨z.2, Or.inl z.1⟩), mT_sT, if_neg (fun z => h ⟨z.2.2, Or.inr ⟨z.1, z.2.1⟩⟩)]
theorem pr_14 {M : Mem} {x : Int32} {j : Nat} : mT (prM M x) 14 j (mN M 3) = 0 := if_pos ⟨rfl, rfl⟩
theorem pr_3 {M : Mem} {x : Int32} : mT (prM M x) 3 0 (mN M 3) = x := by
  show mT (zeM (sT M 3 0 (mN M 3) x) 14 (mN M 3)) 3 0 (mN M 3) = _
  rw [mT_ze, if_neg (fun z => absurd z.1 (by decide)), mT_sT, if_pos ⟨rfl, rfl, rfl⟩]
theorem pr_N {M : Mem} {x : Int32} {k : Nat} (h3 : k ≠ 3) (h14 : k ≠ 14) : mN (prM M x) k = mN M k := (if_neg h3).trans (if_neg h14)
/-- the desk's memory with one more prepared answer -/
def pawM (M : Mem) (x : Int32) : Mem := awN (prM M x) x (mN M 3) 10
theorem paw_N {M : Mem} {x : Int32} : mN (pawM M x) = mN (prM M x) := (aw_O 10).1
theorem paw_P {M : Mem} {x : Int32} : mP (pawM M x) = mP M := (aw_O 10).2.1
theorem paw_J {M : Mem} {x : Int32} : mJ (pawM M x) = mJ M := (aw_O 10).2.2.1
theorem paw_L {M : Mem} {x : Int32} : mL (pawM M x) = mL (prM M x) := (aw_O 10).2.2.2
theorem paw_T {M : Mem} {x : Int32} {k j i : Nat} (h16 : k ≠ 16) : mT (pawM M x) k j i = mT (prM M x) k j i := by
  unfold pawM
  rw [aw_T, if_neg (fun z => h16 z.1)]
theorem paw_o {M : Mem} {x : Int32} {k j i : Nat} (h16 : k ≠ 16) (h14 : k ≠ 14) (h3 : k ≠ 3) : mT (pawM M x) k j i = mT M k j i := by
  rw [paw_T h16, pr_T (fun z => by omega)]
theorem dk_paw {t : Nat} {M : Mem} {x : Int32} (d : Dk t M) (h8 : mN M 3 < 8) (hx : ∃ q, q < 1024 ∧ x = nI q) : Dk t (pawM M x) := by
  obtain ⟨num, ml, ⟨c1, c2, c3, c4, c5, c6⟩, rk, held, ⟨o1, o2⟩, bnd⟩ := d
  have nk : ∀ k, k ≠ 16 → k ≠ 14 → k ≠ 3 → ∀ j u, mT (pawM M x) k j u = mT M k j u := fun k a b c j u => paw_o a b c
  have hP := paw_P (M := M) (x := x)
  have n3 : mN (pawM M x) 3 = mN M 3 + 1 := by rw [paw_N]; rfl
  have nN : ∀ k, k ≠ 3 → k ≠ 14 → mN (pawM M x) k = mN M k := fun k a b => by rw [paw_N]; exact pr_N a b
  have hL : ∀ u, mL (pawM M x) 8 u = mL M 8 u := fun u => by rw [paw_L]; rfl
  have lt : ∀ a, a < mN (pawM M x) 3 → a < mN M 3 ∨ a = mN M 3 := fun a h => by rw [n3] at h; omega
  have e3 : ∀ a, a ≠ mN M 3 → mT (pawM M x) 3 0 a = mT M 3 0 a := fun a h => by rw [paw_T (by decide), pr_T (fun z => h z.1)]
  have e3n : mT (pawM M x) 3 0 (mN M 3) = x := by rw [paw_T (by decide), pr_3]
  have tk : tkM (pawM M x) = tkM M := by funext k; unfold tkM; rw [hP]
  refine ⟨⟨fun i hi => ?_, fun i hi => ?_, fun i hi => ?_⟩, fun i hi => ?_, ⟨fun i => ?_, fun a => ?_, fun a ha => ?_, fun k hk => ?_, fun a ha => ?_, fun a ha p hp => ?_⟩, by rw [hP]; exact rk, fun a ha => ?_, ⟨fun i hi => ?_, fun v a hv ha => ?_⟩, ?_⟩
  · rw [nk 4 (by decide) (by decide) (by decide)]; exact num.1 i (by rw [← nN 4 (by decide) (by decide)]; exact hi)
  · rw [nk 2 (by decide) (by decide) (by decide)]; exact num.2.1 i (by rw [← nN 2 (by decide) (by decide)]; exact hi)
  · rw [nk 0 (by decide) (by decide) (by decide)]; exact num.2.2 i (by rw [← nN 0 (by decide) (by decide)]; exact hi)
  · obtain ⟨m1, m2, m3⟩ := ml i (by rw [← nN 4 (by decide) (by decide)]; exact hi)
    unfold MlOk
    rw [hL, tk, nN 2 (by decide) (by decide), co_cg (A := M) (B := pawM M x) (fun k => by rw [hP]) i]
    exact ⟨m1, m2, m3⟩
  · rw [nk 4 (by decide) (by decide) (by decide), nk 4 (by decide) (by decide) (by decide), hL, hP, nN 4 (by decide) (by decide)]; exact c1 i
  · rw [nk 0 (by decide) (by decide) (by decide), nk 0 (by decide) (by decide) (by decide)]; exact c2 a
  · rw [nk 0 (by decide) (by decide) (by decide)]; exact c3 a (by rw [← nN 0 (by decide) (by decide)]; exact ha)
  · rw [nk 23 (by decide) (by decide) (by decide)]; exact c4 k (by rw [← nN 2 (by decide) (by decide)]; exact hk)
  · rcases lt a ha with h | h
    · rw [e3 a (by omega)]; exact c5 a h
    · rw [h, e3n]; exact hx
  · rw [paw_T (by decide)]
    rcases lt a ha with h | h
    · rw [pr_T (fun z => by omega)]; exact c6 a h p hp
    · rw [h, pr_14]; exact ⟨0, by omega, rfl⟩
  · rw [nk 0 (by decide) (by decide) (by decide), nN 4 (by decide) (by decide), he_cg (A := M) (B := pawM M x) (fun k => by rw [hP]) a]
    exact held a (by rw [← nN 0 (by decide) (by decide)]; exact ha)
  · rw [nN 2 (by decide) (by decide), wo_cg (A := M) (B := pawM M x) (fun k => by rw [hP]) (fun k => nk 23 (by decide) (by decide) (by decide) k 0) i, nk 4 (by decide) (by decide) (by decide)]
    exact o1 i (by rw [← nN 4 (by decide) (by decide)]; exact hi)
  · have o := o2 v a hv ha
    have p16 : mT (prM M x) 16 v 0 = mT M 16 v 0 := pr_T (fun z => by omega)
    rw [n3]
    unfold pawM
    rw [aw_T]
    have e3' : mT (awN (prM M x) x (mN M 3) 10) 3 0 a = mT (pawM M x) 3 0 a := rfl
    rw [e3', p16]
    by_cases c : (x >>> (nI v &&& 31)) &&& 1 = 1
    · rw [if_pos ⟨rfl, rfl, hv, c⟩, set_bit h8 ha, o]
      by_cases e : a = mN M 3
      · subst e
        rw [e3n]
        exact ⟨fun _ => ⟨Nat.lt_succ_self _, c⟩, fun _ => Or.inr rfl⟩
      · rw [e3 a e]
        exact ⟨fun z => by rcases z with z | z; exact ⟨by omega, z.2⟩; exact absurd z e, fun z => Or.inl ⟨by omega, z.2⟩⟩
    · rw [if_neg (fun z => c z.2.2.2), o]
      by_cases e : a = mN M 3
      · subst e
        rw [e3n]
        exact ⟨fun z => absurd z.1 (Nat.lt_irrefl _), fun z => absurd z.2 c⟩
      · rw [e3 a e]
        exact ⟨fun z => ⟨by omega, z.2⟩, fun z => ⟨by omega, z.2⟩⟩
  · obtain ⟨b1, b2, b3, b4, b5⟩ := bnd
    refine ⟨?_, fun i hi => ?_, fun c hc => ?_, ?_, ?_⟩
    · rw [nk 6 (by decide) (by decide) (by decide)]; exact b1
    · rw [nk 4 (by decide) (by decide) (by decide)]; exact b2 i (by rw [← nN 4 (by decide) (by decide)]; exact hi)
    · rw [nk 15 (by decide) (by decide) (by decide)]; exact b3 c hc
    · rw [nk 6 (by decide) (by decide) (by decide)]; exact b4
    · rw [nk 7 (by decide) (by decide) (by decide)]; exact b5
theorem RC_pr {M N : Mem} {x : Int32} (r : RC M N) (h8 : mN M 3 < 8) : RC (prM M x) (sT (sT N 37 (mN M 3) 0 x) 7 24 0 (nI (mN M 3) + 1)) := by
  obtain ⟨r1, ⟨b1, b2, b3, b4, b5, b6⟩, r3, r4, r5, r6, r7, r8, r9, r10, r11⟩ := r
  have e24 : nI (mN M 3) + 1 = nI (mN M 3 + 1) := nI_add _ 1
  refine ⟨r1, ⟨b1, b2, b3, b4, e24, b6⟩, r3, r4, r5, r6, r7, r8, r9, fun q hq => ?_, fun j h1 h2 => ?_⟩
  · have hq : q < mN M 3 + 1 := hq
    by_cases e : q = mN M 3
    · subst e
      rw [pr_3]
      refine ⟨u3_self _ _ _ _ _, fun t ht => ?_⟩
      rw [pr_14]
      exact r11 _ (by omega) (by omega)
    · obtain ⟨q1, q2⟩ := r10 q (by omega)
      refine ⟨?_, fun t ht => ?_⟩
      · rw [pr_T (fun z => e z.1)]
        exact (u3_ne (fun z => e z.2.1)).trans q1
      · rw [pr_T (fun z => e z.1)]
        exact q2 t ht
  · have h1 : 6 * (mN M 3 + 1) ≤ j := h1
    exact r11 j (by omega) h2
theorem rc_16 {A B N : Mem} (hN : mN B = mN A) (hP : mP B = mP A) (hJ : mJ B = mJ A) (hT : ∀ k j i, k ≠ 16 → mT B k j i = mT A k j i) (r : RC A N) : RC B N :=
  rc_cg (A := A) (M := N) ⟨hN, hP, fun k hk j i => hT k j i (by omega), fun j i => by rw [hJ]⟩ ⟨rfl, fun _ _ _ => rfl, fun _ _ _ _ _ => rfl, fun _ _ => rfl⟩ r
theorem eig_fin : ∀ k : Fin 9, (nI k.1 < 8 ↔ ¬ k.1 = 8) := by decide
theorem wf_paw {M : Mem} {x : Int32} (w : Wf M) (h : mN M 3 < 8) : Wf (pawM M x) := wf_aw (wf_pr w h) 10
/-- addAnswer -/
theorem pu_32 {t : Nat} {M : Mem} (I : INV t M) (ht : t < 512) (x : Int32) (M1 M2 : Mem) (hM1 : M1 = if rAddAnswer M x = 0 then sJ (awN (prM M x) x (mN M 3) 10) 39 0 0 ((nI (mN M 3)).toInt64) else M) (hM2 : M2 = if rAddAnswerM M x = 0 then sT (sT (sT M1 7 19 0 0) 37 (mN M 3) 0 x) 7 24 0 (nI (mN M 3) + 1) else sT M1 7 19 0 (thI (rAddAnswerM M x))) : (VP M) ∧ (mN (awN (prM M x) x (mN M 3) 10) 39 = 1) ∧ RC M M1 ∧ 0 < mN M1 7 ∧ 0 < mN M2 7 ∧ 0 < mN M2 39 ∧ rAddAnswer M x < 100 ∧ mT M2 7 19 0 = nI (rAddAnswer M x) ∧ (rAddAnswer M x = 0 → mJ M2 39 0 0 = ((if rAddAnswerM M x = 0 then nI (mN M 3) + 1 - 1 else 0)).toInt64) ∧ INV (t + 1) M2 := by
  have hr : rAddAnswerM M x = rAddAnswer M x := by
    have f := eig_fin ⟨mN M 3, by have := wn3 I.wf; omega⟩
    unfold rAddAnswerM rAddAnswer
    by_cases hx : inB x 0 1023 = true
    · rw [if_pos hx, if_pos hx]
      by_cases e : mN M 3 = 8
      · rw [if_pos e, if_neg (fun z => f.mp z e)]
      · rw [if_neg e, if_pos (f.mpr e)]
    · rw [if_neg hx, if_neg hx]
  have hi : rAddAnswer M x = 0 → mN M 3 < 8 ∧ ix x < 1024 ∧ x = nI (ix x) := fun h => by
    have n0 := wn3 I.wf
    have f := eig_fin ⟨mN M 3, by omega⟩
    unfold rAddAnswer at h
    by_cases hx : inB x 0 1023 = true
    · rw [if_pos hx] at h
      by_cases c : nI (mN M 3) < 8
      · have g := f.mp c
        exact ⟨by have g : ¬ mN M 3 = 8 := g; omega, inB_ix (x := x) (n := 1024) hx (by omega)⟩
      · rw [if_neg c] at h; cases h
    · rw [if_neg hx] at h; cases h
  have eX : awN (prM M x) x (mN M 3) 10 = pawM M x := rfl
  rw [eX] at hM1 ⊢
  have nN : ∀ k, k ≠ 3 → k ≠ 14 → mN (pawM M x) k = mN M k := fun k a b => by rw [paw_N]; exact pr_N a b
  have hmo : RC M (pawM M x) := rc_mo ⟨fun k hk => nN k (by omega) (by omega), fun j u _ => paw_o (by decide) (by decide) (by decide), fun k j u h1 h2 => paw_o (by omega) (by omega) (by omega), fun j u => by rw [paw_J]⟩ I.rc
  refine ⟨I.vp, (nN 39 (by decide) (by decide)).trans I.n39, pu_end I hr hM1 (by unfold rAddAnswer; (repeat' split) <;> omega) (fun h => ?_) (fun _ => hmo) (fun h => ?_) (fun h => by rw [hM2, if_neg (fun z => h (hr.symm.trans z)), hr]) (fun h => ?_)⟩
  · rw [if_pos (hr.trans h), Int32.add_sub_cancel]
  · rw [hM2, if_pos (hr.trans h)]
    exact ⟨rfl, rfl⟩
  · obtain ⟨h8, hx1, hx2⟩ := hi h
    have e1 : EqD (pawM M x) M2 := by
      rw [hM2, if_pos (hr.trans h), hM1, if_pos h]
      exact EqD.sT (Or.inl rfl) (EqD.sT (Or.inr (by decide)) EqD.row)
    have q1 : QI (pawM M x) := qi_cg (A := M) (nN 4 (by decide) (by decide)) (fun i => by rw [paw_P]) (fun i => by rw [paw_P]) (fun j i => paw_o (by decide) (by decide) (by decide)) (fun i => paw_o (by decide) (by decide) (by decide)) (fun j => paw_o (by decide) (by decide) (by decide)) (fun u => by rw [paw_L]; rfl) I.qi
    refine inv_ref (X := pawM M x) (wf_paw I.wf h8) q1 (dk_paw (dk_up I.dk) h8 ⟨ix x, hx1, hx2⟩) e1 ((nN 39 (by decide) (by decide)).trans I.n39) ((nN 40 (by decide) (by decide)).trans I.n40) ?_ (I.b28 ?_)
    · rw [hM2, if_pos (hr.trans h), hM1, if_pos h]
      exact rc_16 (A := prM M x) paw_N paw_P paw_J (fun k j i h => paw_T h) (RC_pr (rc_row hmo) h8)
    · rw [hM2, if_pos (hr.trans h), hM1, if_pos h]
      rw [mT_sT, if_neg (fun z => absurd z.2.1 (by decide)), mT_sT, if_neg (fun z => absurd z.1 (by decide)), mT_sT, if_neg (fun z => absurd z.2.1 (by decide)), mT_sJ]
      exact paw_o (M := M) (x := x) (by decide) (by decide) (by decide)
