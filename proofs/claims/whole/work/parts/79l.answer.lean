theorem inB_m1 {y : Int32} {n : Nat} (hn : n < 2 ^ 31) : inB y (-1) (nI n - 1) = true ↔ (y = -1 ∨ inN y n = true) := by
  have e1 : (1 : Int32).toInt = 1 := by decide
  have e0 : (0 : Int32).toInt = 0 := by decide
  have em : (-1 : Int32).toInt = -1 := by decide
  have en := nI_toInt hn
  have es : (nI n - 1).toInt = (n : Int) - 1 := by rw [i32_sub (by omega) (by omega), en, e1]
  show inB y (-1) (nI n - 1) = true ↔ (y = -1 ∨ inB y 0 (nI n - 1) = true)
  unfold inB
  simp only [Bool.and_eq_true, Bool.not_eq_true', decide_eq_false_iff_not, i32_lt, i32_eq, es, e0, em]
  omega
theorem wf_cans {M : Mem} {i : Nat} (w : Wf M) : Wf (cansM M i) := by
  have w1 : Wf (cans1 M i) := wf_sT (M := M) (k := 6) (j := 11) (i := 0) (by decide) (by decide) w
  unfold cansM
  split
  · exact wf_sT (by decide) (by decide) w1
  · exact w1
theorem nI_64a {a c : Nat} (h : a + c < 1073741824) : (nI a).toInt64 + (nI c).toInt64 = (nI (a + c)).toInt64 := by
  apply Int64.toInt_inj.mp
  rw [Int64.toInt_add, Int32.toInt_toInt64, Int32.toInt_toInt64, Int32.toInt_toInt64, nI_toInt (by omega), nI_toInt (by omega), nI_toInt (by omega), Int.bmod_eq_of_le (by omega) (by omega)]
  omega
theorem RC_cans {D N : Mem} {i a c : Nat} (r : RC D N) (ha : mT N 7 28 0 = nI a) (hc : mT D 4 7 i = nI c) (hac : a + c < 1073741824) :
    RC (cansM D i) (sT (sT (sT N 7 26 0 (mT N 7 26 0 + 1)) 7 27 0 (mT N 7 27 0 + if mT D 4 8 i = 0 then 1 else 0)) 7 28 0 (mT N 7 28 0 + mT D 4 7 i)) := by
  obtain ⟨r1, ⟨b1, b2, b3, b4, b5, b6, b7, b8, b9, b10⟩, r3⟩ := r
  have e7 : mT N 7 26 0 + 1 = mT D 6 11 0 + 1 := by rw [b7]
  have e9 : (mT N 7 28 0 + mT D 4 7 i).toInt64 = mJ D 6 13 0 + (mT D 4 7 i).toInt64 := by
    rw [← b9, ha, hc, nI_64a hac, nI_add]
  unfold cansM cans1
  by_cases h : mT D 4 8 i = 0
  · have e8 : mT N 7 27 0 + (if mT D 4 8 i = 0 then 1 else 0) = mT D 6 12 0 + 1 := by rw [if_pos h, b8]
    rw [if_pos h] at e8
    rw [if_pos h, if_pos h]
    exact ⟨r1, ⟨b1, b2, b3, b4, b5, b6, e7, e8, e9, b10⟩, r3⟩
  · have e8 : mT N 7 27 0 + (if mT D 4 8 i = 0 then 1 else 0) = mT D 6 12 0 := by rw [if_neg h, b8, Int32.add_zero]
    rw [if_neg h] at e8
    rw [if_neg h, if_neg h]
    exact ⟨r1, ⟨b1, b2, b3, b4, b5, b6, e7, e8, e9, b10⟩, r3⟩
theorem cans_T {M : Mem} {i k j u : Nat} (h : ¬ (k = 6 ∧ (j = 11 ∨ j = 12))) : mT (cansM M i) k j u = mT M k j u := by
  unfold cansM cans1
  split
  · rw [mT_sT, if_neg (fun z => h ⟨z.1, Or.inr z.2.1⟩), mT_sJ, mT_sT, if_neg (fun z => h ⟨z.1, Or.inl z.2.1⟩)]
  · rw [mT_sJ, mT_sT, if_neg (fun z => h ⟨z.1, Or.inl z.2.1⟩)]
theorem cans_P {M : Mem} {i : Nat} : mP (cansM M i) = mP M := by unfold cansM cans1; split <;> rfl
theorem cans_J {M : Mem} {i j u : Nat} : mJ (cansM M i) 7 j u = mJ M 7 j u := by
  unfold cansM cans1
  split
  · rw [mJ_sT, mJ_sJ, if_neg (fun z => absurd z.1 (by decide))]; rfl
  · rw [mJ_sJ, if_neg (fun z => absurd z.1 (by decide))]; rfl
theorem dk_cans {t i : Nat} {M : Mem} (d : Dk t M) : Dk (t + 1) (cansM M i) := by
  unfold cansM cans1
  split
  · exact dk_T (by decide) (dk_J (dk_count d))
  · exact dk_J (dk_count d)
theorem leave_J {M : Mem} {i : Nat} : mJ (leaveM M i) = mJ M := by unfold leaveM; split <;> rfl
theorem RC_leave {D N : Mem} {i : Nat} (r : RC D N) (h : mP D 4 9 i ≠ none) : RC (leaveM D i) (sT N 28 i 0 (-1)) := by
  cases e : mP D 4 9 i with
  | none => exact absurd e h
  | some a =>
    rw [leave_T e]
    exact RC_agent (o := none) (RC_held r)
theorem leave_46 {A : Mem} {i : Nat} {v : Int32} (k a u : Nat) : mT (leaveM (sT A 4 6 i v) i) k a u = if k = 4 ∧ a = 6 ∧ u = i then v else mT (leaveM A i) k a u := by
  cases e : mP A 4 9 i with
  | none =>
    have e' : mP (sT A 4 6 i v) 4 9 i = none := e
    have q1 : leaveM A i = sP A 4 9 i none := by unfold leaveM; rw [e]
    have q2 : leaveM (sT A 4 6 i v) i = sP (sT A 4 6 i v) 4 9 i none := by unfold leaveM; rw [e']
    rw [q1, q2]
    rfl
  | some b =>
    have e' : mP (sT A 4 6 i v) 4 9 i = some b := e
    have ev : mT (sT A 4 6 i v) 0 3 b = mT A 0 3 b := rfl
    rw [leave_T e, leave_T e', ev]
    show (if k = 0 ∧ a = 3 ∧ u = b then mT A 0 3 b - 1 else if k = 4 ∧ a = 6 ∧ u = i then v else mT A k a u) = if k = 4 ∧ a = 6 ∧ u = i then v else (if k = 0 ∧ a = 3 ∧ u = b then mT A 0 3 b - 1 else mT A k a u)
    by_cases c : k = 4 ∧ a = 6 ∧ u = i
    · rw [if_pos c, if_pos c, if_neg (fun z => by omega)]
    · rw [if_neg c, if_neg c]
/-- answer -/
theorem pu_29 {t : Nat} {M : Mem} (I : INV t M) (ht : t < 512) (x y : Int32) (M1 M2 : Mem) (hM1 : M1 = if rAnswer M x y = 0 then sJ (ansP M (ix x) (if y = -1 then none else some (ix y))) 39 0 0 ((mT (ansP M (ix x) (if y = -1 then none else some (ix y))) 4 7 (ix x)).toInt64) else M) (hM2 : M2 = if rAnsM M x y = 0 then ansR (sT M1 7 19 0 0) (ix x) y else sT M1 7 19 0 (thI (rAnsM M x y))) : (mN (ansP M (ix x) (if y = -1 then none else some (ix y))) 39 = 1) ∧ RC M M1 ∧ 0 < mN M1 7 ∧ 0 < mN M2 7 ∧ 0 < mN M2 39 ∧ rAnswer M x y < 100 ∧ mT M2 7 19 0 = nI (rAnswer M x y) ∧ (rAnswer M x y = 0 → mJ M2 39 0 0 = ((if rAnsM M x y = 0 then mT M 4 7 (ix x) else 0)).toInt64) ∧ INV (t + 1) M2 := by
  have hr : rAnsM M x y = rAnswer M x y := by
    have n3 := wn3 I.wf
    have e : inB y (-1) (nI (mN M 3) - 1) = true ↔ (y = -1 ∨ inN y (mN M 3) = true) := inB_m1 (by omega)
    unfold rAnsM rAnswer
    simp only [e]
  have hi : rAnswer M x y = 0 → ix x < mN M 4 ∧ mT M 4 6 (ix x) = 111 ∧ mP M 4 9 (ix x) ≠ none ∧ (y = -1 ∨ inN y (mN M 3) = true) := fun h => by
    unfold rAnswer at h
    by_cases hx : inN x (mN M 4) = true
    · rw [if_pos hx] at h
      by_cases hs : mT M 4 6 (ix x) = 111 ∧ ¬ mP M 4 9 (ix x) = none
      · rw [if_pos hs] at h
        by_cases hy : y = -1 ∨ inN y (mN M 3) = true
        · exact ⟨(inN_ix hx (by have := wn4 I.wf; omega)).1, hs.1, hs.2, hy⟩
        · rw [if_neg hy] at h; cases h
      · rw [if_neg hs] at h; cases h
    · rw [if_neg hx] at h; cases h
  have ho : rAnswer M x y = 0 → (∀ a, (if y = -1 then none else some (ix y)) = some a → a < mN M 3) ∧ oI (if y = -1 then none else some (ix y)) = y := fun h => by
    obtain ⟨h4, hs, hp, hy⟩ := hi h
    by_cases e : y = -1
    · rw [if_pos e]
      exact ⟨fun a z => (nomatch z), e.symm⟩
    · rw [if_neg e]
      rcases hy with hy | hy
      · exact absurd hy e
      · obtain ⟨y1, y2⟩ := inN_ix hy (by have := wn3 I.wf; omega)
        exact ⟨fun a z => by cases z; exact y1, y2.symm⟩
  generalize (if y = -1 then none else some (ix y)) = o at hM1 ho ⊢
  have hN : mN (ansP M (ix x) o) = mN M := mN_ans
  have hT : ∀ k j u, k ≠ 0 → k ≠ 4 → k ≠ 6 → mT (ansP M (ix x) o) k j u = mT M k j u := fun k j u h0 h4 h6 => by
    unfold ansP
    rw [cans_T (fun z => h6 z.1), mT_sP, mT_sT, if_neg (fun z => h4 z.1), mT_leave (fun z => h0 z.1)]
  have h47 : ∀ u, mT (ansP M (ix x) o) 4 7 u = mT M 4 7 u := fun u => by
    unfold ansP
    rw [cans_T (fun z => absurd z.1 (by decide)), mT_sP, mT_sT, if_neg (fun z => absurd z.2.1 (by decide)), mT_leave (fun z => absurd z.1 (by decide))]
  have hmo : RC M (ansP M (ix x) o) := rc_mo ⟨fun _ _ => by rw [hN], fun j u _ => hT 7 j u (by decide) (by decide) (by decide), fun k j u h1 h2 => hT k j u (by omega) (by omega) (by omega), fun j u => by { unfold ansP; rw [cans_J, mJ_sP, mJ_sT, leave_J] }⟩ I.rc
  refine ⟨by rw [hN]; exact I.n39, pu_end I hr hM1 (by unfold rAnswer; (repeat' split) <;> omega) (fun h => by rw [if_pos (hr.trans h), h47]) (fun _ => hmo) (fun h => ?_) (fun h => by rw [hM2, if_neg (fun z => h (hr.symm.trans z)), hr]) (fun h => ?_)⟩
  · rw [hM2, if_pos (hr.trans h)]
    exact ⟨rfl, rfl⟩
  · obtain ⟨h4, hs, hp, -⟩ := hi h
    obtain ⟨ho1, ho2⟩ := ho h
    have n4 := wn4 I.wf
    have hlive := I.live (i := ix x) (by rw [hs]; decide)
    have hw9 := fun a => (I.wf.2.2.1 _ h4).2.2.2.2.1 a
    obtain ⟨c, c1, c2⟩ := I.bnd.2.1 _ h4
    obtain ⟨a, a1, a2⟩ := I.bnd.2.2.2.2
    have hta : 600 * t * t ≤ 600 * 512 * 512 := Nat.mul_le_mul (by omega) (by omega)
    have htb : 600 * t * t + 600 * t ≤ 600 * (t + 1) * (t + 1) := by
      have e : 600 * (t + 1) * (t + 1) = 600 * t * t + 600 * t + (600 * t + 600) := by
        rw [Nat.mul_add 600 t 1, Nat.add_mul, Nat.mul_add, Nat.mul_add]
        omega
      omega
    have hb : a + c < 1073741824 := by omega
    have hd : a + c ≤ 600 * (t + 1) * (t + 1) := by omega
    clear hta htb a1 c1
    have e1 : EqD (ansP M (ix x) o) M2 := by
      rw [hM2, if_pos (hr.trans h), hM1, if_pos h]
      exact EqD.sT (Or.inl rfl) (EqD.sT (Or.inl rfl) (EqD.sT (Or.inl rfl) (EqD.sT (Or.inr (by decide)) (EqD.sT (Or.inr (by decide)) (EqD.sT (Or.inr (by decide)) EqD.row)))))
    have d1 : Dk (t + 1) (ansP M (ix x) o) := dk_cans (dk_sent (dk_st (by simp) (by rw [mP_leave, if_neg (fun z => absurd z.2.1 (by decide))]; exact hlive) (dk_leave I.dk n4 h4 hw9)))
    have w1 : Wf (ansP M (ix x) o) := wf_cans (wf_sent (wf_st (wf_leave I.wf)) (by show ∀ a, o = some a → a < mN (leaveM M (ix x)) 3; rw [mN_leave]; exact ho1))
    have e28 : mT M2 7 28 0 = nI (a + c) := by
      rw [hM2, if_pos (hr.trans h), hM1, if_pos h]
      show mT (ansP M (ix x) o) 7 28 0 + mT (ansP M (ix x) o) 27 (ix x) 0 = nI (a + c)
      rw [hT 7 28 0 (by decide) (by decide) (by decide), hT 27 (ix x) 0 (by decide) (by decide) (by decide), a2, rclk I.rc h4, c2, nI_add]
    refine inv_ref (X := ansP M (ix x) o) w1 (QI_ans I.qi hp) d1 e1 (by rw [hN]; exact I.n39) (by rw [hN]; exact I.n40) ?_ ⟨a + c, hd, e28⟩
    have r0 : RC M (sT (sJ (ansP M (ix x) o) 39 0 0 ((mT (ansP M (ix x) o) 4 7 (ix x)).toInt64)) 7 19 0 0) := rc_row hmo
    have p9 : mP (sT M 4 6 (ix x) 97) 4 9 (ix x) ≠ none := hp
    have r1 : RC (sP (sT (leaveM M (ix x)) 4 6 (ix x) 97) 4 11 (ix x) o) (ansA (sT (sJ (ansP M (ix x) o) 39 0 0 ((mT (ansP M (ix x) o) 4 7 (ix x)).toInt64)) 7 19 0 0) (ix x) y) := by
      have q := RC_sent (o := o) (t := ix x) (RC_leave (i := ix x) (RC_state (t := ix x) (v := 97) r0) p9)
      rw [ho2] at q
      refine rc_ln ?_ ?_ ?_ ?_ q
      · show mN (leaveM M (ix x)) = mN (leaveM (sT M 4 6 (ix x) 97) (ix x))
        rw [mN_leave, mN_leave]; rfl
      · show u3 (mP (leaveM M (ix x))) 4 11 (ix x) o = u3 (mP (leaveM (sT M 4 6 (ix x) 97) (ix x))) 4 11 (ix x) o
        congr 1
        cases e : mP M 4 9 (ix x) with
        | none => exact absurd e hp
        | some b =>
          have e' : mP (sT M 4 6 (ix x) 97) 4 9 (ix x) = some b := e
          rw [leave_T e, leave_T e']; rfl
      · funext k j u
        show mT (sT (leaveM M (ix x)) 4 6 (ix x) 97) k j u = mT (leaveM (sT M 4 6 (ix x) 97) (ix x)) k j u
        rw [mT_sT, leave_46]
      · show mJ (leaveM M (ix x)) = mJ (leaveM (sT M 4 6 (ix x) 97) (ix x))
        rw [leave_J, leave_J]; rfl
    have g28 : mT (ansA (sT (sJ (ansP M (ix x) o) 39 0 0 ((mT (ansP M (ix x) o) 4 7 (ix x)).toInt64)) 7 19 0 0) (ix x) y) 7 28 0 = nI a := (hT 7 28 0 (by decide) (by decide) (by decide)).trans a2
    have g47 : mT (sP (sT (leaveM M (ix x)) 4 6 (ix x) 97) 4 11 (ix x) o) 4 7 (ix x) = nI c := by
      rw [mT_sP, mT_sT, if_neg (fun z => absurd z.2.1 (by decide)), mT_leave (fun z => absurd z.1 (by decide))]; exact c2
    have q := RC_cans r1 g28 g47 hb
    rw [hM2, if_pos (hr.trans h), hM1, if_pos h]
    have g34 : mT (ansB (sT (sJ (ansP M (ix x) o) 39 0 0 ((mT (ansP M (ix x) o) 4 7 (ix x)).toInt64)) 7 19 0 0) (ix x) y) 34 (ix x) 0 = mT (sP (sT (leaveM M (ix x)) 4 6 (ix x) 97) 4 11 (ix x) o) 4 8 (ix x) := rbrk r1 (by show ix x < mN (leaveM M (ix x)) 4; rw [mN_leave]; exact h4)
    have g27 : mT (ansA (sT (sJ (ansP M (ix x) o) 39 0 0 ((mT (ansP M (ix x) o) 4 7 (ix x)).toInt64)) 7 19 0 0) (ix x) y) 27 (ix x) 0 = mT (sP (sT (leaveM M (ix x)) 4 6 (ix x) 97) 4 11 (ix x) o) 4 7 (ix x) := rclk r1 (by show ix x < mN (leaveM M (ix x)) 4; rw [mN_leave]; exact h4)
    rw [← g27, ← g34] at q
    exact q
