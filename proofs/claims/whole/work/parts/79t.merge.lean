/-! merge: ticket i comes into ticket j -/
def tvJ (A : Mem) (i j : Nat) : Int32 := if mT A 4 7 j < mT A 4 7 i then mT A 4 7 i else mT A 4 7 j
def tvB (A : Mem) (i j : Nat) : Int32 := bI (!decide (mT A 4 8 j = 0) || !decide (mT A 4 8 i = 0))
theorem tov_T {A : Mem} {i j : Nat} (k a u : Nat) : mT (tovM A j i) k a u = if k = 4 ∧ a = 6 ∧ u = i then 109 else if k = 4 ∧ a = 5 ∧ u = i then 0 else if k = 4 ∧ a = 8 ∧ u = j then tvB A i j else if k = 4 ∧ a = 7 ∧ u = j then tvJ A i j else if k = 4 ∧ a = 5 ∧ u = j then mT A 4 5 j ||| mT A 4 5 i else mT A k a u := by
  have e : mT (toN A j i (mL A 8 i).length) = mT A := mT_to _
  unfold tovM tov4 tov3 tov2 tov1 tvB tvJ
  simp only [mT_sP, mT_sT, mT_sC, mT_sL, e]
  simp
theorem tov_N {A : Mem} {i j : Nat} : mN (tovM A j i) = mN A := mN_tov
theorem tov_J {A : Mem} {i j : Nat} : mJ (tovM A j i) = mJ A := to_J (A := A) (i := i) (j := j) _
theorem tov_P {A : Mem} {i j : Nat} (k a u : Nat) : mP (tovM A j i) k a u = if k = 4 ∧ a = 13 ∧ u = i then some j else mP (toN A j i (mL A 8 i).length) k a u := rfl
theorem tov_8 {A : Mem} {i j : Nat} (u : Nat) : mL (tovM A j i) 8 u = if u = i then [] else mL (toN A j i (mL A 8 i).length) 8 u := by
  show mL (sL (toN A j i (mL A 8 i).length) 8 i []) 8 u = _
  rw [mL_sL]
  by_cases e : u = i
  · rw [if_pos ⟨rfl, e⟩, if_pos e]
  · rw [if_neg (fun z => e z.2), if_neg e]
theorem tov_9 {A : Mem} {i j q : Nat} : mL (tovM A j i) 9 q = mL A 9 q := by
  show mL (sL (toN A j i (mL A 8 i).length) 8 i []) 9 q = _
  rw [mL_sL, if_neg (fun z => absurd z.1 (by decide)), to_9]
theorem bI_two (b : Bool) : bI b = 0 ∨ bI b = 1 := by cases b <;> simp [bI]
/-- what the lines are sorted by, and the mails: the desk's part of INV after the mails went over -/
theorem dk_tov {t i j : Nat} {A : Mem} (d : Dk t A) (w : Wf A) (hi : i < mN A 4) (hj : j < mN A 4) (hij : i ≠ j) (lj : mT A 4 6 j ≠ 109) : Dk t (tovM A j i) := by
  obtain ⟨⟨u1, u2, u3⟩, ml, ⟨c1, c2, c3, c4, c5, c6⟩, ⟨rk, hrk⟩, held, ⟨o1, o2⟩, bnd⟩ := d
  have n2 := wn2 w
  have wi := w.2.2.1 i hi
  have wj := w.2.2.1 j hj
  have mi := ml i hi
  have mj := ml j hj
  have nk : ∀ k, k ≠ 4 → ∀ a u, mT (tovM A j i) k a u = mT A k a u := fun k h a u => by
    rw [tov_T, if_neg (fun z => h z.1), if_neg (fun z => h z.1), if_neg (fun z => h z.1), if_neg (fun z => h z.1), if_neg (fun z => h z.1)]
  have n4 : ∀ a, ¬ (5 ≤ a ∧ a ≤ 8) → ∀ u, mT (tovM A j i) 4 a u = mT A 4 a u := fun a h u => by
    rw [tov_T, if_neg (fun z => by omega), if_neg (fun z => by omega), if_neg (fun z => by omega), if_neg (fun z => by omega), if_neg (fun z => by omega)]
  have tk : ∀ k, k < mN A 2 → tkM (tovM A j i) k = if tkM A k = i then j else tkM A k := fun k hk => by
    have e : tkM (tovM A j i) k = tkM (toN A j i (mL A 8 i).length) k := by
      unfold tkM
      rw [tov_P, if_neg (fun z => absurd z.1 (by decide))]
    rw [e]
    exact tk_to mi.2.1 hk
  have l := to_list (A := A) (i := i) (j := j) u2 n2 wi.2.2.2.2.2.2.2.1 wj.2.2.2.2.2.2.2.1 (fun y hy hz => by
    have hb := wi.2.2.2.2.2.2.2.1 y hy
    exact hij (((mi.2.1 y hb).mpr hy).symm.trans ((mj.2.1 y hb).mpr hz))) (srt_iff.mp mi.1) (srt_iff.mp mj.1) _ (Nat.le_refl _)
  have co := co_mg hij (mN A 2) tk
  have wo := wo_mg hij (fun k => nk 23 (by decide) k 0) (mN A 2) tk
  have p9 : ∀ u, mP (tovM A j i) 4 9 u = mP A 4 9 u := fun u => by
    rw [tov_P, if_neg (fun z => absurd z.2.1 (by decide)), to_P (fun z => absurd z.1 (by decide))]
  have p13 : ∀ u, mP (tovM A j i) 4 13 u = if u = i then some j else mP A 4 13 u := fun u => by
    rw [tov_P]
    by_cases e : u = i
    · rw [if_pos ⟨rfl, rfl, e⟩, if_pos e]
    · rw [if_neg (fun z => e z.2.2), if_neg e, to_P (fun z => absurd z.1 (by decide))]
  refine ⟨⟨fun u hu => ?_, fun u hu => ?_, fun u hu => ?_⟩, fun u hu => ?_, ⟨fun u => ?_, fun b => ?_, fun b hb => ?_, fun k hk => ?_, fun b hb => ?_, fun b hb p hp => ?_⟩, ⟨fun u => if u = j then 0 else rk u + 1, fun u v h => ?_⟩, fun b hb => ?_, ⟨fun u hu => ?_, fun v b hv hb => ?_⟩, ?_⟩
  · rw [n4 0 (by omega)]; exact u1 u (by rw [← tov_N]; exact hu)
  · rw [nk 2 (by decide)]; exact u2 u (by rw [← tov_N]; exact hu)
  · rw [nk 0 (by decide)]; exact u3 u (by rw [← tov_N]; exact hu)
  · have hu : u < mN A 4 := by rw [← tov_N]; exact hu
    unfold MlOk
    rw [tov_N, tov_8]
    by_cases e : u = i
    · rw [if_pos e, e]
      refine ⟨fun a b _ h => absurd h (Nat.not_lt_zero _), fun k hk => ?_, co.2.1⟩
      rw [tk k hk]
      refine ⟨fun z => ?_, fun z => nomatch z⟩
      by_cases c : tkM A k = i
      · rw [if_pos c] at z; exact absurd z.symm hij
      · rw [if_neg c] at z; exact absurd z c
    · rw [if_neg e]
      by_cases f : u = j
      · rw [f]
        refine ⟨srt_iff.mpr l.1, fun k hk => ?_, ?_⟩
        · rw [tk k hk, l.2 k]
          by_cases c : tkM A k = i
          · rw [if_pos c]
            obtain ⟨p, hp, e⟩ := getD_in ((mi.2.1 k hk).mp c)
            exact ⟨fun _ => Or.inr ⟨p, hp, e⟩, fun _ => rfl⟩
          · rw [if_neg c]
            constructor
            · intro z
              exact Or.inl ((mj.2.1 k hk).mp z)
            · rintro (z | ⟨p, hp, e⟩)
              · exact (mj.2.1 k hk).mpr z
              · exact absurd ((mi.2.1 k hk).mpr (by rw [← e]; exact getD_mem hp)) c
        · rw [co.1, mj.2.2, mi.2.2, nI_add, to_len]
      · obtain ⟨m1, m2, m3⟩ := ml u hu
        rw [to_8 f]
        refine ⟨m1, fun k hk => ?_, (co.2.2 u e f).trans m3⟩
        rw [tk k hk]
        by_cases c : tkM A k = i
        · rw [if_pos c, ← m2 k hk]
          exact ⟨fun z => absurd z.symm f, fun z => absurd (z.symm.trans c) e⟩
        · rw [if_neg c]; exact m2 k hk
  · obtain ⟨d1, d2, d3, d4, d5⟩ := c1 u
    rw [tov_8, p13, tov_N]
    by_cases e : u = i
    · have e6 : mT (tovM A j i) 4 6 u = 109 := by rw [tov_T, if_pos ⟨rfl, rfl, e⟩]
      have e8 : mT (tovM A j i) 4 8 u = mT A 4 8 u := by rw [tov_T, if_neg (fun z => absurd z.2.1 (by decide)), if_neg (fun z => absurd z.2.1 (by decide)), if_neg (fun z => hij (e.symm.trans z.2.2)), if_neg (fun z => absurd z.2.1 (by decide)), if_neg (fun z => absurd z.2.1 (by decide))]
      rw [e6, e8, if_pos e]
      exact ⟨by simp, d2, fun _ => rfl, fun _ => rfl, fun _ => by decide⟩
    · have e6 : mT (tovM A j i) 4 6 u = mT A 4 6 u := by rw [tov_T, if_neg (fun z => e z.2.2), if_neg (fun z => e z.2.2), if_neg (fun z => absurd z.2.1 (by decide)), if_neg (fun z => absurd z.2.1 (by decide)), if_neg (fun z => absurd z.2.1 (by decide))]
      rw [e6, if_neg e, if_neg e]
      refine ⟨d1, ?_, fun z => ?_, d4, d5⟩
      · rw [tov_T, if_neg (fun z => e z.2.2), if_neg (fun z => e z.2.2)]
        by_cases f : u = j
        · rw [if_pos ⟨rfl, rfl, f⟩]; exact bI_two _
        · rw [if_neg (fun z => f z.2.2), if_neg (fun z => f z.2.2), if_neg (fun z => f z.2.2)]; exact d2
      · have f : u ≠ j := fun y => lj (by rw [← y]; exact z)
        rw [to_8 f]; exact d3 z
  · rw [nk 0 (by decide), nk 0 (by decide)]; exact c2 b
  · rw [nk 0 (by decide)]; exact c3 b (by rw [← tov_N]; exact hb)
  · rw [nk 23 (by decide)]; exact c4 k (by rw [← tov_N]; exact hk)
  · rw [nk 3 (by decide)]; exact c5 b (by rw [← tov_N]; exact hb)
  · rw [nk 14 (by decide)]; exact c6 b (by rw [← tov_N]; exact hb) p hp
  · show (if v = j then 0 else rk v + 1) < (if u = j then 0 else rk u + 1)
    have jn : mP A 4 13 j = none := Decidable.byContradiction (fun z => lj ((c1 j).2.2.2.1 z))
    rw [p13] at h
    by_cases e : u = i
    · rw [if_pos e] at h
      cases h
      rw [if_pos rfl, if_neg (fun z => hij (e.symm.trans z))]
      omega
    · rw [if_neg e] at h
      have f : u ≠ j := fun z => by rw [z, jn] at h; cases h
      have := hrk u v h
      rw [if_neg f]
      split <;> omega
  · rw [nk 0 (by decide), tov_N, he_cg (A := A) (B := tovM A j i) p9 b]
    exact held b (by rw [← tov_N]; exact hb)
  · have hu : u < mN A 4 := by rw [← tov_N]; exact hu
    rw [tov_N, tov_T, if_neg (fun z => absurd z.2.1 (by decide))]
    by_cases e : u = i
    · rw [if_pos ⟨rfl, rfl, e⟩, e]; exact wo.2.1
    · rw [if_neg (fun z => e z.2.2), if_neg (fun z => absurd z.2.1 (by decide)), if_neg (fun z => absurd z.2.1 (by decide))]
      by_cases f : u = j
      · rw [if_pos ⟨rfl, rfl, f⟩, f, wo.1, o1 j hj, o1 i hi]
      · rw [if_neg (fun z => f z.2.2), wo.2.2 u e f]; exact o1 u hu
  · rw [nk 16 (by decide), nk 3 (by decide), tov_N]; exact o2 v b hv hb
  · obtain ⟨b1, b2, b3, b4, b5⟩ := bnd
    refine ⟨?_, fun u hu => ?_, fun c hc => ?_, ?_, ?_⟩
    · rw [nk 6 (by decide)]; exact b1
    · have hu : u < mN A 4 := by rw [← tov_N]; exact hu
      rw [tov_T, if_neg (fun z => absurd z.2.1 (by decide)), if_neg (fun z => absurd z.2.1 (by decide)), if_neg (fun z => absurd z.2.1 (by decide))]
      by_cases f : u = j
      · rw [if_pos ⟨rfl, rfl, f⟩]
        unfold tvJ
        split
        · exact b2 i hi
        · exact b2 j hj
      · rw [if_neg (fun z => f z.2.2), if_neg (fun z => f z.2.2)]; exact b2 u hu
    · rw [nk 15 (by decide)]; exact b3 c hc
    · rw [nk 6 (by decide)]; exact b4
    · rw [nk 7 (by decide)]; exact b5
/-- memories that differ in the lines alone -/
def LnEq (A B : Mem) : Prop := mN A = mN B ∧ mP A = mP B ∧ mT A = mT B ∧ mJ A = mJ B ∧ ∀ u, mL A 8 u = mL B 8 u
theorem mpos_cg {A B : Mem} (h : mT A = mT B) {l : List Nat} {x : Nat} : ∀ e, mpos A l x e = mpos B l x e
  | 0 => rfl
  | e + 1 => by
    unfold mpos
    rw [h, mpos_cg h e]
theorem LnEq.im {A B : Mem} {j x : Nat} (h : LnEq A B) : LnEq (imM A j x) (imM B j x) := by
  obtain ⟨h1, h2, h3, h4, h5⟩ := h
  refine ⟨h1, ?_, h3, h4, fun u => ?_⟩
  · show u3 (mP A) 2 1 x (some j) = u3 (mP B) 2 1 x (some j)
    rw [h2]
  · by_cases e : u = j
    · rw [e, im_L, im_L, h5, mpos_cg h3]
    · rw [im_ne (fun z => e z.2), im_ne (fun z => e z.2)]; exact h5 u
theorem LnEq.to {A B : Mem} {i j : Nat} (h : LnEq A B) : ∀ n, LnEq (toN A j i n) (toN B j i n)
  | 0 => h
  | n + 1 => by
    show LnEq (imM (toN A j i n) j ((mL A 8 i).getD n 0)) (imM (toN B j i n) j ((mL B 8 i).getD n 0))
    rw [h.2.2.2.2 i]
    exact (LnEq.to h n).im
theorem LnEq.tov {A B : Mem} {i j : Nat} (h : LnEq A B) : LnEq (tovM A j i) (tovM B j i) := by
  have e := h.to (i := i) (j := j) (mL A 8 i).length
  have l := h.2.2.2.2 i
  refine ⟨by rw [tov_N, tov_N]; exact h.1, ?_, ?_, by rw [tov_J, tov_J]; exact h.2.2.2.1, fun u => ?_⟩
  · funext k a u
    rw [tov_P, tov_P, e.2.1, l]
  · funext k a u
    rw [tov_T, tov_T]
    unfold tvB tvJ
    rw [h.2.2.1]
  · rw [tov_8, tov_8, e.2.2.2.2 u, l]
theorem LnEq.lq {M : Mem} {i : Nat} : LnEq (lqM M i) M := ⟨mN_lq, mP_lq, mT_lq, mJ_lq, fun _ => l8_lq⟩
theorem LnEq.jq {M : Mem} {i : Nat} : LnEq (jqM M i) M := ⟨mN_jq, mP_jq, mT_jq, mJ_jq, fun _ => l8_jq⟩
theorem LnEq.trans {A B C : Mem} (h : LnEq A B) (g : LnEq B C) : LnEq A C := ⟨h.1.trans g.1, h.2.1.trans g.2.1, h.2.2.1.trans g.2.2.1, h.2.2.2.1.trans g.2.2.2.1, fun u => (h.2.2.2.2 u).trans (g.2.2.2.2 u)⟩
theorem LnEq.leave {A B : Mem} {i : Nat} (h : LnEq A B) : LnEq (leaveM A i) (leaveM B i) := by
  obtain ⟨q1, q2, q3, q4⟩ := leave_cg (i := i) h.1 h.2.1 h.2.2.1 h.2.2.2.1
  exact ⟨q1, q2, q3, q4, fun u => by rw [mL_leave, mL_leave]; exact h.2.2.2.2 u⟩
/-- the merged desk, but for the lines -/
theorem mrg_ln {M : Mem} {i j : Nat} : LnEq (mrgM M i j) (tovM (leaveM M i) j i) := LnEq.jq.trans ((LnEq.lq.trans LnEq.lq).leave.tov)
theorem RC_ln {A B N : Mem} (h : LnEq A B) (r : RC B N) : RC A N := rc_ln h.1 h.2.1 h.2.2.1 h.2.2.2.1 r
theorem dk_LnEq {t : Nat} {A B : Mem} (h : LnEq A B) (d : Dk t B) : Dk t A := dk_ln h.1 h.2.1 h.2.2.1 h.2.2.2.2 d
