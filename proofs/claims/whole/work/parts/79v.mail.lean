/-! mail: a mail comes to ticket t of the memory L, whose lines don't hold t -/
theorem a5_T {L : Mem} {t : Nat} {v : Int32} (k a u : Nat) : mT (ad5 L t v) k a u = if k = 4 ∧ a = 5 ∧ u = t then mT L 4 5 t ||| v else if k = 2 ∧ a = 0 ∧ u = mN L 2 then nI (mN L 2) else mT L k a u := by
  unfold ad5
  rw [mT_sT, mT_im, ma_T, ma_T, if_neg (c := (4 : Nat) = 2 ∧ (5 : Nat) = 0 ∧ t = mN L 2) (fun z => absurd z.1 (by decide))]
theorem a5_P {L : Mem} {t : Nat} {v : Int32} (k a u : Nat) : mP (ad5 L t v) k a u = if k = 2 ∧ a = 1 ∧ u = mN L 2 then some t else mP L k a u := by
  show mP (imM (maM L t) t (mN L 2)) k a u = _
  rw [im_P, ma_P]
  split <;> rfl
theorem a5_N {L : Mem} {t : Nat} {v : Int32} {k : Nat} (h : k ≠ 2) : mN (ad5 L t v) k = mN L k := if_neg h
theorem a5_N2 {L : Mem} {t : Nat} {v : Int32} : mN (ad5 L t v) 2 = mN L 2 + 1 := rfl
theorem a5_J {L : Mem} {t : Nat} {v : Int32} : mJ (ad5 L t v) = mJ L := rfl
theorem a5_8 {L : Mem} {t : Nat} {v : Int32} (u : Nat) : mL (ad5 L t v) 8 u = if u = t then insL (mL L 8 t) (mpos (maM L t) (mL L 8 t) (mN L 2) (mL L 8 t).length) (mN L 2) else mL L 8 u := by
  show mL (imM (maM L t) t (mN L 2)) 8 u = _
  by_cases e : u = t
  · rw [if_pos e, e]; exact im_L
  · rw [if_neg e, im_ne (fun z => e z.2)]; rfl
theorem a5_9 {L : Mem} {t q : Nat} {v : Int32} : mL (ad5 L t v) 9 q = mL L 9 q := im_ne (fun z => absurd z.1 (by decide))
theorem tk_a5 {L : Mem} {t k : Nat} {v : Int32} : tkM (ad5 L t v) k = if k = mN L 2 then t else tkM L k := by
  unfold tkM
  rw [a5_P]
  by_cases e : k = mN L 2
  · rw [if_pos ⟨rfl, rfl, e⟩, if_pos e]; rfl
  · rw [if_neg (fun z => e z.2.2), if_neg e]
theorem co_lt {A T : Mem} {u : Nat} : ∀ n, (∀ k, k < n → tkM T k = tkM A k) → coN T u n = coN A u n
  | 0, _ => rfl
  | n + 1, h => by
    have ih := co_lt (A := A) (T := T) (u := u) n (fun k hk => h k (by omega))
    show coN T u n + (if tkM T n = u then 1 else 0) = coN A u n + (if tkM A n = u then 1 else 0)
    rw [ih, h n (by omega)]
theorem wo_lt {A T : Mem} {u : Nat} : ∀ n, (∀ k, k < n → tkM T k = tkM A k ∧ mT T 23 k 0 = mT A 23 k 0) → woN T T u n = woN A A u n
  | 0, _ => rfl
  | n + 1, h => by
    have ih := wo_lt (A := A) (T := T) (u := u) n (fun k hk => h k (by omega))
    show (woN T T u n ||| if tkM T n = u then mT T 23 n 0 else 0) = (woN A A u n ||| if tkM A n = u then mT A 23 n 0 else 0)
    rw [ih, (h n (by omega)).1, (h n (by omega)).2]
/-- the new mail, with the words that the reference notes -/
def wrM (L : Mem) (t : Nat) (v : Int32) : Mem := sT (ad5 L t v) 23 (mN L 2) 0 v
theorem dk_wr {t0 t p : Nat} {L : Mem} {v : Int32} (d : Dk t0 L) (w : Wf L) (ht : t < mN L 4) (h80 : mN L 2 < 80) (live : mT L 4 6 t ≠ 109) (hp : p < 1024) (hv : v = nI p) : Dk t0 (wrM L t v) := by
  obtain ⟨⟨u1, u2, u3⟩, ml, ⟨c1, c2, c3, c4, c5, c6⟩, rk, held, ⟨o1, o2⟩, bnd⟩ := d
  have wt := w.2.2.1 t ht
  have T : ∀ k a u, mT (wrM L t v) k a u = if k = 23 ∧ a = mN L 2 ∧ u = 0 then v else if k = 4 ∧ a = 5 ∧ u = t then mT L 4 5 t ||| v else if k = 2 ∧ a = 0 ∧ u = mN L 2 then nI (mN L 2) else mT L k a u := fun k a u => by
    unfold wrM
    rw [mT_sT, a5_T]
  have nk : ∀ k, k ≠ 23 → k ≠ 4 → k ≠ 2 → ∀ a u, mT (wrM L t v) k a u = mT L k a u := fun k h1 h2 h3 a u => by
    rw [T, if_neg (fun z => h1 z.1), if_neg (fun z => h2 z.1), if_neg (fun z => h3 z.1)]
  have n4 : ∀ a, a ≠ 5 → ∀ u, mT (wrM L t v) 4 a u = mT L 4 a u := fun a h u => by
    rw [T, if_neg (fun z => absurd z.1 (by decide)), if_neg (fun z => h z.2.1), if_neg (fun z => absurd z.1 (by decide))]
  have N4 : ∀ k, k ≠ 2 → mN (wrM L t v) k = mN L k := fun k h => a5_N (L := L) (t := t) (v := v) h
  have N2 : mN (wrM L t v) 2 = mN L 2 + 1 := rfl
  have P4 : ∀ a u, mP (wrM L t v) 4 a u = mP L 4 a u := fun a u => (a5_P (L := L) (t := t) (v := v) 4 a u).trans (if_neg (fun z => absurd z.1 (by decide)))
  have tk : ∀ k, tkM (wrM L t v) k = if k = mN L 2 then t else tkM L k := fun k => tk_a5 (L := L) (t := t) (v := v)
  have tkl : ∀ k, k < mN L 2 → tkM (wrM L t v) k = tkM L k := fun k h => by rw [tk, if_neg (by omega)]
  have tkn : tkM (wrM L t v) (mN L 2) = t := by rw [tk, if_pos rfl]
  have L8 : ∀ u, mL (wrM L t v) 8 u = if u = t then insL (mL L 8 t) (mpos (maM L t) (mL L 8 t) (mN L 2) (mL L 8 t).length) (mN L 2) else mL L 8 u := fun u => a5_8 (L := L) (t := t) (v := v) u
  have sp : ∀ k, k < mN L 2 + 1 → k < mN L 2 ∨ k = mN L 2 := fun k h => by omega
  refine ⟨⟨fun u hu => ?_, fun u hu => ?_, fun u hu => ?_⟩, fun u hu => ?_, ⟨fun u => ?_, fun b => ?_, fun b hb => ?_, fun k hk => ?_, fun b hb => ?_, fun b hb q hq => ?_⟩, ?_, fun b hb => ?_, ⟨fun u hu => ?_, fun q b hq hb => ?_⟩, ?_⟩
  · rw [n4 0 (by decide)]; exact u1 u (by rw [← N4 4 (by decide)]; exact hu)
  · rw [T, if_neg (fun z => absurd z.1 (by decide)), if_neg (fun z => absurd z.1 (by decide))]
    rw [N2] at hu
    rcases sp u hu with h | h
    · rw [if_neg (fun z => by omega)]; exact u2 u h
    · rw [if_pos ⟨rfl, rfl, h⟩, h]
  · rw [nk 0 (by decide) (by decide) (by decide)]; exact u3 u (by rw [← N4 0 (by decide)]; exact hu)
  · have hu : u < mN L 4 := by rw [← N4 4 (by decide)]; exact hu
    obtain ⟨m1, m2, m3⟩ := ml u hu
    have cl : coN (wrM L t v) u (mN L 2) = coN L u (mN L 2) := co_lt _ tkl
    unfold MlOk
    rw [L8, N2]
    have cs : coN (wrM L t v) u (mN L 2 + 1) = coN L u (mN L 2) + if t = u then 1 else 0 := by
      show coN (wrM L t v) u (mN L 2) + (if tkM (wrM L t v) (mN L 2) = u then 1 else 0) = _
      rw [cl, tkn]
    by_cases e : u = t
    · rw [if_pos e]
      subst e
      have pm := insL_perm (mL L 8 u) (mpos (maM L u) (mL L 8 u) (mN L 2) (mL L 8 u).length) (mN L 2)
      refine ⟨srt_iff.mpr (im_sorted (fun y hy => ?_) ⟨?_, by omega⟩ (fun z => Nat.lt_irrefl _ (wt.2.2.2.2.2.2.2.1 _ z)) (srt_iff.mp m1)), fun k hk => ?_, ?_⟩
      · have hb := wt.2.2.2.2.2.2.2.1 y hy
        rw [ma_T, if_neg (fun z => by omega)]
        exact ⟨u2 y hb, by omega⟩
      · rw [ma_T, if_pos ⟨rfl, rfl, rfl⟩]
      · rw [pm.mem_iff, List.mem_cons, tk]
        rcases sp k hk with h | h
        · rw [if_neg (by omega), m2 k h]
          exact ⟨fun z => Or.inr z, fun z => by rcases z with z | z; exact absurd z (by omega); exact z⟩
        · rw [if_pos h]
          exact ⟨fun _ => Or.inl h, fun _ => rfl⟩
      · rw [cs, if_pos rfl, m3, insL_len]
        exact nI_add _ 1
    · rw [if_neg e]
      refine ⟨m1, fun k hk => ?_, ?_⟩
      · rw [tk]
        rcases sp k hk with h | h
        · rw [if_neg (by omega)]; exact m2 k h
        · rw [if_pos h]
          exact ⟨fun z => absurd z.symm e, fun z => by have := (w.2.2.1 u hu).2.2.2.2.2.2.2.1 k z; omega⟩
      · rw [cs, if_neg (fun z => e z.symm), Int32.add_zero]; exact m3
  · obtain ⟨d1, d2, d3, d4, d5⟩ := c1 u
    rw [n4 6 (by decide), n4 8 (by decide), P4, N4 4 (by decide), L8]
    refine ⟨d1, d2, fun z => ?_, d4, d5⟩
    rw [if_neg (fun y => live (by rw [← y]; exact z))]
    exact d3 z
  · rw [nk 0 (by decide) (by decide) (by decide), nk 0 (by decide) (by decide) (by decide)]; exact c2 b
  · rw [nk 0 (by decide) (by decide) (by decide)]; exact c3 b (by rw [← N4 0 (by decide)]; exact hb)
  · rw [N2] at hk
    rw [T]
    rcases sp k hk with h | h
    · rw [if_neg (fun z => by omega), if_neg (fun z => absurd z.1 (by decide)), if_neg (fun z => absurd z.1 (by decide))]
      exact c4 k h
    · rw [if_pos ⟨rfl, h, rfl⟩]
      exact ⟨p, hp, hv⟩
  · rw [nk 3 (by decide) (by decide) (by decide)]; exact c5 b (by rw [← N4 3 (by decide)]; exact hb)
  · rw [nk 14 (by decide) (by decide) (by decide)]; exact c6 b (by rw [← N4 3 (by decide)]; exact hb) q hq
  · obtain ⟨rk, h⟩ := rk
    exact ⟨rk, fun a b z => h a b (by rw [← P4]; exact z)⟩
  · rw [nk 0 (by decide) (by decide) (by decide), N4 4 (by decide), he_cg (A := L) (B := wrM L t v) (fun i => P4 9 i) b]
    exact held b (by rw [← N4 0 (by decide)]; exact hb)
  · have hu : u < mN L 4 := by rw [← N4 4 (by decide)]; exact hu
    have wl : woN (wrM L t v) (wrM L t v) u (mN L 2) = woN L L u (mN L 2) := wo_lt _ (fun k hk => ⟨tkl k hk, by rw [T, if_neg (fun z => by omega), if_neg (fun z => absurd z.1 (by decide)), if_neg (fun z => absurd z.1 (by decide))]⟩)
    rw [N2]
    show (woN (wrM L t v) (wrM L t v) u (mN L 2) ||| if tkM (wrM L t v) (mN L 2) = u then mT (wrM L t v) 23 (mN L 2) 0 else 0) = _
    have t23 : mT (wrM L t v) 23 (mN L 2) 0 = v := by rw [T, if_pos ⟨rfl, rfl, rfl⟩]
    rw [wl, tkn, t23, o1 u hu]
    by_cases e : t = u
    · rw [if_pos e, T, if_neg (fun z => absurd z.1 (by decide)), if_pos ⟨rfl, rfl, e.symm⟩, e]
    · rw [if_neg e, T, if_neg (fun z => absurd z.1 (by decide)), if_neg (fun z => e z.2.2.symm), if_neg (fun z => absurd z.1 (by decide)), Int32.or_zero]
  · rw [nk 16 (by decide) (by decide) (by decide), nk 3 (by decide) (by decide) (by decide), N4 3 (by decide)]; exact o2 q b hq hb
  · obtain ⟨b1, b2, b3, b4, b5⟩ := bnd
    refine ⟨?_, fun u hu => ?_, fun c hc => ?_, ?_, ?_⟩
    · rw [nk 6 (by decide) (by decide) (by decide)]; exact b1
    · rw [n4 7 (by decide)]; exact b2 u (by rw [← N4 4 (by decide)]; exact hu)
    · rw [nk 15 (by decide) (by decide) (by decide)]; exact b3 c hc
    · rw [nk 6 (by decide) (by decide) (by decide)]; exact b4
    · rw [nk 7 (by decide) (by decide) (by decide)]; exact b5
theorem dk_clk {t0 t : Nat} {A : Mem} (d : Dk t0 A) : Dk t0 (sT A 4 7 t 0) := by
  have nk : ∀ k, k ≠ 4 → ∀ j u, mT (sT A 4 7 t 0) k j u = mT A k j u := fun k h j u => sT_ne (fun z => h z.1)
  have nj : ∀ j, j ≠ 7 → ∀ u, mT (sT A 4 7 t 0) 4 j u = mT A 4 j u := fun j h u => sT_ne (fun z => h z.2.1)
  obtain ⟨num, ml, cel, rk, held, wrd, b1, b2, b3⟩ := d
  refine ⟨num_cg (A := A) rfl (nk 0 (by decide) 0) (nk 2 (by decide) 0) (nj 0 (by decide)) num, ml_cg (A := A) rfl (fun _ => rfl) (fun _ => rfl) ml, cel, rk, held_cg (A := A) rfl (nk 0 (by decide) 3) (fun _ => rfl) held, wrd_cg (A := A) rfl (fun _ => rfl) (fun k => nk 23 (by decide) k 0) (nj 5 (by decide)) (fun j => nk 16 (by decide) j 0) (nk 3 (by decide) 0) wrd, b1, fun i hi => ?_, b3⟩
  rw [mT_sT]
  by_cases e : i = t
  · rw [if_pos ⟨rfl, rfl, e⟩]; exact ⟨0, Nat.zero_le _, rfl⟩
  · rw [if_neg (fun z => e z.2.2)]; exact b2 i hi
theorem dk_brk {t0 t : Nat} {A : Mem} (d : Dk t0 A) : Dk t0 (sT A 4 8 t 0) := by
  have nk : ∀ k, k ≠ 4 → ∀ j u, mT (sT A 4 8 t 0) k j u = mT A k j u := fun k h j u => sT_ne (fun z => h z.1)
  have nj : ∀ j, j ≠ 8 → ∀ u, mT (sT A 4 8 t 0) 4 j u = mT A 4 j u := fun j h u => sT_ne (fun z => h z.2.1)
  obtain ⟨num, ml, ⟨c1, c2⟩, rk, held, wrd, bnd⟩ := d
  refine ⟨num_cg (A := A) rfl (nk 0 (by decide) 0) (nk 2 (by decide) 0) (nj 0 (by decide)) num, ml_cg (A := A) rfl (fun _ => rfl) (fun _ => rfl) ml, ⟨fun u => ?_, c2⟩, rk, held_cg (A := A) rfl (nk 0 (by decide) 3) (fun _ => rfl) held, wrd_cg (A := A) rfl (fun _ => rfl) (fun k => nk 23 (by decide) k 0) (nj 5 (by decide)) (fun j => nk 16 (by decide) j 0) (nk 3 (by decide) 0) wrd, bnd_cg (A := A) rfl (nj 7 (by decide)) (nk 6 (by decide) 9 0) (nk 6 (by decide) 11 0) (fun j => nk 15 (by decide) j 0) (nk 7 (by decide) 28 0) bnd⟩
  obtain ⟨d1, d2, d3⟩ := c1 u
  refine ⟨d1, ?_, d3⟩
  rw [mT_sT]
  by_cases e : u = t
  · rw [if_pos ⟨rfl, rfl, e⟩]; exact Or.inl rfl
  · rw [if_neg (fun z => e z.2.2)]; exact d2
theorem dk_anew {t0 t : Nat} {A : Mem} (d : Dk t0 A) (ht : t < mN A 4) (live : mT A 4 6 t ≠ 109) (w6 : toM A t < 6) (w11 : ∀ q, mP A 4 11 t = some q → q < mN A 3) : Dk t0 (anewM A t) := by
  have hm : mP A 4 13 t = none := Decidable.byContradiction (fun z => live ((d.2.2.1.1 t).2.2.2.1 z))
  unfold anewM
  cases e : mP A 4 11 t with
  | none => exact dk_brk (dk_clk (dk_st (by simp) (by show mP (sP A 4 11 t none) 4 13 t = none; rw [mP_sP, if_neg (fun z => absurd z.2.1 (by decide))]; exact hm) (dk_sent d)))
  | some q =>
    obtain ⟨z, z1, z2⟩ := d.2.2.1.2.2.2.2.2 q (w11 q e) (toM A t) w6
    have dl : Dk t0 (loseM A q (toM A t)) := by
      show Dk t0 (sT A 14 (toM A t) q _)
      rw [z2, (gain_ok ⟨z, by omega⟩).2]
      exact dk_wgt (by show z - 1 ≤ 9; omega) d
    exact dk_brk (dk_clk (dk_st (by simp) (by show mP (sP A 4 11 t none) 4 13 t = none; rw [mP_sP, if_neg (fun z => absurd z.2.1 (by decide))]; exact hm) (dk_sent dl)))
theorem LnEq.sT {A B : Mem} {k j i : Nat} {v : Int32} (h : LnEq A B) : LnEq (sT A k j i v) (sT B k j i v) :=
  ⟨h.1, h.2.1, by show u3 (mT A) k j i v = u3 (mT B) k j i v; rw [h.2.2.1], h.2.2.2.1, h.2.2.2.2⟩
theorem anew_23 {A : Mem} {t n : Nat} {v : Int32} : LnEq (sT (anewM A t) 23 n 0 v) (anewM (sT A 23 n 0 v) t) := by
  have sw : ∀ (B : Mem) (j i : Nat) (x : Int32) (k : Nat), k ≠ 23 → u3 (u3 (mT B) k j i x) 23 n 0 v = u3 (u3 (mT B) 23 n 0 v) k j i x := fun B j i x k h => by
    funext a b c
    show (if _ then _ else if _ then _ else _) = (if _ then _ else if _ then _ else _)
    by_cases c1 : a = 23 ∧ b = n ∧ c = 0
    · rw [if_pos c1, if_neg (fun z => h (z.1.symm.trans c1.1)), if_pos c1]
    · rw [if_neg c1, if_neg c1]
  have re : ∀ B : Mem, LnEq (sT (reopM B t) 23 n 0 v) (reopM (sT B 23 n 0 v) t) := fun B => by
    refine ⟨rfl, rfl, ?_, rfl, fun _ => rfl⟩
    show u3 (u3 (u3 (u3 (mT B) 4 6 t 111) 4 7 t 0) 4 8 t 0) 23 n 0 v = u3 (u3 (u3 (u3 (mT B) 23 n 0 v) 4 6 t 111) 4 7 t 0) 4 8 t 0
    have e1 := sw (sT (sT B 4 6 t 111) 4 7 t 0) 8 t 0 4 (by decide)
    have e2 := sw (sT B 4 6 t 111) 7 t 0 4 (by decide)
    have e3 := sw B 6 t 111 4 (by decide)
    exact e1.trans (congrArg (fun f => u3 f 4 8 t 0) (e2.trans (congrArg (fun f => u3 f 4 7 t 0) e3)))
  unfold anewM
  cases e : mP A 4 11 t with
  | none =>
    have e' : mP (sT A 23 n 0 v) 4 11 t = none := e
    rw [e']
    exact re A
  | some q =>
    have e' : mP (sT A 23 n 0 v) 4 11 t = some q := e
    rw [e']
    refine (re _).trans ?_
    have lo : LnEq (sT (loseM A q (toM A t)) 23 n 0 v) (loseM (sT A 23 n 0 v) q (toM (sT A 23 n 0 v) t)) := ⟨rfl, rfl, sw A _ _ _ 14 (by decide), rfl, fun _ => rfl⟩
    refine ⟨lo.1, ?_, ?_, lo.2.2.2.1, lo.2.2.2.2⟩
    · rfl
    · show u3 (u3 (u3 (mT (sT (loseM A q (toM A t)) 23 n 0 v)) 4 6 t 111) 4 7 t 0) 4 8 t 0 = u3 (u3 (u3 (mT (loseM (sT A 23 n 0 v) q (toM (sT A 23 n 0 v) t))) 4 6 t 111) 4 7 t 0) 4 8 t 0
      rw [lo.2.2.1]
/-- the desk's memory after a mail to ticket t, with the words that the reference notes, but for the lines -/
def adW (L : Mem) (t : Nat) (v : Int32) : Mem := if mT L 4 6 t = 97 ∨ mT L 4 6 t = 99 then anewM (wrM L t v) t else wrM L t v
theorem a5_st {L : Mem} {t : Nat} {v : Int32} : mT (ad5 L t v) 4 6 t = mT L 4 6 t := by
  rw [a5_T, if_neg (fun z => absurd z.2.1 (by decide)), if_neg (fun z => absurd z.1 (by decide))]
theorem adW_ln {L : Mem} {t : Nat} {v : Int32} : LnEq (sT (jqM (adM L t v) t) 23 (mN L 2) 0 v) (adW L t v) := by
  refine (LnEq.sT LnEq.jq).trans ?_
  unfold adM adW
  rw [a5_st]
  by_cases c : mT L 4 6 t = 97 ∨ mT L 4 6 t = 99
  · rw [if_pos c, if_pos c]; exact anew_23
  · rw [if_neg c, if_neg c]; exact ⟨rfl, rfl, rfl, rfl, fun _ => rfl⟩
theorem dk_adW {t0 t p : Nat} {L : Mem} {v : Int32} (d : Dk t0 L) (w : Wf L) (ht : t < mN L 4) (h80 : mN L 2 < 80) (live : mT L 4 6 t ≠ 109) (hp : p < 1024) (hv : v = nI p) : Dk t0 (adW L t v) := by
  have dw := dk_wr d w ht h80 live hp hv
  have wt := w.2.2.1 t ht
  unfold adW
  split
  · refine dk_anew dw ht (by show mT (ad5 L t v) 4 6 t ≠ 109; rw [a5_st]; exact live) ?_ (fun q h => ?_)
    · have e : toM (wrM L t v) t = toM L t := by
        unfold toM
        show (mT (ad5 L t v) 4 4 t).toNatClampNeg = _
        rw [a5_T, if_neg (fun z => absurd z.2.1 (by decide)), if_neg (fun z => absurd z.1 (by decide))]
      rw [e]
      exact wt.2.2.2.1
    · have h : mP (ad5 L t v) 4 11 t = some q := h
      rw [a5_P, if_neg (fun z => absurd z.1 (by decide))] at h
      exact wt.2.2.2.2.2.1 q h
  · exact dw
