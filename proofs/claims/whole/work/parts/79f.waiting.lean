theorem cp_add {p q r : Nat → Bool} : ∀ l : List Nat, (∀ x ∈ l, (if p x = true then 1 else 0) = (if q x = true then 1 else 0) + (if r x = true then 1 else 0)) → l.countP p = l.countP q + l.countP r
  | [], _ => rfl
  | x :: l, h => by
    have ih := cp_add l (fun y hy => h y (List.mem_cons_of_mem _ hy))
    have hx := h x List.mem_cons_self
    rw [List.countP_cons, List.countP_cons, List.countP_cons, ih, hx]
    omega
theorem fc_cnt {M : Mem} {a : Nat} : ∀ n, fcN M a n = nI ((List.range n).countP (fiM M a))
  | 0 => rfl
  | n + 1 => by
    unfold fcN
    rw [fc_cnt n, List.range_succ, List.countP_append, List.countP_cons, List.countP_nil, ← nI_add]
    refine congrArg (fun z => nI ((List.range n).countP (fiM M a)) + z) ?_
    by_cases c : fiM M a n = true
    · rw [if_pos c, if_pos c]; rfl
    · rw [if_neg c, if_neg c]; rfl
def wcB (M : Mem) (a n x : Nat) : Bool := waM M x && decide (toM M x < n) && caM M a (nI (toM M x))
theorem ln_cnt {M : Mem} {q : Nat} (w : Wf M) (h : QI M) (hq : q < 6) : (mL M 9 q).length = (List.range (mN M 4)).countP (fun x => waM M x && decide (toM M x = q)) := by
  rw [List.countP_eq_length_filter]
  refine List.Perm.length_eq ?_
  refine (List.perm_ext_iff_of_nodup (w.2.2.2.2.2.2 q hq) (List.Nodup.sublist List.filter_sublist List.nodup_range)).mpr (fun x => ?_)
  rw [(h q hq).1 x, List.mem_filter, List.mem_range, Bool.and_eq_true, decide_eq_true_iff]
theorem wt_cnt {M : Mem} {a : Nat} (w : Wf M) (h : QI M) : ∀ n, n ≤ 6 → wtN M a n = nI ((List.range (mN M 4)).countP (wcB M a n))
  | 0, _ => by
    have e : (List.range (mN M 4)).countP (wcB M a 0) = 0 := List.countP_eq_zero.mpr (fun x _ => by unfold wcB; simp)
    rw [e]; rfl
  | n + 1, hn => by
    have ih := wt_cnt (a := a) w h n (by omega)
    unfold wtN
    have e : (List.range (mN M 4)).countP (wcB M a (n + 1)) = (List.range (mN M 4)).countP (wcB M a n) + (List.range (mN M 4)).countP (fun x => waM M x && decide (toM M x = n) && caM M a (nI n)) := by
      refine cp_add _ (fun x _ => ?_)
      unfold wcB
      rcases Nat.lt_trichotomy (toM M x) n with g | g | g
      · have g1 : toM M x < n + 1 := by omega
        have g2 : ¬ toM M x = n := by omega
        simp [g, g1, g2]
      · have g1 : toM M x < n + 1 := by omega
        have g2 : ¬ toM M x < n := by omega
        rw [← g]
        simp
      · have g1 : ¬ toM M x < n + 1 := by omega
        have g2 : ¬ toM M x = n := by omega
        have g3 : ¬ toM M x < n := by omega
        simp [g1, g2, g3]
    rw [e, ih]
    by_cases c : caM M a (nI n) = true
    · rw [if_pos c, nI_add, ln_cnt w h (by omega)]
      simp only [c, Bool.and_true]
    · rw [if_neg c]
      have c2 : caM M a (nI n) = false := by cases z : caM M a (nI n); rfl; exact absurd z c
      have e0 : (List.range (mN M 4)).countP (fun x => waM M x && decide (toM M x = n) && caM M a (nI n)) = 0 := List.countP_eq_zero.mpr (fun x _ => by rw [c2, Bool.and_false]; decide)
      rw [e0, Nat.add_zero]
theorem wt_fc {M : Mem} {a : Nat} (w : Wf M) (h : QI M) : wtN M a 6 = fcN M a (mN M 4) := by
  rw [wt_cnt w h 6 (Nat.le_refl _), fc_cnt]
  refine congrArg nI (List.countP_congr (fun x hx => ?_))
  rw [List.mem_range] at hx
  obtain ⟨_, _, e, l, _⟩ := w.2.2.1 x hx
  unfold wcB fiM
  rw [e, decide_eq_true l, Bool.and_true]
/-- waiting -/
theorem pu_23 {t : Nat} {M : Mem} (I : INV t M) (ht : t < 512) (x : Int32) (M1 M2 : Mem) (hM1 : M1 = if rWaiting M x = 0 then sJ (M) 39 0 0 ((wtN M (ix x) 6).toInt64) else M) (hM2 : M2 = if rWaiting M x = 0 then sT M1 7 19 0 0 else sT M1 7 19 0 (thI (rWaiting M x))) : (mN (M) 39 = 1) ∧ RC M M1 ∧ 0 < mN M1 7 ∧ 0 < mN M2 7 ∧ 0 < mN M2 39 ∧ rWaiting M x < 100 ∧ mT M2 7 19 0 = nI (rWaiting M x) ∧ (rWaiting M x = 0 → mJ M2 39 0 0 = ((if rWaiting M x = 0 then fcN M (ix x) (mN M 4) else 0)).toInt64) ∧ INV (t + 1) M2 := by
  exact ⟨I.n39, pu_read I rfl hM1 hM2 (by unfold rWaiting; (repeat' split) <;> omega) (fun h => by rw [if_pos h, wt_fc I.wf I.qi])⟩
