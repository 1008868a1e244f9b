theorem ml_T {N : Mem} {t k a u : Nat} {v : Int32} (h4 : k ≠ 4) (h14 : k ≠ 14) (h2 : k ≠ 2) : mT (mlT N t v) k a u = mT N k a u := by
  unfold mlT
  rw [mT_jq, ad_T (fun z => h4 z.1) h14 h2, mT_lq]
theorem ml_J {N : Mem} {t : Nat} {v : Int32} : mJ (mlT N t v) = mJ N := by
  unfold mlT
  rw [mJ_jq, ad_J, mJ_lq]
theorem ml_40 {N : Mem} {t u : Nat} {v : Int32} : mT (mlT N t v) 4 0 u = mT N 4 0 u := by
  unfold mlT
  rw [mT_jq, ad_T (fun z => by omega) (by decide) (by decide), mT_lq]
theorem eqd_put {D X N : Mem} {a v : Int32} (e : EqD X N) : EqD (sT X 23 (mN D 2) 0 v) (putR D N a v) := by
  obtain ⟨e1, e2, e3, e4, e5⟩ := e
  refine ⟨e1, e2, e3, fun k h7 h17 hk j i => ?_, e5⟩
  rw [put_T, mT_sT, if_neg (c := k = 7 ∧ j = 21 ∧ i = 0) (fun z => h7 z.1), if_neg (c := k = 22 ∧ j = mN D 2 ∧ i = 0) (fun z => by omega), e4 k h7 h17 hk]
theorem eqd_op {D X N : Mem} {t : Nat} (e : EqD X N) : EqD X (opR D N t) := by
  unfold opR
  split
  · exact e
  · exact EqD.sT (Or.inr (by decide)) (EqD.sT (Or.inr (by decide)) (EqD.sT (Or.inr (by decide)) (eqd_lrn e)))
theorem eqd_mk {D X N : Mem} {c s u : Int32} (e : EqD X N) : EqD X (mkR D N c s u) :=
  EqD.sT (Or.inl rfl) (EqD.sT (Or.inr (by decide)) (EqD.sT (Or.inr (by decide)) (EqD.sT (Or.inr (by decide)) (EqD.sT (Or.inr (by decide)) (EqD.sT (Or.inr (by decide)) (EqD.sT (Or.inr (by decide)) (EqD.sT (Or.inr (by decide)) e)))))))
theorem op_J {D N : Mem} {t : Nat} : mJ (opR D N t) = mJ N := by
  unfold opR
  split
  · rfl
  · exact mJ_lrn
theorem top_fin {n m : Nat} (h : n ≤ m) (hm : m < 2 ^ 31) : nI n < nI m ↔ ¬ n = m := by
  rw [i32_lt, nI_toInt (by omega), nI_toInt hm]
  omega
theorem lq_no {M : Mem} {i : Nat} (h : i ∉ mL M 9 (toM M i)) : lqM M i = M := by
  unfold lqM qremM
  rw [if_neg h]
theorem jl_ct {D : Mem} {c : Nat} {y : Int32} : ∀ n, ∀ b, jlN D c y n = some b → ctM D b = true
  | 0, _, h => nomatch (h : (none : Option Nat) = some _)
  | n + 1, b, h => by
    have ih := jl_ct (D := D) (c := c) (y := y) n
    unfold jlN at h
    by_cases k : jlk D c y n = true
    · have hn : ctM D n = true := by
        unfold jlk at k
        simp only [Bool.and_eq_true] at k
        exact k.2
      rw [if_pos k] at h
      cases e : jlN D c y n with
      | none =>
        rw [e] at h
        cases h
        exact hn
      | some d =>
        rw [e] at h
        simp only at h
        by_cases q : laN D d (mN D 2) < laN D n (mN D 2)
        · rw [if_pos q] at h
          cases h
          exact hn
        · rw [if_neg q] at h
          cases h
          exact ih _ e
    · rw [if_neg k] at h
      exact ih _ h
theorem jn_ct {D : Mem} {c b : Nat} {y z : Int32} (h : jnR D c y z = some b) : ctM D b = true := by
  unfold jnR at h
  by_cases k : ¬ z < 0 ∧ cuM D (tkM D (ix z)) = c ∧ ctM D (tkM D (ix z)) = true
  · rw [if_pos k] at h
    cases h
    exact k.2.2
  · rw [if_neg k] at h
    exact jl_ct _ _ h
theorem RC_23 {D N : Mem} {n : Nat} {v : Int32} (r : RC D N) : RC (sT D 23 n 0 v) N :=
  rc_cg (A := D) (M := N) ⟨rfl, rfl, fun k hk j i => sT_ne (fun z => by omega), fun _ _ => rfl⟩ ⟨rfl, fun _ _ _ => rfl, fun _ _ _ _ _ => rfl, fun _ _ => rfl⟩ r
set_option maxHeartbeats 4000000 in
theorem pu_4 {t : Nat} {M : Mem} (I : INV t M) (ht : t < 512) (x y z u v : Int32) (M1 M2 : Mem) (hM1 : M1 = if rMail M x y z u v = 0 then sJ (mailM M x y z u v) 39 0 0 ((mailN M x y z u v).toInt64) else M) (hM2 : M2 = mailE M M1 x y z u v) : (mN M 7 = 1 ∧ ∀ k, 20 ≤ k → k ≤ 38 → mN M k = 1) ∧ (∀ i, i < mN M 4 → (mL M 8 i).length ≤ mN M 2) ∧ (mN (mailM M x y z u v) 39 = 1) ∧ RC M M1 ∧ 0 < mN M1 7 ∧ 0 < mN M2 7 ∧ 0 < mN M2 39 ∧ rMail M x y z u v < 100 ∧ mT M2 7 19 0 = nI (rMail M x y z u v) ∧ (rMail M x y z u v = 0 → mJ M2 39 0 0 = ((mailV M x y z u v)).toInt64) ∧ INV (t + 1) M2 := by
  have n2 := wn2 I.wf
  have n4 := wn4 I.wf
  have hl : ∀ i, i < mN M 4 → (mL M 8 i).length ≤ mN M 2 := fun i h => len_le I h
  have t80 : nI (mN M 2) < 80 ↔ ¬ mN M 2 = 80 := top_fin (m := 80) n2 (by omega)
  have t40 : nI (mN M 4) < 40 ↔ ¬ mN M 4 = 40 := top_fin (m := 40) n4 (by omega)
  have hz1 : inB z (-1) (nI (mN M 2) - 1) = true ↔ (z = -1 ∨ inN z (mN M 2) = true) := inB_m1 (by omega)
  -- the two refusals agree
  have hr : rMail M x y z u v = if rMail1 M x y z u v = 0 then rMail2 M x y z else rMail1 M x y z u v := by
    unfold rMail rMail1
    by_cases a : inB x 0 7 = true ∧ inB y 0 19 = true ∧ inB u 0 5 = true ∧ inB v 0 1023 = true
    · simp only [if_pos a, hz1]
      by_cases b : z = -1 ∨ inN z (mN M 2) = true
      · simp only [if_pos b]
        unfold rMail2
        rw [← jn_eq I b]
        by_cases c : mN M 2 = 80
        · rw [if_neg (fun q => t80.mp q.1 c), if_pos c, if_neg (by decide)]
        · rw [if_neg c, if_pos rfl]
          cases e : jnM M (ix x) y z with
          | none =>
            by_cases f : mN M 4 = 40
            · rw [if_neg (fun q => by rcases q.2 with g | g; exact nomatch g; exact t40.mp g f), if_pos ⟨rfl, f⟩]
            · rw [if_pos ⟨t80.mpr c, Or.inr (t40.mpr f)⟩, if_neg (fun q => f q.2)]
          | some b => rw [if_pos ⟨t80.mpr c, Or.inl rfl⟩, if_neg (fun q => nomatch q.1)]
      · simp only [if_neg b]
        rw [if_neg (by decide)]
    · simp only [if_neg a]
      rw [if_neg (by decide)]
  have hi : rMail M x y z u v = 0 → (ix x < 8 ∧ x = nI (ix x)) ∧ (ix u < 6 ∧ u = nI (ix u)) ∧ (ix v < 1024 ∧ v = nI (ix v)) ∧ (z = -1 ∨ inN z (mN M 2) = true) ∧ mN M 2 < 80 ∧ (jnM M (ix x) y z = none → mN M 4 < 40) := fun h => by
    unfold rMail at h
    by_cases a : inB x 0 7 = true ∧ inB y 0 19 = true ∧ inB u 0 5 = true ∧ inB v 0 1023 = true
    · rw [if_pos a] at h
      by_cases b : z = -1 ∨ inN z (mN M 2) = true
      · rw [if_pos b] at h
        by_cases c : nI (mN M 2) < 80 ∧ ((jnM M (ix x) y z).isSome = true ∨ nI (mN M 4) < 40)
        · refine ⟨inB_ix (x := x) (n := 8) a.1 (by omega), inB_ix (x := u) (n := 6) a.2.2.1 (by omega), inB_ix (x := v) (n := 1024) a.2.2.2 (by omega), b, ?_, fun e => ?_⟩
          · have := t80.mp c.1; omega
          · rcases c.2 with g | g
            · rw [e] at g; exact nomatch g
            · have := t40.mp g; omega
        · rw [if_neg c] at h; cases h
      · rw [if_neg b] at h; cases h
    · rw [if_neg a] at h; cases h
  have h12 : rMail M x y z u v = 0 → rMail1 M x y z u v = 0 ∧ rMail2 M x y z = 0 := fun h => by
    rw [h] at hr
    by_cases c : rMail1 M x y z u v = 0
    · rw [if_pos c] at hr; exact ⟨c, hr.symm⟩
    · rw [if_neg c] at hr; exact absurd hr.symm c
  have hXT : ∀ k a i, k ≠ 4 → k ≠ 14 → k ≠ 2 → mT (mailM M x y z u v) k a i = mT M k a i := fun k a i a4 a14 a2 => by
    unfold mailM
    cases jnM M (ix x) y z with
    | none => exact (ml_T a4 a14 a2).trans (ti_T (fun q => a4 q.1))
    | some b => exact ml_T a4 a14 a2
  have hXN : ∀ k, k ≠ 2 → k ≠ 4 → k ≠ 8 → mN (mailM M x y z u v) k = mN M k := fun k a2 a4 a8 => by
    unfold mailM
    cases jnM M (ix x) y z with
    | none =>
      show mN (mlT (tiM M (ix x) y u) (mN M 4) v) k = mN M k
      rw [mN_mlT, if_neg a2]
      exact (if_neg a4).trans (if_neg a8)
    | some b =>
      show mN (mlT M b v) k = mN M k
      rw [mN_mlT, if_neg a2]
  have hXJ : mJ (mailM M x y z u v) = mJ M := by
    unfold mailM
    cases jnM M (ix x) y z with
    | none => exact ml_J
    | some b => exact ml_J
  have hmo : RC M (mailM M x y z u v) := rc_mo ⟨fun k hk => hXN k (by omega) (by omega) (by omega), fun j i _ => hXT 7 j i (by decide) (by decide) (by decide), fun k j i h1 h2 => hXT k j i (by omega) (by omega) (by omega), fun j i => by rw [hXJ]⟩ I.rc
  have h4r : rMail M x y z u v ≤ 4 := by unfold rMail; (repeat' split) <;> omega
  refine ⟨I.rc.1, hl, (hXN 39 (by decide) (by decide) (by decide)).trans I.n39, pu_end I rfl hM1 h4r (fun h => ?_) (fun _ => hmo) (fun h => ?_) (fun h => ?_) (fun h => ?_)⟩
  · obtain ⟨k1, k2⟩ := h12 h
    obtain ⟨-, -, -, hz, -, -⟩ := hi h
    have e : mailN M x y z u v = mailV M x y z u v := by
      unfold mailV
      rw [if_pos k1, if_pos k2, ← jn_eq I hz]
      unfold mailN
      cases e : jnM M (ix x) y z with
      | none =>
        show mT (mlT (tiM M (ix x) y u) (mN M 4) v) 4 0 (mN M 4) = nI (mN M 4)
        rw [ml_40]
        exact ti_new.2.2.2.2.2.2.1
      | some b =>
        show mT (mlT M b v) 4 0 b = nI b
        rw [ml_40]
        exact I.num.1 b (jnM_lt I.wf b e)
    rw [e]
  · obtain ⟨k1, k2⟩ := h12 h
    rw [hM2]
    unfold mailE mailR
    rw [if_pos k1, if_pos k2]
    cases jnR M (ix x) y z with
    | none => exact ⟨rfl, rfl⟩
    | some b =>
      refine ⟨?_, ?_⟩
      · show mT (putR M (opR M (sT (sT M1 7 19 0 0) 7 19 0 0) b) (nI b) v) 7 19 0 = 0
        rw [put_T, if_neg (fun q => absurd q.2.1 (by decide)), if_neg (fun q => absurd q.1 (by decide)), if_neg (fun q => absurd q.1 (by decide)), mT_op]
        rfl
      · show mJ (opR M (sT (sT M1 7 19 0 0) 7 19 0 0) b) 39 0 0 = mJ M1 39 0 0
        rw [op_J]; rfl
  · rw [hM2]
    unfold mailE
    by_cases c : rMail1 M x y z u v = 0
    · rw [if_pos c] at hr
      have c2 : rMail2 M x y z = 3 := by
        have q : rMail2 M x y z = 0 ∨ rMail2 M x y z = 3 := by unfold rMail2; split <;> omega
        rcases q with q | q
        · exact absurd (hr.trans q) h
        · exact q
      rw [if_pos c, if_neg (by rw [c2]; decide), hr, c2, sT_two]
      rfl
    · rw [if_neg c] at hr
      rw [if_neg c, hr]
  · obtain ⟨k1, k2⟩ := h12 h
    obtain ⟨⟨hx1, hx2⟩, ⟨hu1, hu2⟩, ⟨hv1, hv2⟩, hz, h80, h40⟩ := hi h
    have e28 : ∀ N, mT N 7 28 0 = mT M 7 28 0 → mT (mailR M N x y z u v) 7 28 0 = mT M 7 28 0 := fun N hN => by
      unfold mailR
      cases jnR M (ix x) y z with
      | none => exact hN
      | some b =>
        show mT (putR M (opR M (sT (sT N 7 19 0 0) 7 19 0 0) b) (nI b) v) 7 28 0 = _
        rw [put_T, if_neg (fun q => absurd q.2.1 (by decide)), if_neg (fun q => absurd q.1 (by decide)), if_neg (fun q => absurd q.1 (by decide)), mT_op]
        exact hN
    have hM2' : M2 = mailR M M1 x y z u v := by
      rw [hM2]
      unfold mailE
      rw [if_pos k1, if_pos k2]
    rw [if_pos h] at hM1
    have b28 : mT M2 7 28 0 = mT M 7 28 0 := by
      rw [hM2', hM1]
      exact e28 _ (hXT 7 28 0 (by decide) (by decide) (by decide))
    have r0 : RC M (sT (sT M1 7 19 0 0) 7 19 0 0) := by
      rw [hM1, sT_two]
      exact rc_row hmo
    have e0 : EqD (mailM M x y z u v) (sT (sT M1 7 19 0 0) 7 19 0 0) := by
      rw [hM1, sT_two]
      exact EqD.row
    unfold mailR at hM2'
    rw [← jn_eq I hz] at hM2'
    cases e : jnM M (ix x) y z with
    | none =>
      rw [e] at hM2'
      have h40 := h40 e
      have eX : mailM M x y z u v = mlT (tiM M (ix x) y u) (mN M 4) v := by unfold mailM; rw [e]
      rw [eX] at e0 hXN
      have w0 : Wf (tiM M (ix x) y u) := by rw [hu2]; exact wf_ti I.wf h40 hx1 hu1
      have q0 := QX_ti (cu := ix x) (su := y) (to := u) I.qi
      have d0 := dk_ti (cu := ix x) (su := y) (to := u) (dk_up I.dk) I.wf
      obtain ⟨t1, t2, t3, t4, t5, t6, f0, f2, f5, f6, f7, f8, f10, f12⟩ := ti_new (M := M) (cu := ix x) (su := y) (to := u)
      have ht4 : mN M 4 < mN (tiM M (ix x) y u) 4 := Nat.lt_succ_self _
      have lq : lqM (tiM M (ix x) y u) (mN M 4) = tiM M (ix x) y u := lq_no (fun q => (((q0 _ (w0.2.2.1 _ ht4).2.2.2.1).1 _).mp q).2.2.2 rfl)
      have N2 : mN (tiM M (ix x) y u) 2 = mN M 2 := rfl
      have live : mT (tiM M (ix x) y u) 4 6 (mN M 4) ≠ 109 := by rw [f6]; decide
      obtain ⟨wX, qX, dX⟩ := ad_ok (v := v) q0 d0 w0 ht4 (by rw [N2]; exact h80) (by rw [t6]; decide) live hv1 hv2
      have eX2 : mlT (tiM M (ix x) y u) (mN M 4) v = jqM (adM (tiM M (ix x) y u) (mN M 4) v) (mN M 4) := by unfold mlT; rw [lq]
      have rT : RC (tiM M (ix x) y u) (mkR M (sT (sT M1 7 19 0 0) 7 19 0 0) x y u) := by
        have q := RC_ti (c := ix x) (u := ix u) (y := y) r0 h40
        rw [← hx2, ← hu2] at q
        exact q
      have rA := RC_ad (v := v) rT (w0.2.2.1 _ ht4) ht4 (Or.inl f6) (fun q hq => by rw [t4] at hq; cases hq)
      have oh : ohM (tiM M (ix x) y u) (mN M 4) = true := by unfold ohM stM; rw [f6]; decide
      unfold opR at rA
      rw [if_pos oh] at rA
      rw [hM2'] at b28 ⊢
      refine inv_ref (X := sT (jqM (adM (tiM M (ix x) y u) (mN M 4) v) (mN M 4)) 23 (mN (tiM M (ix x) y u) 2) 0 v) wX qX dX ?_ ?_ ?_ ?_ (I.b28 b28)
      · rw [eX2] at e0
        exact eqd_put (D := M) (eqd_mk e0)
      · rw [← eX2]; exact (hXN 39 (by decide) (by decide) (by decide)).trans I.n39
      · rw [← eX2]; exact (hXN 40 (by decide) (by decide) (by decide)).trans I.n40
      · have eput : ∀ Q a, putR (tiM M (ix x) y u) Q a v = putR M Q a v := fun Q a => by unfold putR; rw [N2]
        rw [eput] at rA
        exact RC_23 (RC_ln LnEq.jq rA)
    | some b =>
      rw [e] at hM2'
      have eX : mailM M x y z u v = mlT M b v := by unfold mailM; rw [e]
      rw [eX] at e0 hXN
      have hb := jnM_lt I.wf b e
      have wL : Wf (lqM M b) := wf_lq I.wf hb
      have hbL : b < mN (lqM M b) 4 := by rw [mN_lq]; exact hb
      have dL : Dk (t + 1) (lqM M b) := dk_LnEq LnEq.lq (dk_up I.dk)
      have hs : mT M 4 6 b = 111 ∨ mT M 4 6 b = 104 ∨ mT M 4 6 b = 97 ∨ mT M 4 6 b = 99 := by
        obtain ⟨d1, -, -, -, d5⟩ := I.cel.1 b
        have d5 := d5 hb
        have dc : ctM M b = true := jn_ct (by rw [← jn_eq I hz]; exact e)
        rcases d1 with g | g | g | g | g | g
        · exact absurd g d5
        · exact Or.inl g
        · exact Or.inr (Or.inl g)
        · exact Or.inr (Or.inr (Or.inl g))
        · exact Or.inr (Or.inr (Or.inr g))
        · unfold ctM ohM stM at dc
          rw [g] at dc
          exact absurd dc (by simp)
      have live : mT (lqM M b) 4 6 b ≠ 109 := by
        rw [mT_lq]
        rcases hs with g | g | g | g <;> rw [g] <;> decide
      have hlen : (mL (lqM M b) 8 b).length < 80 := by rw [l8_lq]; have := hl b hb; omega
      obtain ⟨wX, qX, dX⟩ := ad_ok (v := v) (QX_lq I.wf I.qi hb) dL wL hbL (by rw [mN_lq]; exact h80) hlen live hv1 hv2
      have rL : RC (lqM M b) (sT (sT M1 7 19 0 0) 7 19 0 0) := RC_ln LnEq.lq r0
      have eto : toM (lqM M b) b = toM M b := by unfold toM; rw [mT_lq]
      have rA := RC_ad (v := v) rL (wL.2.2.1 b hbL) hbL (by rw [mT_lq]; exact hs) (fun q hq => by rw [mP_lq] at hq; rw [eto, mT_lq]; exact I.wgt hb q hq)
      have eop : opR (lqM M b) (sT (sT M1 7 19 0 0) 7 19 0 0) b = opR M (sT (sT M1 7 19 0 0) 7 19 0 0) b := by
        unfold opR
        rw [lrn_cg (A := lqM M b) (B := M) (by rw [mP_lq]) (by rw [mT_lq]) (fun a q => by rw [mT_lq])]
        unfold ohM stM
        rw [mT_lq]
      have N2 : mN (lqM M b) 2 = mN M 2 := by rw [mN_lq]
      have eput : ∀ Q a, putR (lqM M b) Q a v = putR M Q a v := fun Q a => by unfold putR; rw [N2]
      rw [eop, eput] at rA
      rw [N2] at wX qX dX
      rw [hM2'] at b28 ⊢
      refine inv_ref (X := sT (jqM (adM (lqM M b) b v) b) 23 (mN M 2) 0 v) wX qX dX ?_ ?_ ?_ ?_ (I.b28 b28)
      · exact eqd_put (D := M) (eqd_op e0)
      · exact (hXN 39 (by decide) (by decide) (by decide)).trans I.n39
      · exact (hXN 40 (by decide) (by decide) (by decide)).trans I.n40
      · exact RC_23 (RC_ln LnEq.jq rA)
