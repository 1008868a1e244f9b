theorem co_zero {D : Mem} {u : Nat} : ∀ n, (∀ k, k < n → tkM D k ≠ u) → coN D u n = 0
  | 0, _ => rfl
  | n + 1, h => by
    unfold coN
    rw [co_zero n (fun k hk => h k (by omega)), if_neg (h n (by omega))]
    rfl
theorem wo_none {D : Mem} {u : Nat} : ∀ n, (∀ k, k < n → tkM D k ≠ u) → woN D D u n = 0
  | 0, _ => rfl
  | n + 1, h => by
    unfold woN
    rw [wo_none n (fun k hk => h k (by omega)), if_neg (h n (by omega))]
    rfl
theorem he_lt {A B : Mem} {a : Nat} : ∀ n, (∀ i, i < n → mP B 4 9 i = mP A 4 9 i) → heN B a n = heN A a n
  | 0, _ => rfl
  | n + 1, h => by
    unfold heN
    rw [he_lt n (fun i hi => h i (by omega)), h n (by omega)]
/-- a new ticket -/
theorem dk_ti {t0 cu : Nat} {M : Mem} {su to : Int32} (d : Dk t0 M) (w : Wf M) : Dk t0 (tiM M cu su to) := by
  obtain ⟨⟨u1, u2, u3⟩, ml, ⟨c1, c2, c3, c4, c5, c6⟩, ⟨rk, hrk⟩, held, ⟨o1, o2⟩, bnd⟩ := d
  obtain ⟨e1, e2, e3, e4, e5, e6, f0, f2, f5, f6, f7, f8, f10, f12⟩ := ti_new (M := M) (cu := cu) (su := su) (to := to)
  have nk : ∀ k, k ≠ 4 → ∀ a u, mT (tiM M cu su to) k a u = mT M k a u := fun k h a u => ti_T (fun z => h z.1)
  have nu : ∀ a u, u ≠ mN M 4 → mT (tiM M cu su to) 4 a u = mT M 4 a u := fun a u h => ti_T (fun z => h z.2)
  have pu : ∀ a u, u ≠ mN M 4 → mP (tiM M cu su to) 4 a u = mP M 4 a u := fun a u h => ti_P (fun z => h z.2)
  have p2 : ∀ k, mP (tiM M cu su to) 2 1 k = mP M 2 1 k := fun k => ti_P (fun z => absurd z.1 (by decide))
  have tk : ∀ k, tkM (tiM M cu su to) k = tkM M k := fun k => by unfold tkM; rw [p2]
  have l8 : ∀ u, u ≠ mN M 4 → mL (tiM M cu su to) 8 u = mL M 8 u := fun u h => ti_L (fun z => h z.2) (fun z => absurd z.1 (by decide))
  have N4 : mN (tiM M cu su to) 4 = mN M 4 + 1 := rfl
  have Nk : ∀ k, k ≠ 4 → k ≠ 8 → mN (tiM M cu su to) k = mN M k := fun k h h8 => (if_neg h).trans (if_neg h8)
  have sp : ∀ u, u < mN M 4 + 1 → u < mN M 4 ∨ u = mN M 4 := fun u h => by omega
  have no : ∀ k, k < mN M 2 → tkM M k ≠ mN M 4 := fun k hk z => by have := (tkM_eq w hk).2; omega
  refine ⟨⟨fun u hu => ?_, fun u hu => ?_, fun u hu => ?_⟩, fun u hu => ?_, ⟨fun u => ?_, fun b => ?_, fun b hb => ?_, fun k hk => ?_, fun b hb => ?_, fun b hb q hq => ?_⟩, ⟨rk, fun a b z => ?_⟩, fun b hb => ?_, ⟨fun u hu => ?_, fun q b hq hb => ?_⟩, ?_⟩
  · rw [N4] at hu
    rcases sp u hu with h | h
    · rw [nu 0 u (by omega)]; exact u1 u h
    · rw [h]; exact f0
  · rw [nk 2 (by decide)]; exact u2 u (by rw [← Nk 2 (by decide) (by decide)]; exact hu)
  · rw [nk 0 (by decide)]; exact u3 u (by rw [← Nk 0 (by decide) (by decide)]; exact hu)
  · rw [N4] at hu
    unfold MlOk
    rw [Nk 2 (by decide) (by decide), co_cg (A := M) (B := tiM M cu su to) p2 u]
    rcases sp u hu with h | h
    · rw [l8 u (by omega)]
      obtain ⟨m1, m2, m3⟩ := ml u h
      exact ⟨m1, fun k hk => by rw [tk]; exact m2 k hk, m3⟩
    · rw [h, e6]
      exact ⟨fun a b _ z => absurd z (Nat.not_lt_zero _), fun k hk => by rw [tk]; exact ⟨fun z => absurd z (no k hk), fun z => nomatch z⟩, co_zero _ no⟩
  · by_cases h : u = mN M 4
    · rw [h, f6, f8, e5]
      exact ⟨by simp, Or.inl rfl, fun z => absurd z (by decide), fun z => absurd rfl z, fun _ => by decide⟩
    · rw [nu 6 u h, nu 8 u h, pu 13 u h, l8 u h]
      obtain ⟨d1, d2, d3, d4, d5⟩ := c1 u
      exact ⟨d1, d2, d3, d4, fun z => d5 (by rw [N4] at z; omega)⟩
  · rw [nk 0 (by decide), nk 0 (by decide)]; exact c2 b
  · rw [nk 0 (by decide)]; exact c3 b (by rw [← Nk 0 (by decide) (by decide)]; exact hb)
  · rw [nk 23 (by decide)]; exact c4 k (by rw [← Nk 2 (by decide) (by decide)]; exact hk)
  · rw [nk 3 (by decide)]; exact c5 b (by rw [← Nk 3 (by decide) (by decide)]; exact hb)
  · rw [nk 14 (by decide)]; exact c6 b (by rw [← Nk 3 (by decide) (by decide)]; exact hb) q hq
  · by_cases h : a = mN M 4
    · rw [h, e5] at z; cases z
    · rw [pu 13 a h] at z; exact hrk a b z
  · rw [nk 0 (by decide), N4]
    show mT M 0 3 b = heN (tiM M cu su to) b (mN M 4) + (if mP (tiM M cu su to) 4 9 (mN M 4) = some b then 1 else 0)
    rw [e3, if_neg (fun z => nomatch z), Int32.add_zero, he_lt (A := M) _ (fun i hi => pu 9 i (by omega))]
    exact held b (by rw [← Nk 0 (by decide) (by decide)]; exact hb)
  · rw [N4] at hu
    rw [Nk 2 (by decide) (by decide), wo_cg (A := M) (B := tiM M cu su to) p2 (fun k => nk 23 (by decide) k 0) u]
    rcases sp u hu with h | h
    · rw [nu 5 u (by omega)]; exact o1 u h
    · rw [h, f5]; exact wo_none _ no
  · rw [nk 16 (by decide), nk 3 (by decide), Nk 3 (by decide) (by decide)]; exact o2 q b hq hb
  · obtain ⟨b1, b2, b3, b4, b5⟩ := bnd
    refine ⟨?_, fun u hu => ?_, fun c hc => ?_, ?_, ?_⟩
    · rw [nk 6 (by decide)]; exact b1
    · rw [N4] at hu
      rcases sp u hu with h | h
      · rw [nu 7 u (by omega)]; exact b2 u h
      · rw [h, f7]; exact ⟨0, Nat.zero_le _, rfl⟩
    · rw [nk 15 (by decide)]; exact b3 c hc
    · rw [nk 6 (by decide)]; exact b4
    · rw [nk 7 (by decide)]; exact b5
theorem QX_ti {M : Mem} {cu : Nat} {su to : Int32} (q : QI M) : QX (tiM M cu su to) (mN M 4) := by
  have e : QX (sN M 4 (mN M 4 + 1)) (mN M 4) := fun p hp => by
    obtain ⟨h1, h2⟩ := q p hp
    refine ⟨fun x => ?_, h2⟩
    show x ∈ mL M 9 p ↔ x < mN M 4 + 1 ∧ waM M x = true ∧ toM M x = p ∧ x ≠ mN M 4
    rw [h1 x]
    exact ⟨fun z => ⟨by omega, z.2.1, z.2.2, by omega⟩, fun z => ⟨by omega, z.2.1, z.2.2.1⟩⟩
  exact QX_sm e (SmX_of rfl (fun p _ => ti_L (fun z => absurd z.1 (by decide)) (fun z => absurd z.1 (by decide))) (fun a x hx _ => ti_T (fun z => hx z.2)) (fun x hx => ti_P (fun z => hx z.2)) (fun x hx => ti_P (fun z => hx z.2)) (fun c => ti_T (fun z => absurd z.1 (by decide))) (fun c => ti_T (fun z => absurd z.1 (by decide))))
theorem RC_ti {M N : Mem} {c u : Nat} {y : Int32} (r : RC M N) (h40 : mN M 4 < 40) : RC (tiM M c y (nI u)) (mkR M N (nI c) y (nI u)) := by
  obtain ⟨e1, e2, e3, e4, e5, e6, f0, f2, f5, f6, f7, f8, f10, f12⟩ := ti_new (M := M) (cu := c) (su := y) (to := nI u)
  obtain ⟨r1, ⟨b1, b2, b3, b4⟩, r3, r4, r5, r6, r7, r8, r9, r10, r11⟩ := r
  have e22 : mT N 7 22 0 + 1 = nI (mN M 4 + 1) := by rw [b3]; exact nI_add _ 1
  have nk : ∀ k, k ≠ 4 → ∀ a i, mT (tiM M c y (nI u)) k a i = mT M k a i := fun k h a i => ti_T (fun z => h z.1)
  have n6 := nk 6 (by decide)
  have tk : ∀ k, tkM (tiM M c y (nI u)) k = tkM M k := fun k => by unfold tkM; rw [ti_P (fun z => absurd z.1 (by decide))]
  have rf : RF (tiM M c y (nI u)) (mkR M N (nI c) y (nI u)) := by
    refine ⟨?_, b2, e22, b4.1, b4.2.1, ?_, ?_, ?_, b4.2.2.2.2.2.1, b4.2.2.2.2.2.2⟩
    · rw [n6]; exact b1
    · rw [n6]; exact b4.2.2.1
    · rw [n6]; exact b4.2.2.2.1
    · rw [n6]; exact b4.2.2.2.2.1
  have ne : ∀ k j, k ≠ 7 → j ≠ mN M 4 → mT (mkR M N (nI c) y (nI u)) k j 0 = mT N k j 0 := fun k j h7 hj => by
    unfold mkR
    rw [mT_sT, if_neg (fun z => h7 z.1), mT_sT, if_neg (fun z => hj z.2.1), mT_sT, if_neg (fun z => hj z.2.1), mT_sT, if_neg (fun z => hj z.2.1), mT_sT, if_neg (fun z => hj z.2.1), mT_sT, if_neg (fun z => hj z.2.1), mT_sT, if_neg (fun z => hj z.2.1), mT_sT, if_neg (fun z => hj z.2.1)]
  refine ⟨r1, rf, fun k hk => ?_, fun k hk => ?_, fun k hk => ?_, fun t ht => ?_, fun t h1 h2 => ?_, fun a ha => ?_, fun a h1 h2 => ?_, fun q hq => ?_, fun j h1 h2 => ?_⟩
  · rw [nk 1 (by decide)]; exact r3 k hk
  · rw [nk 15 (by decide)]; exact r4 k hk
  · rw [tk]; exact r5 k hk
  · have ht : t < mN M 4 + 1 := ht
    by_cases e : t = mN M 4
    · subst e
      obtain ⟨z1, z2, z3, z4⟩ := r7 (mN M 4) (Nat.le_refl _) h40
      have ec : cuM (tiM M c y (nI u)) (mN M 4) = c := by unfold cuM; rw [e1]; rfl
      unfold RT
      rw [ec, f2, e2, f7, e3, f10, f12, e5, e4, f6, f8]
      refine ⟨?_, ?_, ?_, z1, ?_, z2, z3, ?_, ?_, ?_, z4⟩ <;> simp [mkR, mT_sT, oI]
    · have hl : t < mN M 4 := by omega
      obtain ⟨a1, a2, a3, a4, a5, a6, a7, a8, a9, a10, a11⟩ := r6 t hl
      have ec : cuM (tiM M c y (nI u)) t = cuM M t := by unfold cuM; rw [ti_P (fun z => e z.2)]
      have eT : ∀ a, mT (tiM M c y (nI u)) 4 a t = mT M 4 a t := fun a => ti_T (fun z => e z.2)
      have eP : ∀ a, mP (tiM M c y (nI u)) 4 a t = mP M 4 a t := fun a => ti_P (fun z => e z.2)
      unfold RT
      rw [ec, eT, eT, eT, eP, eT, eT, eP, eP, eT, eT]
      have ne' := fun k h => ne k t h e
      rw [ne' 24 (by decide), ne' 25 (by decide), ne' 26 (by decide), ne' 27 (by decide), ne' 28 (by decide), ne' 29 (by decide), ne' 30 (by decide), ne' 31 (by decide), ne' 32 (by decide), ne' 33 (by decide), ne' 34 (by decide)]
      exact ⟨a1, a2, a3, a4, a5, a6, a7, a8, a9, a10, a11⟩
  · have h1 : mN M 4 + 1 ≤ t := h1
    have ne' := fun k h => ne k t h (by omega)
    rw [ne' 27 (by decide), ne' 29 (by decide), ne' 30 (by decide), ne' 34 (by decide)]
    exact r7 t (by omega) h2
  · rw [nk 0 (by decide), nk 0 (by decide)]; exact r8 a ha
  · exact r9 a h1 h2
  · obtain ⟨g1, g2⟩ := r10 q hq
    refine ⟨?_, fun t ht => ?_⟩
    · rw [nk 3 (by decide)]; exact g1
    · rw [nk 14 (by decide)]; exact g2 t ht
  · exact r11 j h1 h2
/-! which ticket a mail joins: both sides the same -/
theorem la_none {D : Mem} {t : Nat} : ∀ n, (∀ k, k < n → tkM D k ≠ t) → laN D t n = -1
  | 0, _ => rfl
  | n + 1, h => by
    unfold laN
    rw [if_neg (h n (by omega))]
    exact la_none n (fun k hk => h k (by omega))
theorem la_last {D : Mem} {t m : Nat} : ∀ n, m < n → tkM D m = t → (∀ k, m < k → k < n → tkM D k ≠ t) → laN D t n = nI m
  | 0, h, _, _ => absurd h (Nat.not_lt_zero _)
  | n + 1, h, e, g => by
    unfold laN
    by_cases c : n = m
    · rw [c, if_pos e]
    · rw [if_neg (g n (by omega) (by omega))]
      exact la_last n (by omega) e (fun k a b => g k a (by omega))
theorem lm_la {t0 i : Nat} {M : Mem} (I : INV t0 M) (hi : i < mN M 4) : lmM M i = laN M i (mN M 2) := by
  obtain ⟨m1, m2, m3⟩ := I.ml i hi
  have wl := (I.wf.2.2.1 i hi).2.2.2.2.2.2.2.1
  unfold lmM
  by_cases e : (mL M 8 i).isEmpty = true
  · rw [if_pos e]
    have e' : mL M 8 i = [] := List.isEmpty_iff.mp e
    exact (la_none _ (fun k hk z => by
      have := (m2 k hk).mp z
      rw [e'] at this
      exact nomatch this)).symm
  · rw [if_neg e]
    have hp : 0 < (mL M 8 i).length := List.length_pos_iff.mpr (fun z => e (by rw [z]; rfl))
    have hm := getD_mem (l := mL M 8 i) (j := (mL M 8 i).length - 1) (by omega)
    have hb := wl _ hm
    rw [I.num.2.1 _ hb]
    refine (la_last _ hb ((m2 _ hb).mpr hm) (fun k a b z => ?_)).symm
    obtain ⟨j, hj, ej⟩ := getD_in ((m2 k b).mp z)
    by_cases c : j = (mL M 8 i).length - 1
    · rw [c] at ej; omega
    · have := m1 j ((mL M 8 i).length - 1) (by omega) (by omega)
      omega
theorem cb_ct {t0 i : Nat} {M : Mem} (I : INV t0 M) (hi : i < mN M 4) : cbM M i (mT M 6 9 0) = ctM M i := by
  obtain ⟨d1, -, -, -, d5⟩ := I.cel.1 i
  have d5 := d5 hi
  unfold cbM ctM ohM stM
  rcases d1 with h | h | h | h | h | h
  · exact absurd h d5
  all_goals
    rw [h]
    generalize decide (1440 < mT M 6 9 0 - mT M 4 12 i) = b
    cases b <;> decide
theorem jl_lw {t0 c : Nat} {M : Mem} {y : Int32} (I : INV t0 M) : ∀ n, n ≤ mN M 4 → lwN M c y n = jlN M c y n
  | 0, _ => rfl
  | n + 1, h => by
    have ih := jl_lw (c := c) (y := y) I n (by omega)
    have e : alk M c y n = jlk M c y n := by unfold alk jlk; rw [cb_ct I (by omega)]
    unfold lwN jlN
    rw [e, ih]
    by_cases a : jlk M c y n = true
    · rw [if_pos a, if_pos a]
      cases o : jlN M c y n with
      | none => rfl
      | some b =>
        have hb := jlN_lt n b o
        simp only
        rw [lm_la I (by omega), lm_la I (by omega)]
    · rw [if_neg a, if_neg a]
theorem jn_eq {t0 c : Nat} {M : Mem} {y z : Int32} (I : INV t0 M) (hz : z = -1 ∨ inN z (mN M 2) = true) : jnM M c y z = jnR M c y z := by
  have n2 := wn2 I.wf
  have e0 : inN z (mN M 2) = true ↔ ¬ z < 0 := by
    constructor
    · intro h
      rw [(inN_ix h (by omega)).2]
      exact nI_pos (by have := (inN_ix h (by omega)).1; omega)
    · intro h
      rcases hz with z1 | z1
      · rw [z1] at h; exact absurd (by decide) h
      · exact z1
  unfold jnM jnR
  rw [jl_lw I _ (Nat.le_refl _)]
  by_cases a : inN z (mN M 2) = true
  · have hk := (inN_ix a (by omega)).1
    rw [cb_ct I (tkM_eq I.wf hk).2]
    simp only [e0]
  · rw [if_neg (fun q => a q.1), if_neg (fun q => a (e0.mpr q.1))]
