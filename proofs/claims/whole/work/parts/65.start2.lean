theorem vp_1 : VP (mini N1) := by
  refine ⟨fun k i j hi hj => ?_, fun k i _ _ x hx => absurd hx (by show ¬ x ∈ []; simp)⟩
  have g : ∀ r, (4, r) = fS k j → 0 < N1 r → ((fS k j).1 = 2 → ∀ a, mP (mini N1) k j i = some a → a < mN (mini N1) (fS k j).2) ∧ ((fS k j).1 = 3 → i < mN (mini N1) (fS k j).2) ∧ (4 ≤ (fS k j).1 → 0 < mN (mini N1) (fS k j).2) := by
    intro r hr h0
    rw [← hr]
    exact ⟨fun z => absurd (show (4 : Nat) = 2 from z) (by decide), fun z => absurd (show (4 : Nat) = 3 from z) (by decide), fun _ => h0⟩
  have g0 : (fS k j).1 ≤ 1 → ((fS k j).1 = 2 → ∀ a, mP (mini N1) k j i = some a → a < mN (mini N1) (fS k j).2) ∧ ((fS k j).1 = 3 → i < mN (mini N1) (fS k j).2) ∧ (4 ≤ (fS k j).1 → 0 < mN (mini N1) (fS k j).2) :=
    fun z => ⟨fun y => by omega, fun y => by omega, fun y => by omega⟩
  have hi : i < N1 k := hi
  rcases N1_cases hi with ⟨rfl, hi⟩ | ⟨rfl, hi⟩ | ⟨rfl, rfl⟩ | ⟨rfl, hi⟩ | ⟨rfl, rfl⟩ | ⟨rfl, rfl⟩ | ⟨rfl, rfl⟩ | ⟨rfl, rfl⟩ | ⟨rfl, rfl⟩ | ⟨rfl, rfl⟩ | ⟨rfl, rfl⟩ | ⟨rfl, rfl⟩ | ⟨rfl, rfl⟩
  · match j, hj with
    | 0, _ => exact g 15 rfl (by decide)
    | 1, _ => exact g0 (by decide)
  · match j, hj with
    | 0, _ => exact ⟨fun z => absurd (show (3 : Nat) = 2 from z) (by decide), fun _ => hi, fun z => absurd (show 4 ≤ (3 : Nat) from z) (by decide)⟩
  · match j, hj with
    | 0, _ => exact g 15 rfl (by decide)
    | 1, _ => exact g 18 rfl (by decide)
    | 2, _ => exact g 19 rfl (by decide)
    | 3, _ => exact g 10 rfl (by decide)
    | 4, _ => exact g 11 rfl (by decide)
    | 5, _ => exact g 12 rfl (by decide)
    | 6, _ => exact g 13 rfl (by decide)
    | 7, _ => exact g 16 rfl (by decide)
    | 8, _ => exact g 17 rfl (by decide)
    | 9, _ => exact g0 (by decide)
    | 10, _ => exact g0 (by decide)
    | 11, _ => exact g0 (by decide)
    | 12, _ => exact g0 (by decide)
    | 13, _ => exact g0 (by decide)
    | 14, _ => exact g0 (by decide)
  all_goals exact absurd hj (Nat.not_lt_zero _)
theorem N2_cases {k i : Nat} (h : i < N2 k) : i < N1 k ∨ (i = 0 ∧ (k = 7 ∨ (20 ≤ k ∧ k ≤ 38))) := by
  unfold N2 at h
  split at h
  · exact Or.inr ⟨by omega, by assumption⟩
  · exact Or.inl h
theorem N1_lt {k : Nat} (h : k = 7 ∨ (20 ≤ k ∧ k ≤ 38)) : N1 k = 0 := by
  rcases h with rfl | ⟨h1, h2⟩
  · rfl
  · unfold N1
    split <;> first | omega | rfl
def kM (K : Nat → Nat → Nat) (q : Nat) (as : List Nat) : Nat → Nat → Nat := fun k i => if k = 7 then q else if 20 ≤ k ∧ k ≤ 38 then as.getD (k - 20) 0 else K k i
theorem HM.model {Γ : Gm} {K : Nat → Nat → Nat} {N q : Nat} {as : List Nat} {H0 H : Heap} (h : HM Γ K (mini N1) H0) (hB : gB Γ ≤ H0.size) (hq : H0.size ≤ q) (hN : q < N) (hlen : as.length = 19) (hm : MoAt Γ (fun j => if j = 1 then prF else fun _ => 0) N as H) (h0 : va_at (gD Γ) clX (q, .inr (7, moF as)) H) (ho : ∀ x : Nat, x < H0.size → H[x]? = H0[x]?) : HM Γ (kM K q as) (mini N2) H := by
  have hold : ∀ k i, i < mN (mini N1) k → kM K q as k i = K k i := by
    intro k i hi
    have hi : i < N1 k := hi
    unfold kM
    split
    · rename_i e; rw [N1_lt (Or.inl e)] at hi; omega
    · split
      · rename_i e; rw [N1_lt (Or.inr e)] at hi; omega
      · rfl
  have hcell : ∀ k, 20 ≤ k → k ≤ 38 → N ≤ kM K q as k 0 ∧ va_at (gD Γ) clX (kM K q as k 0, celE (gA Γ) (kM K q as) (mini N2) k 0) H := by
    intro k h1 h2
    have e : kM K q as k 0 = as.getD (k - 20) 0 := by
      unfold kM
      rw [if_neg (by omega), if_pos ⟨h1, h2⟩]
    have g := hm.1 (k - 20) (as.getD (k - 20) 0) (getD_some (by omega))
    rw [e]
    refine ⟨g.1, ?_⟩
    have g2 := g.2
    unfold MoC at g2
    rw [show 20 + (k - 20) = k by omega] at g2
    have e2 : celE (gA Γ) (kM K q as) (mini N2) k 0 = .inl (gA Γ (aTy k), aLen k, .inl (fun j => iT k j 0)) := by
      unfold celE
      rw [if_neg (by omega)]
      congr 3
      unfold cntE
      split <;> first | omega | rfl
    rw [e2, show (fun j => iT k j 0) = (if k - 20 = 1 then prF else fun _ => 0) from ?_]
    · exact g2
    · by_cases c : k = 21
      · subst c
        rfl
      · rw [if_neg (by omega)]
        funext j
        unfold iT
        split
        · omega
        · exact absurd rfl c
        · rfl
  refine h.add hB ho hold (fun k i hi hk => ?_) (fun k i hi hk => ⟨rfl, rfl⟩) (fun k i h1 h2 => ?_) (fun k i k' i' a a2 b b2 e => ?_)
  · have e1 : kM K q as 1 = K 1 := by funext c; unfold kM; rw [if_neg (by decide), if_neg (by decide)]
    have e5 : kM K q as 5 = K 5 := by funext c; unfold kM; rw [if_neg (by decide), if_neg (by decide)]
    exact (celE_K (M := mini N1) vp_1 hold e1 e5 hi)
  · rcases N2_cases h2 with c | ⟨rfl, rfl | ⟨c1, c2⟩⟩
    · exact absurd c (Nat.not_lt_of_le h1)
    · refine ⟨by show H0.size ≤ kM K q as 7 0; unfold kM; rw [if_pos rfl]; exact hq, fun _ => ?_, fun z => absurd z (by decide)⟩
      have e : celE (gA Γ) (kM K q as) (mini N2) 7 0 = .inr (7, moF as) := by
        match as, hlen with
        | [a0, a1, a2, a3, a4, a5, a6, a7, a8, a9, a10, a11, a12, a13, a14, a15, a16, a17, a18], _ => rfl
      rw [e, show kM K q as 7 0 = q from if_pos rfl]
      exact h0
    · exact ⟨by have := (hcell k c1 c2).1; omega, fun _ => (hcell k c1 c2).2, fun z => by have : isLs k = false := by { unfold isLs; rw [decide_eq_false (show ¬ k ≤ 13 by omega), Bool.and_false] }; rw [this] at z; cases z⟩
  · have hk : ∀ {k i : Nat}, mN (mini N1) k ≤ i → i < mN (mini N2) k → i = 0 ∧ (k = 7 ∨ (20 ≤ k ∧ k ≤ 38)) := by
      intro k i a b
      rcases N2_cases b with c | c
      · exact absurd c (Nat.not_lt_of_le a)
      · exact c
    obtain ⟨rfl, c⟩ := hk a a2
    obtain ⟨rfl, d⟩ := hk b b2
    refine ⟨?_, rfl⟩
    have e7 : kM K q as 7 0 = q := if_pos rfl
    rcases c with rfl | ⟨c1, c2⟩ <;> rcases d with rfl | ⟨d1, d2⟩
    · rfl
    · have := (hcell k' d1 d2).1
      rw [e7] at e
      omega
    · have := (hcell k c1 c2).1
      rw [e7] at e
      omega
    · have g : ∀ k, 20 ≤ k → k ≤ 38 → kM K q as k 0 = as.getD (k - 20) 0 := by
        intro k h1 h2
        unfold kM
        rw [if_neg (by omega), if_pos ⟨h1, h2⟩]
      rw [g k c1 c2, g k' d1 d2] at e
      have p := List.pairwise_iff_getElem.mp hm.2
      have gd : ∀ j (hj : j < as.length), as.getD j 0 = as[j] := fun j hj => by rw [List.getD_eq_getElem?_getD, List.getElem?_eq_getElem hj]; rfl
      rw [gd _ (by omega), gd _ (by omega)] at e
      rcases Nat.lt_trichotomy (k - 20) (k' - 20) with z | z | z
      · have := p _ _ (by omega) (by omega) z
        omega
      · omega
      · have := p _ _ (by omega) (by omega) z
        omega
theorem wf_2 : Wf (mini N2) := by
  refine ⟨?_, fun c hc => ?_, fun i hi => absurd hi (Nat.not_lt_zero _), ⟨rfl, rfl, rfl, rfl⟩, fun i hi => absurd hi (Nat.not_lt_zero _), fun t ht x hx => absurd hx (by show ¬ x ∈ []; simp), fun t ht => List.nodup_nil⟩
  · unfold WfN
    decide
  · exact ⟨rfl, by show (0 : Nat) < 3; decide⟩
/-- one more thing of a kind of its own -/
theorem HM.one {Γ : Gm} {K : Nat → Nat → Nat} {M : Mem} {H H1 : Heap} {q k : Nat} (h : HM Γ K M H) (vp : VP M) (hk : 39 ≤ k) (h0 : mN M k = 0) (hsz : gB Γ ≤ H.size) (hq : ∀ z : Nat, z < H.size → H1[z]? = H[z]?) (hqs : H.size ≤ q)
    (hc : ∀ K', va_at (gD Γ) clX (q, celE (gA Γ) K' M k 0) H1) : HM Γ (upK K k 0 q) (sN M k 1) H1 := by
  have hK : ∀ a i, i < mN M a → upK K k 0 q a i = K a i := fun a i hi => upK_ne (fun z => by obtain ⟨rfl, rfl⟩ := z; omega)
  have only : ∀ a i, mN M a ≤ i → i < mN (sN M k 1) a → a = k ∧ i = 0 := by
    intro a i h1 h2
    rw [mN_sN] at h2
    split at h2
    · rename_i e; subst e; exact ⟨rfl, by omega⟩
    · omega
  refine h.add hsz hq hK (fun a i hi ha => ?_) (fun a i hi ha => ⟨rfl, map_K vp hK ha hi⟩) (fun a i h1 h2 => ?_) (fun a i a' i' x y x' y' _ => ?_)
  · exact celE_K (M := M) vp hK (upK_k (by omega)) (upK_k (by omega)) hi
  · obtain ⟨rfl, rfl⟩ := only a i h1 h2
    rw [upK_self]
    exact ⟨hqs, fun _ => hc _, fun z => by have : isLs a = false := by { unfold isLs; rw [decide_eq_false (show ¬ a ≤ 13 by omega), Bool.and_false] }; rw [this] at z; cases z⟩
  · obtain ⟨rfl, rfl⟩ := only a i x y
    obtain ⟨rfl, rfl⟩ := only a' i' x' y'
    exact ⟨rfl, rfl⟩
