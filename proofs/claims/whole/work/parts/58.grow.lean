/-! the typed memory grows -/
/-- all pointers and list elements are numbers of things that are there -/
def VP (M : Mem) : Prop := (∀ k i j, i < mN M k → j < nFl k → ((fS k j).1 = 2 → ∀ a, mP M k j i = some a → a < mN M (fS k j).2) ∧ ((fS k j).1 = 3 → i < mN M (fS k j).2) ∧ (4 ≤ (fS k j).1 → 0 < mN M (fS k j).2)) ∧ ∀ k i, isLs k = true → i < mN M k → ∀ x ∈ mL M k i, x < mN M (eK k)
theorem celE_K {dA : Nat → ClassId} {K K' : Nat → Nat → Nat} {M : Mem} (vp : VP M) (hK : ∀ k i, i < mN M k → K' k i = K k i) (h1 : K' 1 = K 1) (h5 : K' 5 = K 5) {k i : Nat} (hi : i < mN M k) : celE dA K' M k i = celE dA K M k i := by
  unfold celE
  split
  · congr 2
    unfold fsE
    refine List.map_congr_left fun j hj => ?_
    have hj := List.mem_range.mp hj
    obtain ⟨v1, v2, v3⟩ := vp.1 k i j hi hj
    unfold fv
    generalize fS k j = q at *
    obtain ⟨a, b⟩ := q
    match a, v1, v2, v3 with
    | 0, _, _, _ => rfl
    | 1, _, _, _ => rfl
    | 2, v1, _, _ =>
      show va_rf ((mP M k j i).map (K' b)) = va_rf ((mP M k j i).map (K b))
      cases e : mP M k j i with
      | none => rfl
      | some x => show Value.ref (K' b x) = Value.ref (K b x); rw [hK b x (v1 rfl x e)]
    | 3, _, v2, _ => show Value.ref (K' b i) = Value.ref (K b i); rw [hK b i (v2 rfl)]
    | n + 4, _, _, v3 => show Value.ref (K' b 0) = Value.ref (K b 0); rw [hK b 0 (v3 (by show 4 ≤ n + 4; omega))]
  · congr 3
    unfold cntE
    split <;> first | rfl | (simp only [h1]) | (simp only [h5])
/-- things are added, in cells that are new -/
theorem HM.add {Γ : Gm} {K K' : Nat → Nat → Nat} {M M' : Mem} {H H1 : Heap} (h : HM Γ K M H) (hsz : gB Γ ≤ H.size) (hq : ∀ x : Nat, x < H.size → H1[x]? = H[x]?)
    (hK : ∀ k i, i < mN M k → K' k i = K k i) (he : ∀ k i, i < mN M k → isLs k = false → celE (gA Γ) K' M' k i = celE (gA Γ) K M k i)
    (hl : ∀ k i, i < mN M k → isLs k = true → mC M' k i = mC M k i ∧ (mL M' k i).map (K' (eK k)) = (mL M k i).map (K (eK k)))
    (hnew : ∀ k i, mN M k ≤ i → i < mN M' k → H.size ≤ K' k i ∧ (isLs k = false → va_at (gD Γ) clX (K' k i, celE (gA Γ) K' M' k i) H1) ∧ (isLs k = true → LsAt Γ (K' k i) (gE Γ) (mC M' k i) ((mL M' k i).map (K' (eK k))) H1))
    (hinj : ∀ k i k' i', mN M k ≤ i → i < mN M' k → mN M k' ≤ i' → i' < mN M' k' → K' k i = K' k' i' → k = k' ∧ i = i') : HM Γ K' M' H1 := by
  have hM := h
  obtain ⟨h1, ⟨B, h2, h3⟩, h4, h5, h6⟩ := h
  have old : ∀ k i, i < mN M k → K' k i < H.size := fun k i hi => by rw [hK k i hi]; exact hM.lt hi
  refine ⟨fun k i hi hk => ?_, ⟨fun a c => if c < mN M a then B a c else gE Γ, fun k i hk hi => ?_, fun k i hk hi hne => ?_⟩, fun k i k' i' hi hi' e => ?_, fun k i hi => ?_, h6⟩
  · by_cases c : i < mN M k
    · rw [he k i c hk, hK k i c]
      exact (h1 k i c hk).kept (hq _ (hM.lt c))
    · exact (hnew k i (by omega) hi).2.1 hk
  · dsimp only
    by_cases c : i < mN M k
    · rw [if_pos c, (hl k i c hk).1, (hl k i c hk).2, hK k i c]
      exact (h2 k i hk c).kept (hq _ (hM.lt c)) (hq _ (h2 k i hk c).lt.2)
    · rw [if_neg c]
      exact (hnew k i (by omega) hi).2.2 hk
  · dsimp only at hne ⊢
    by_cases c : i < mN M k
    · rw [if_pos c] at hne ⊢
      obtain ⟨g1, g2, g3⟩ := h3 k i hk c hne
      refine ⟨g1, fun k' i' hi' z => ?_, fun k' i' hk' hi' z => ?_⟩
      · by_cases c' : i' < mN M k'
        · rw [hK k' i' c'] at z
          exact g2 k' i' c' z
        · have := (hnew k' i' (by omega) hi').1
          have := (h2 k i hk c).lt.2
          omega
      · by_cases c' : i' < mN M k'
        · rw [if_pos c'] at z
          exact g3 k' i' hk' c' z
        · rw [if_neg c'] at z
          exact absurd z.symm hne
    · rw [if_neg c] at hne
      exact absurd rfl hne
  · by_cases c : i < mN M k
    · by_cases c' : i' < mN M k'
      · rw [hK k i c, hK k' i' c'] at e
        exact h4 k i k' i' c c' e
      · have := old k i c
        have := (hnew k' i' (by omega) hi').1
        omega
    · by_cases c' : i' < mN M k'
      · have := old k' i' c'
        have := (hnew k i (by omega) hi).1
        omega
      · exact hinj k i k' i' (by omega) hi (by omega) hi' e
  · by_cases c : i < mN M k
    · rw [hK k i c]
      exact h5 k i c
    · have := (hnew k i (by omega) hi).1
      omega
def upK (K : Nat → Nat → Nat) (k n q : Nat) : Nat → Nat → Nat := fun a c => if a = k ∧ c = n then q else K a c
theorem upK_self {K : Nat → Nat → Nat} {k n q : Nat} : upK K k n q k n = q := if_pos ⟨rfl, rfl⟩
theorem upK_ne {K : Nat → Nat → Nat} {k n q a c : Nat} (h : ¬ (a = k ∧ c = n)) : upK K k n q a c = K a c := if_neg h
theorem upK_k {K : Nat → Nat → Nat} {k n q a : Nat} (h : a ≠ k) : upK K k n q a = K a := by
  funext c
  exact upK_ne (fun z => h z.1)
theorem map_K {K K' : Nat → Nat → Nat} {M : Mem} (vp : VP M) (hK : ∀ k i, i < mN M k → K' k i = K k i) {k i : Nat} (hk : isLs k = true) (hi : i < mN M k) : (mL M k i).map (K' (eK k)) = (mL M k i).map (K (eK k)) :=
  List.map_congr_left fun x hx => hK _ _ (vp.2 k i hk hi x hx)
-- an agent
def agM1 (M : Mem) (x : Int32) : Mem := sN (sT (sT (sT (sT M 0 0 (mN M 0) (nI (mN M 0))) 0 1 (mN M 0) x) 0 2 (mN M 0) 0) 0 3 (mN M 0) 0) 0 (mN M 0 + 1)
theorem mN_ag {M : Mem} {x : Int32} (a : Nat) : mN (agM1 M x) a = if a = 0 then mN M 0 + 1 else mN M a := rfl
theorem HM.agent {Γ : Gm} {K : Nat → Nat → Nat} {M : Mem} {H H1 : Heap} {q : Nat} {x : Int32} (h : HM Γ K M H) (vp : VP M) (hsz : gB Γ ≤ H.size) (hq : ∀ z : Nat, z < H.size → H1[z]? = H[z]?) (hqs : H.size ≤ q)
    (hc : va_at (gD Γ) clX (q, .inr (0, [.int (nI (mN M 0)), .int x, .int 0, .int 0])) H1) : HM Γ (upK K 0 (mN M 0) q) (agM1 M x) H1 := by
  have hK : ∀ k i, i < mN M k → upK K 0 (mN M 0) q k i = K k i := fun k i hi => upK_ne (fun z => by obtain ⟨rfl, rfl⟩ := z; omega)
  have only : ∀ k i, mN M k ≤ i → i < mN (agM1 M x) k → k = 0 ∧ i = mN M 0 := by
    intro k i h1 h2
    rw [mN_ag] at h2
    split at h2
    · rename_i e; subst e; exact ⟨rfl, by omega⟩
    · omega
  refine h.add hsz hq hK (fun k i hi hk => ?_) (fun k i hi hk => ⟨rfl, map_K vp hK hk hi⟩) (fun k i h1 h2 => ?_) (fun k i k' i' a b a' b' _ => ?_)
  · have hne : ¬ (k = 0 ∧ i = mN M 0) := fun z => by obtain ⟨rfl, rfl⟩ := z; omega
    rw [← celE_K vp hK (upK_k (by decide)) (upK_k (by decide)) hi]
    refine Eq.trans (?_ : celE (gA Γ) (upK K 0 (mN M 0) q) (sT (sT (sT (sT M 0 0 (mN M 0) (nI (mN M 0))) 0 1 (mN M 0) x) 0 2 (mN M 0) 0) 0 3 (mN M 0) 0) k i = _) rfl
    rw [celE_sT hne, celE_sT hne, celE_sT hne, celE_sT hne]
  · obtain ⟨rfl, rfl⟩ := only k i h1 h2
    rw [upK_self]
    refine ⟨hqs, fun _ => ?_, fun z => nomatch z⟩
    have e : celE (gA Γ) (upK K 0 (mN M 0) q) (agM1 M x) 0 (mN M 0) = .inr (0, [.int (nI (mN M 0)), .int x, .int 0, .int 0]) := by
      rw [celE_obj (by decide)]
      show Sum.inr (0, [Value.int (mT (agM1 M x) 0 0 (mN M 0)), .int (mT (agM1 M x) 0 1 (mN M 0)), .int (mT (agM1 M x) 0 2 (mN M 0)), .int (mT (agM1 M x) 0 3 (mN M 0))]) = _
      simp [agM1, mT_sN, mT_sT]
    rw [e]
    exact hc
  · obtain ⟨rfl, rfl⟩ := only k i a b
    obtain ⟨rfl, rfl⟩ := only k' i' a' b'
    exact ⟨rfl, rfl⟩
-- a mail
def maM1 (M : Mem) (t : Nat) : Mem := sN (sP (sT M 2 0 (mN M 2) (nI (mN M 2))) 2 1 (mN M 2) (some t)) 2 (mN M 2 + 1)
theorem mN_ma {M : Mem} {t : Nat} (a : Nat) : mN (maM1 M t) a = if a = 2 then mN M 2 + 1 else mN M a := rfl
theorem HM.amail {Γ : Gm} {K : Nat → Nat → Nat} {M : Mem} {H H1 : Heap} {q t : Nat} (h : HM Γ K M H) (vp : VP M) (hsz : gB Γ ≤ H.size) (hq : ∀ z : Nat, z < H.size → H1[z]? = H[z]?) (hqs : H.size ≤ q) (ht : t < mN M 4)
    (hc : va_at (gD Γ) clX (q, .inr (2, [.int (nI (mN M 2)), .ref (K 4 t)])) H1) : HM Γ (upK K 2 (mN M 2) q) (maM1 M t) H1 := by
  have hK : ∀ k i, i < mN M k → upK K 2 (mN M 2) q k i = K k i := fun k i hi => upK_ne (fun z => by obtain ⟨rfl, rfl⟩ := z; omega)
  have only : ∀ k i, mN M k ≤ i → i < mN (maM1 M t) k → k = 2 ∧ i = mN M 2 := by
    intro k i h1 h2
    rw [mN_ma] at h2
    split at h2
    · rename_i e; subst e; exact ⟨rfl, by omega⟩
    · omega
  refine h.add hsz hq hK (fun k i hi hk => ?_) (fun k i hi hk => ⟨rfl, map_K vp hK hk hi⟩) (fun k i h1 h2 => ?_) (fun k i k' i' a b a' b' _ => ?_)
  · have hne : ¬ (k = 2 ∧ i = mN M 2) := fun z => by obtain ⟨rfl, rfl⟩ := z; omega
    rw [← celE_K vp hK (upK_k (by decide)) (upK_k (by decide)) hi]
    refine Eq.trans (?_ : celE (gA Γ) (upK K 2 (mN M 2) q) (sP (sT M 2 0 (mN M 2) (nI (mN M 2))) 2 1 (mN M 2) (some t)) k i = _) rfl
    rw [celE_sP hne, celE_sT hne]
  · obtain ⟨rfl, rfl⟩ := only k i h1 h2
    rw [upK_self]
    refine ⟨hqs, fun _ => ?_, fun z => nomatch z⟩
    have e : celE (gA Γ) (upK K 2 (mN M 2) q) (maM1 M t) 2 (mN M 2) = .inr (2, [.int (nI (mN M 2)), .ref (K 4 t)]) := by
      rw [celE_obj (by decide)]
      show Sum.inr (2, [Value.int (mT (maM1 M t) 2 0 (mN M 2)), va_rf ((mP (maM1 M t) 2 1 (mN M 2)).map (upK K 2 (mN M 2) q 4))]) = _
      have e1 : mT (maM1 M t) 2 0 (mN M 2) = nI (mN M 2) := u3_self _ _ _ _ _
      have e2 : mP (maM1 M t) 2 1 (mN M 2) = some t := u3_self _ _ _ _ _
      rw [e1, e2, upK_k (by decide)]
      rfl
    rw [e]
    exact hc
  · obtain ⟨rfl, rfl⟩ := only k i a b
    obtain ⟨rfl, rfl⟩ := only k' i' a' b'
    exact ⟨rfl, rfl⟩
-- a prepared answer and its row
/-- a row of noughts -/
def zeM (M : Mem) (k i : Nat) : Mem := (M.1, (fun a b c => if a = k ∧ c = i then 0 else M.2.1 a b c), M.2.2)
theorem mT_ze {M : Mem} {k i : Nat} (a b c : Nat) : mT (zeM M k i) a b c = if a = k ∧ c = i then 0 else mT M a b c := rfl
theorem celE_ze {dA : Nat → ClassId} {K : Nat → Nat → Nat} {M : Mem} {k i k' i' : Nat} (h : ¬ (k' = k ∧ i' = i)) : celE dA K (zeM M k i) k' i' = celE dA K M k' i' := by
  have h2 : ∀ b, mT (zeM M k i) k' b i' = mT M k' b i' := fun b => if_neg h
  unfold celE
  split
  · congr 2
    unfold fsE
    refine List.map_congr_left fun b _ => ?_
    unfold fv fvS
    rw [h2]; rfl
  · congr 3
    unfold cntE
    split <;> first | rfl | (simp only [h2])
def prM1 (M : Mem) (x : Int32) : Mem := sN (sN (zeM (sT M 3 0 (mN M 3) x) 14 (mN M 3)) 14 (mN M 3 + 1)) 3 (mN M 3 + 1)
theorem mN_pr {M : Mem} {x : Int32} (a : Nat) : mN (prM1 M x) a = if a = 3 then mN M 3 + 1 else if a = 14 then mN M 3 + 1 else mN M a := rfl
theorem HM.aprep {Γ : Gm} {K : Nat → Nat → Nat} {M : Mem} {H H1 : Heap} {q q2 : Nat} {x : Int32} (h : HM Γ K M H) (vp : VP M) (hsz : gB Γ ≤ H.size) (hq : ∀ z : Nat, z < H.size → H1[z]? = H[z]?) (hqs : H.size ≤ q) (hqs2 : H.size ≤ q2) (hqq : q ≠ q2) (h14 : mN M 14 = mN M 3)
    (hc : va_at (gD Γ) clX (q, .inr (3, [.int x, .ref q2])) H1) (hc2 : va_at (gD Γ) clX (q2, .inl (gA Γ 0, 6, .inl (fun _ => 0))) H1) : HM Γ (upK (upK K 14 (mN M 3) q2) 3 (mN M 3) q) (prM1 M x) H1 := by
  have hK : ∀ k i, i < mN M k → upK (upK K 14 (mN M 3) q2) 3 (mN M 3) q k i = K k i := fun k i hi => by
    rw [upK_ne (fun z => by obtain ⟨rfl, rfl⟩ := z; omega), upK_ne (fun z => by obtain ⟨rfl, rfl⟩ := z; omega)]
  have only : ∀ k i, mN M k ≤ i → i < mN (prM1 M x) k → (k = 3 ∨ k = 14) ∧ i = mN M 3 := by
    intro k i h1 h2
    rw [mN_pr] at h2
    split at h2
    · rename_i e; subst e; exact ⟨Or.inl rfl, by omega⟩
    · split at h2
      · rename_i e; subst e; exact ⟨Or.inr rfl, by omega⟩
      · omega
  have k3 : upK (upK K 14 (mN M 3) q2) 3 (mN M 3) q 3 (mN M 3) = q := upK_self
  have k14 : upK (upK K 14 (mN M 3) q2) 3 (mN M 3) q 14 (mN M 3) = q2 := by rw [upK_ne (fun z => absurd z.1 (by decide)), upK_self]
  refine h.add hsz hq hK (fun k i hi hk => ?_) (fun k i hi hk => ⟨rfl, map_K vp hK hk hi⟩) (fun k i h1 h2 => ?_) (fun k i k' i' a b a' b' e => ?_)
  · have hne : ¬ (k = 3 ∧ i = mN M 3) := fun z => by obtain ⟨rfl, rfl⟩ := z; omega
    have hne2 : ¬ (k = 14 ∧ i = mN M 3) := fun z => by obtain ⟨rfl, rfl⟩ := z; omega
    rw [← celE_K vp hK (by rw [upK_k (by decide), upK_k (by decide)]) (by rw [upK_k (by decide), upK_k (by decide)]) hi]
    refine Eq.trans (?_ : celE (gA Γ) (upK (upK K 14 (mN M 3) q2) 3 (mN M 3) q) (zeM (sT M 3 0 (mN M 3) x) 14 (mN M 3)) k i = _) rfl
    rw [celE_ze hne2, celE_sT hne]
  · obtain ⟨rfl | rfl, rfl⟩ := only k i h1 h2
    · rw [k3]
      refine ⟨hqs, fun _ => ?_, fun z => nomatch z⟩
      have e : celE (gA Γ) (upK (upK K 14 (mN M 3) q2) 3 (mN M 3) q) (prM1 M x) 3 (mN M 3) = .inr (3, [.int x, .ref q2]) := by
        rw [celE_obj (by decide)]
        show Sum.inr (3, [Value.int (mT (prM1 M x) 3 0 (mN M 3)), .ref (upK (upK K 14 (mN M 3) q2) 3 (mN M 3) q 14 (mN M 3))]) = _
        rw [k14]
        have e1 : mT (prM1 M x) 3 0 (mN M 3) = x := by
          show mT (zeM (sT M 3 0 (mN M 3) x) 14 (mN M 3)) 3 0 (mN M 3) = x
          rw [mT_ze, if_neg (fun z => absurd z.1 (by decide)), mT_sT, if_pos ⟨rfl, rfl, rfl⟩]
        rw [e1]
      rw [e]
      exact hc
    · rw [k14]
      refine ⟨hqs2, fun _ => ?_, fun z => nomatch z⟩
      have e : celE (gA Γ) (upK (upK K 14 (mN M 3) q2) 3 (mN M 3) q) (prM1 M x) 14 (mN M 3) = .inl (gA Γ 0, 6, .inl (fun _ => 0)) := by
        show Sum.inl (gA Γ 0, 6, Sum.inl (fun j => mT (prM1 M x) 14 j (mN M 3))) = _
        have e1 : (fun j => mT (prM1 M x) 14 j (mN M 3)) = fun _ => 0 := by
          funext j
          exact if_pos ⟨rfl, rfl⟩
        rw [e1]
      rw [e]
      exact hc2
  · obtain ⟨c1, rfl⟩ := only k i a b
    obtain ⟨c2, rfl⟩ := only k' i' a' b'
    rcases c1 with rfl | rfl <;> rcases c2 with rfl | rfl
    · exact ⟨rfl, rfl⟩
    · rw [k3, k14] at e; exact absurd e hqq
    · rw [k3, k14] at e; exact absurd e.symm hqq
    · exact ⟨rfl, rfl⟩
-- a ticket and its list
def tiM0 (M : Mem) (cu : Nat) (su to : Int32) : Mem :=
  sP (sT (sP (sT (sP (sT (sT (sT (sT (sT (sT (sP (sT M 4 0 (mN M 4) (nI (mN M 4))) 4 1 (mN M 4) (some cu)) 4 2 (mN M 4) su) 4 4 (mN M 4) to) 4 5 (mN M 4) 0) 4 6 (mN M 4) 111) 4 7 (mN M 4) 0) 4 8 (mN M 4) 0) 4 9 (mN M 4) none) 4 10 (mN M 4) 0) 4 11 (mN M 4) none) 4 12 (mN M 4) 0) 4 13 (mN M 4) none
def tiM1 (M : Mem) (cu : Nat) (su to : Int32) : Mem := sN (sN (sC (sL (tiM0 M cu su to) 8 (mN M 4) []) 8 (mN M 4) 0) 8 (mN M 4 + 1)) 4 (mN M 4 + 1)
theorem mN_ti {M : Mem} {cu : Nat} {su to : Int32} (a : Nat) : mN (tiM1 M cu su to) a = if a = 4 then mN M 4 + 1 else if a = 8 then mN M 4 + 1 else mN M a := rfl
theorem HM.atick {Γ : Gm} {K : Nat → Nat → Nat} {M : Mem} {H H1 : Heap} {q q2 cu : Nat} {su to : Int32} (h : HM Γ K M H) (vp : VP M) (hsz : gB Γ ≤ H.size) (hq : ∀ z : Nat, z < H.size → H1[z]? = H[z]?) (hqs : H.size ≤ q) (hqs2 : H.size ≤ q2) (hqq : q ≠ q2) (h8 : mN M 8 = mN M 4) (hcu : cu < mN M 1)
    (hc : va_at (gD Γ) clX (q, .inr (4, [.int (nI (mN M 4)), .ref (K 1 cu), .int su, .ref q2, .int to, .int 0, .int 111, .int 0, .int 0, .null, .int 0, .null, .int 0, .null])) H1) (hgE : EmpAt Γ (gE Γ) H1) (hc2 : va_at (gD Γ) clX (liC q2 0 (gE Γ) 0) H1) : HM Γ (upK (upK K 8 (mN M 4) q2) 4 (mN M 4) q) (tiM1 M cu su to) H1 := by
  have hK : ∀ k i, i < mN M k → upK (upK K 8 (mN M 4) q2) 4 (mN M 4) q k i = K k i := fun k i hi => by
    rw [upK_ne (fun z => by obtain ⟨rfl, rfl⟩ := z; omega), upK_ne (fun z => by obtain ⟨rfl, rfl⟩ := z; omega)]
  have only : ∀ k i, mN M k ≤ i → i < mN (tiM1 M cu su to) k → (k = 4 ∨ k = 8) ∧ i = mN M 4 := by
    intro k i h1 h2
    rw [mN_ti] at h2
    split at h2
    · rename_i e; subst e; exact ⟨Or.inl rfl, by omega⟩
    · split at h2
      · rename_i e; subst e; exact ⟨Or.inr rfl, by omega⟩
      · omega
  have k4 : upK (upK K 8 (mN M 4) q2) 4 (mN M 4) q 4 (mN M 4) = q := upK_self
  have k8 : upK (upK K 8 (mN M 4) q2) 4 (mN M 4) q 8 (mN M 4) = q2 := by rw [upK_ne (fun z => absurd z.1 (by decide)), upK_self]
  refine h.add hsz hq hK (fun k i hi hk => ?_) (fun k i hi hk => ?_) (fun k i h1 h2 => ?_) (fun k i k' i' a b a' b' e => ?_)
  · have hne : ¬ (k = 4 ∧ i = mN M 4) := fun z => by obtain ⟨rfl, rfl⟩ := z; omega
    rw [← celE_K vp hK (by rw [upK_k (by decide), upK_k (by decide)]) (by rw [upK_k (by decide), upK_k (by decide)]) hi]
    refine Eq.trans (?_ : celE (gA Γ) (upK (upK K 8 (mN M 4) q2) 4 (mN M 4) q) (tiM0 M cu su to) k i = _) rfl
    unfold tiM0
    rw [celE_sP hne, celE_sT hne, celE_sP hne, celE_sT hne, celE_sP hne, celE_sT hne, celE_sT hne, celE_sT hne, celE_sT hne, celE_sT hne, celE_sT hne, celE_sP hne, celE_sT hne]
  · have hne : ¬ (k = 8 ∧ i = mN M 4) := fun z => by obtain ⟨rfl, rfl⟩ := z; omega
    have e1 : mL (tiM1 M cu su to) k i = mL M k i := if_neg hne
    have e2 : mC (tiM1 M cu su to) k i = mC M k i := if_neg hne
    exact ⟨e2, by rw [e1]; exact map_K vp hK hk hi⟩
  · obtain ⟨rfl | rfl, rfl⟩ := only k i h1 h2
    · rw [k4]
      refine ⟨hqs, fun _ => ?_, fun z => nomatch z⟩
      have e : celE (gA Γ) (upK (upK K 8 (mN M 4) q2) 4 (mN M 4) q) (tiM1 M cu su to) 4 (mN M 4) = .inr (4, [.int (nI (mN M 4)), .ref (K 1 cu), .int su, .ref q2, .int to, .int 0, .int 111, .int 0, .int 0, .null, .int 0, .null, .int 0, .null]) := by
        rw [celE_obj (by decide)]
        show Sum.inr (4, [Value.int (mT (tiM0 M cu su to) 4 0 (mN M 4)), va_rf ((mP (tiM0 M cu su to) 4 1 (mN M 4)).map (upK (upK K 8 (mN M 4) q2) 4 (mN M 4) q 1)), .int (mT (tiM0 M cu su to) 4 2 (mN M 4)), .ref (upK (upK K 8 (mN M 4) q2) 4 (mN M 4) q 8 (mN M 4)), .int (mT (tiM0 M cu su to) 4 4 (mN M 4)), .int (mT (tiM0 M cu su to) 4 5 (mN M 4)), .int (mT (tiM0 M cu su to) 4 6 (mN M 4)), .int (mT (tiM0 M cu su to) 4 7 (mN M 4)), .int (mT (tiM0 M cu su to) 4 8 (mN M 4)), va_rf ((mP (tiM0 M cu su to) 4 9 (mN M 4)).map (upK (upK K 8 (mN M 4) q2) 4 (mN M 4) q 0)), .int (mT (tiM0 M cu su to) 4 10 (mN M 4)), va_rf ((mP (tiM0 M cu su to) 4 11 (mN M 4)).map (upK (upK K 8 (mN M 4) q2) 4 (mN M 4) q 3)), .int (mT (tiM0 M cu su to) 4 12 (mN M 4)), va_rf ((mP (tiM0 M cu su to) 4 13 (mN M 4)).map (upK (upK K 8 (mN M 4) q2) 4 (mN M 4) q 4))]) = _
        rw [k8, upK_k (k := 4) (a := 1) (by decide), upK_k (k := 8) (a := 1) (by decide)]
        simp [tiM0, mT_sT, mP_sP, mT_sP, mP_sT, va_rf]
      rw [e]
      exact hc
    · rw [k8]
      refine ⟨hqs2, fun z => absurd (show true = false from z) (by decide), fun _ => ?_⟩
      have e1 : mL (tiM1 M cu su to) 8 (mN M 4) = [] := if_pos ⟨rfl, rfl⟩
      have e2 : mC (tiM1 M cu su to) 8 (mN M 4) = 0 := if_pos ⟨rfl, rfl⟩
      rw [e1, e2]
      exact ⟨0, 0, fun _ => none, hc2, Nat.le_refl _, by decide, ⟨fun _ => rfl, fun _ => rfl⟩, ⟨fun _ => hgE, fun z => absurd rfl z⟩, fun j hj => absurd hj (Nat.not_lt_zero _)⟩
  · obtain ⟨c1, rfl⟩ := only k i a b
    obtain ⟨c2, rfl⟩ := only k' i' a' b'
    rcases c1 with rfl | rfl <;> rcases c2 with rfl | rfl
    · exact ⟨rfl, rfl⟩
    · rw [k4, k8] at e; exact absurd e hqq
    · rw [k4, k8] at e; exact absurd e.symm hqq
    · exact ⟨rfl, rfl⟩
