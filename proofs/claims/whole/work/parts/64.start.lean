theorem kX6_init : CeeI yX6_init cX6_init 2 0 := ⟨t_38, t_1, t_39, rfl, by decide +kernel, by decide⟩
theorem kX7_init : CeeI yX7_init cX7_init 1 0 := ⟨t_1295, t_7, t_1296, rfl, by decide +kernel, by decide⟩
theorem arrV_ext {cA : ClassId} {n : Nat} {f g : Nat → Value} (h : ∀ j, j < n → f j = g j) : arrV cA n f = arrV cA n g := by
  unfold arrV
  congr 2
  funext j
  exact h j.val j.isLt
theorem va_atQ {D : va_G} {cl : List vw_C} {a n : Nat} {cA : ClassId} {f g : Nat → Option Nat} {H : Heap} (h : va_at D cl (a, .inl (cA, n, rE f)) H) (e : ∀ j, j < n → f j = g j) : va_at D cl (a, .inl (cA, n, rE g)) H := by
  have h : H[a]? = some (vp_cell cA (n, rE f)) := h
  show H[a]? = some (vp_cell cA (n, rE g))
  rw [h]
  rw [vp_cell_q, vp_cell_q]
  exact congrArg some (arrV_ext fun j hj => by rw [e j hj])
/-- the memory at the start, with so many things of each kind -/
def iT : Nat → Nat → Nat → Int32 := fun k j _ => match k with | 15 => prF j | 21 => prF j | _ => 0
def mini (N : Nat → Nat) : Mem := (N, iT, fun _ _ _ => 0, fun _ => 0, fun _ _ _ => none, fun _ _ => [], fun _ _ => 0)
def N1 : Nat → Nat := fun k => match k with | 1 => 8 | 5 => 6 | 6 => 1 | 9 => 6 | 10 => 1 | 11 => 1 | 12 => 1 | 13 => 1 | 15 => 1 | 16 => 1 | 17 => 1 | 18 => 1 | 19 => 1 | _ => 0
def N2 : Nat → Nat := fun k => if k = 7 ∨ (20 ≤ k ∧ k ≤ 38) then 1 else N1 k
theorem HM.empty {Γ : Gm} {K : Nat → Nat → Nat} {H : Heap} (h : gE Γ < gB Γ) : HM Γ K (mini fun _ => 0) H :=
  ⟨fun _ _ h => absurd h (Nat.not_lt_zero _), ⟨fun _ _ => gE Γ, fun _ _ _ h => absurd h (Nat.not_lt_zero _), fun _ _ _ h => absurd h (Nat.not_lt_zero _)⟩, fun _ _ _ _ h => absurd h (Nat.not_lt_zero _), fun _ _ h => absurd h (Nat.not_lt_zero _), h⟩
theorem N1_cases {k i : Nat} (h : i < N1 k) : (k = 1 ∧ i < 8) ∨ (k = 5 ∧ i < 6) ∨ (k = 6 ∧ i = 0) ∨ (k = 9 ∧ i < 6) ∨ (k = 10 ∧ i = 0) ∨ (k = 11 ∧ i = 0) ∨ (k = 12 ∧ i = 0) ∨ (k = 13 ∧ i = 0) ∨ (k = 15 ∧ i = 0) ∨ (k = 16 ∧ i = 0) ∨ (k = 17 ∧ i = 0) ∨ (k = 18 ∧ i = 0) ∨ (k = 19 ∧ i = 0) := by
  unfold N1 at h
  split at h <;> omega
def kD (q pr ca qa l1 l2 l3 l4 w6 w7 : Nat) (cs : List Nat) (qs : List (Nat × Nat)) : Nat → Nat → Nat := fun k i => match k with
  | 1 => cs.getD i 0 | 5 => (qs.getD i (0, 0)).1 | 6 => q | 9 => (qs.getD i (0, 0)).2 | 10 => l1 | 11 => l2 | 12 => l3 | 13 => l4 | 15 => pr | 16 => w6 | 17 => w7 | 18 => ca | 19 => qa | _ => 0
theorem getD_some {α : Type} {l : List α} {i : Nat} {d : α} (h : i < l.length) : l[i]? = some (l.getD i d) := by
  rw [List.getD_eq_getElem?_getD, List.getElem?_eq_getElem h]
  rfl
def loD (q pr ca qa l1 l2 l3 l4 w6 w7 : Nat) : Nat → Nat
  | 0 => q | 1 => pr | 2 => ca | 3 => ca + 1 | 4 => qa | 5 => qa + 1 | 6 => l1 | 7 => l2 | 8 => l3 | 9 => l4 | 10 => w6 | 11 => w7 | _ => w7 + 1
def rkD : Nat → Nat
  | 6 => 0 | 15 => 1 | 18 => 2 | 1 => 3 | 19 => 4 | 5 => 5 | 9 => 5 | 10 => 6 | 11 => 7 | 12 => 8 | 13 => 9 | 16 => 10 | _ => 11
theorem rkD_all : ∀ k k' : Fin 20, (k.val = 17 ∨ rkD k.val ≠ 11) → (k'.val = 17 ∨ rkD k'.val ≠ 11) → k.val ≠ k'.val → rkD k.val = rkD k'.val → (k.val = 5 ∧ k'.val = 9) ∨ (k.val = 9 ∧ k'.val = 5) := by decide +kernel
theorem HM.desk {Γ : Gm} {N q : Nat} {H0 H : Heap} (hE : gE Γ < gB Γ) (hB : gB Γ ≤ H0.size) (hq : H0.size ≤ q) (hN : q < N) (hgE : EmpAt Γ (gE Γ) H) (h : DeskOk Γ N q H) (ho : ∀ x : Nat, x < H0.size → H[x]? = H0[x]?) : ∃ K, K 6 0 = q ∧ HM Γ K (mini N1) H := by
  obtain ⟨pr, ca, qa, l1, l2, l3, l4, w6, w7, cs, qs, hcs, hqs, hnd, hnd2, ⟨o1, o2, o3, o4, o5, o6, o7, o8, o9⟩, hcsq, hqsl, h0, hp, hca, hC, hqa, hQ, hl1, hl2, hl3, hl4, hw6, hw7⟩ := h
  refine ⟨kD q pr ca qa l1 l2 l3 l4 w6 w7 cs qs, rfl, ?_⟩
  generalize hK : kD q pr ca qa l1 l2 l3 l4 w6 w7 cs qs = K
  have k1 : ∀ i, K 1 i = cs.getD i 0 := fun i => by rw [← hK]; rfl
  have k5 : ∀ i, K 5 i = (qs.getD i (0, 0)).1 := fun i => by rw [← hK]; rfl
  have k9 : ∀ i, K 9 i = (qs.getD i (0, 0)).2 := fun i => by rw [← hK]; rfl
  have k6 : ∀ i, K 6 i = q := fun i => by rw [← hK]; rfl
  have k10 : ∀ i, K 10 i = l1 := fun i => by rw [← hK]; rfl
  have k11 : ∀ i, K 11 i = l2 := fun i => by rw [← hK]; rfl
  have k12 : ∀ i, K 12 i = l3 := fun i => by rw [← hK]; rfl
  have k13 : ∀ i, K 13 i = l4 := fun i => by rw [← hK]; rfl
  have k15 : ∀ i, K 15 i = pr := fun i => by rw [← hK]; rfl
  have k16 : ∀ i, K 16 i = w6 := fun i => by rw [← hK]; rfl
  have k17 : ∀ i, K 17 i = w7 := fun i => by rw [← hK]; rfl
  have k18 : ∀ i, K 18 i = ca := fun i => by rw [← hK]; rfl
  have k19 : ∀ i, K 19 i = qa := fun i => by rw [← hK]; rfl
  clear hK
  have c1 : ∀ i, i < 8 → cs[i]? = some (K 1 i) := fun i hi => by rw [k1]; exact getD_some (by rw [hcs]; exact hi)
  have q1 : ∀ i, i < 6 → qs[i]? = some (K 5 i, K 9 i) := fun i hi => by rw [k5, k9]; exact getD_some (by rw [hqs]; exact hi)
  have b1 : ∀ i, i < 8 → ca < K 1 i ∧ K 1 i < qa ∧ va_at (gD Γ) clX (K 1 i, .inr (1, [.ref pr, .int 0])) H := fun i hi => by
    have hm := List.mem_of_getElem? (c1 i hi)
    exact ⟨(hC _ hm).1, hcsq _ hm, (hC _ hm).2⟩
  have b5 : ∀ i, i < 6 → qa < K 5 i ∧ K 5 i < l1 ∧ qa < K 9 i ∧ K 9 i < l1 ∧ va_at (gD Γ) clX (K 5 i, .inr (5, [.ref (K 9 i)])) H ∧ va_at (gD Γ) clX (liC (K 9 i) 0 (gE Γ) 0) H := fun i hi => by
    have hm := List.mem_of_getElem? (q1 i hi)
    exact ⟨(hQ _ hm).1, (hqsl _ hm).1, (hQ _ hm).2.1, (hqsl _ hm).2, (hQ _ hm).2.2⟩
  have lsn : ∀ a, va_at (gD Γ) clX (liC a 0 (gE Γ) 0) H → LsAt Γ a (gE Γ) 0 [] H := fun a h => ⟨0, 0, fun _ => none, h, Nat.le_refl _, by decide, ⟨fun _ => rfl, fun _ => rfl⟩, ⟨fun _ => hgE, fun z => absurd rfl z⟩, fun j hj => absurd hj (Nat.not_lt_zero _)⟩
  refine (HM.empty (K := fun _ _ => 0) (H := H0) hE).add hB ho (fun k i h => absurd h (Nat.not_lt_zero _)) (fun k i h => absurd h (Nat.not_lt_zero _)) (fun k i h => absurd h (Nat.not_lt_zero _)) (fun k i _ h => ?_) (fun k i k' i' _ a _ b e => ?_)
  · rcases N1_cases h with ⟨rfl, hi⟩ | ⟨rfl, hi⟩ | ⟨rfl, rfl⟩ | ⟨rfl, hi⟩ | ⟨rfl, rfl⟩ | ⟨rfl, rfl⟩ | ⟨rfl, rfl⟩ | ⟨rfl, rfl⟩ | ⟨rfl, rfl⟩ | ⟨rfl, rfl⟩ | ⟨rfl, rfl⟩ | ⟨rfl, rfl⟩ | ⟨rfl, rfl⟩
    · obtain ⟨g1, g2, g3⟩ := b1 i hi
      refine ⟨by omega, fun _ => ?_, fun z => absurd z (by decide)⟩
      rw [show celE (gA Γ) K (mini N1) 1 i = .inr (1, [.ref (K 15 0), .int 0]) from rfl, k15]
      exact g3
    · obtain ⟨g1, g2, g3, g4, g5, g6⟩ := b5 i hi
      exact ⟨by omega, fun _ => g5, fun z => absurd z (by decide)⟩
    · refine ⟨by rw [k6]; omega, fun _ => ?_, fun z => absurd z (by decide)⟩
      rw [show celE (gA Γ) K (mini N1) 6 0 = .inr (6, [.ref (K 15 0), .ref (K 18 0), .ref (K 19 0), .ref (K 10 0), .ref (K 11 0), .ref (K 12 0), .ref (K 13 0), .ref (K 16 0), .ref (K 17 0), .int 0, .int 0, .int 0, .int 0, .long 0, .long 0]) from rfl, k15, k18, k19, k10, k11, k12, k13, k16, k17, k6]
      exact h0
    · obtain ⟨g1, g2, g3, g4, g5, g6⟩ := b5 i hi
      exact ⟨by omega, fun z => absurd z (by decide), fun _ => lsn _ g6⟩
    · rw [k10]; exact ⟨by omega, fun z => absurd z (by decide), fun _ => lsn _ hl1⟩
    · rw [k11]; exact ⟨by omega, fun z => absurd z (by decide), fun _ => lsn _ hl2⟩
    · rw [k12]; exact ⟨by omega, fun z => absurd z (by decide), fun _ => lsn _ hl3⟩
    · rw [k13]; exact ⟨by omega, fun z => absurd z (by decide), fun _ => lsn _ hl4⟩
    · rw [k15]; exact ⟨by omega, fun _ => hp, fun z => absurd z (by decide)⟩
    · rw [k16]; exact ⟨by omega, fun _ => hw6, fun z => absurd z (by decide)⟩
    · rw [k17]; exact ⟨by omega, fun _ => hw7, fun z => absurd z (by decide)⟩
    · rw [k18]; exact ⟨by omega, fun _ => va_atQ hca (fun j hj => c1 j hj), fun z => absurd z (by decide)⟩
    · rw [k19]; exact ⟨by omega, fun _ => va_atQ hqa (fun j hj => by rw [q1 j hj]; rfl), fun z => absurd z (by decide)⟩
  · have ha : i < N1 k := a
    have hb : i' < N1 k' := b
    clear a b
    by_cases ek : k = k'
    · subst ek
      refine ⟨rfl, ?_⟩
      by_cases e1 : k = 1
      · subst e1
        have a : i < 8 := ha
        have b : i' < 8 := hb
        have g1 := c1 i a
        have g2 := c1 i' b
        rw [← e] at g2
        exact (List.getElem?_inj (by omega) hnd).mp (g1.trans g2.symm)
      · by_cases e5 : k = 5
        · subst e5
          have a : i < 6 := ha
          have b : i' < 6 := hb
          exact (hnd2 i i' _ _ (q1 i a) (q1 i' b)).1 e
        · by_cases e9 : k = 9
          · subst e9
            have a : i < 6 := ha
            have b : i' < 6 := hb
            exact (hnd2 i i' _ _ (q1 i a) (q1 i' b)).2.1 e
          · have a : i = 0 := by
              rcases N1_cases ha with ⟨z, _⟩ | ⟨z, _⟩ | ⟨_, z⟩ | ⟨z, _⟩ | ⟨_, z⟩ | ⟨_, z⟩ | ⟨_, z⟩ | ⟨_, z⟩ | ⟨_, z⟩ | ⟨_, z⟩ | ⟨_, z⟩ | ⟨_, z⟩ | ⟨_, z⟩ <;> first | exact z | contradiction
            have b : i' = 0 := by
              rcases N1_cases hb with ⟨z, _⟩ | ⟨z, _⟩ | ⟨_, z⟩ | ⟨z, _⟩ | ⟨_, z⟩ | ⟨_, z⟩ | ⟨_, z⟩ | ⟨_, z⟩ | ⟨_, z⟩ | ⟨_, z⟩ | ⟨_, z⟩ | ⟨_, z⟩ | ⟨_, z⟩ <;> first | exact z | contradiction
            rw [a, b]
    · exfalso
      have hd : ∀ k i, i < N1 k → loD q pr ca qa l1 l2 l3 l4 w6 w7 (rkD k) ≤ K k i ∧ K k i < loD q pr ca qa l1 l2 l3 l4 w6 w7 (rkD k + 1) := by
        intro k i h
        rcases N1_cases h with ⟨rfl, hi⟩ | ⟨rfl, hi⟩ | ⟨rfl, rfl⟩ | ⟨rfl, hi⟩ | ⟨rfl, rfl⟩ | ⟨rfl, rfl⟩ | ⟨rfl, rfl⟩ | ⟨rfl, rfl⟩ | ⟨rfl, rfl⟩ | ⟨rfl, rfl⟩ | ⟨rfl, rfl⟩ | ⟨rfl, rfl⟩ | ⟨rfl, rfl⟩
        · exact ⟨(b1 i hi).1, (b1 i hi).2.1⟩
        · exact ⟨(b5 i hi).1, (b5 i hi).2.1⟩
        · rw [k6]; exact ⟨Nat.le_refl _, Nat.lt_of_lt_of_le hN o1⟩
        · exact ⟨(b5 i hi).2.2.1, (b5 i hi).2.2.2.1⟩
        · rw [k10]; exact ⟨Nat.le_refl _, o5⟩
        · rw [k11]; exact ⟨Nat.le_refl _, o6⟩
        · rw [k12]; exact ⟨Nat.le_refl _, o7⟩
        · rw [k13]; exact ⟨Nat.le_refl _, o8⟩
        · rw [k15]; exact ⟨Nat.le_refl _, o2⟩
        · rw [k16]; exact ⟨Nat.le_refl _, o9⟩
        · rw [k17]; exact ⟨Nat.le_refl _, Nat.lt_succ_self _⟩
        · rw [k18]; exact ⟨Nat.le_refl _, Nat.lt_succ_self _⟩
        · rw [k19]; exact ⟨Nat.le_refl _, Nat.lt_succ_self _⟩
      have hmo : ∀ r, loD q pr ca qa l1 l2 l3 l4 w6 w7 r ≤ loD q pr ca qa l1 l2 l3 l4 w6 w7 (r + 1) := by
        intro r
        match r with
        | 0 => show q ≤ pr; omega
        | 1 => show pr ≤ ca; omega
        | 2 => show ca ≤ ca + 1; omega
        | 3 => show ca + 1 ≤ qa; omega
        | 4 => show qa ≤ qa + 1; omega
        | 5 => show qa + 1 ≤ l1; omega
        | 6 => show l1 ≤ l2; omega
        | 7 => show l2 ≤ l3; omega
        | 8 => show l3 ≤ l4; omega
        | 9 => show l4 ≤ w6; omega
        | 10 => show w6 ≤ w7; omega
        | 11 => show w7 ≤ w7 + 1; omega
        | r + 12 => exact Nat.le_refl _
      have hm2 : ∀ r d, loD q pr ca qa l1 l2 l3 l4 w6 w7 r ≤ loD q pr ca qa l1 l2 l3 l4 w6 w7 (r + d) := by
        intro r d
        induction d with
        | zero => exact Nat.le_refl _
        | succ d ih => exact Nat.le_trans ih (hmo _)
      have hrk : rkD k = rkD k' := by
        have g1 := hd k i ha
        have g2 := hd k' i' hb
        rcases Nat.lt_trichotomy (rkD k) (rkD k') with c | c | c
        · have := hm2 (rkD k + 1) (rkD k' - (rkD k + 1))
          rw [show rkD k + 1 + (rkD k' - (rkD k + 1)) = rkD k' by omega] at this
          omega
        · exact c
        · have := hm2 (rkD k' + 1) (rkD k - (rkD k' + 1))
          rw [show rkD k' + 1 + (rkD k - (rkD k' + 1)) = rkD k by omega] at this
          omega
      have hn : ∀ k i, i < N1 k → k < 20 ∧ (k = 17 ∨ rkD k ≠ 11) := by
        intro k i h
        rcases N1_cases h with ⟨rfl, hi⟩ | ⟨rfl, hi⟩ | ⟨rfl, rfl⟩ | ⟨rfl, hi⟩ | ⟨rfl, rfl⟩ | ⟨rfl, rfl⟩ | ⟨rfl, rfl⟩ | ⟨rfl, rfl⟩ | ⟨rfl, rfl⟩ | ⟨rfl, rfl⟩ | ⟨rfl, rfl⟩ | ⟨rfl, rfl⟩ | ⟨rfl, rfl⟩ <;> decide
      have hkk := rkD_all ⟨k, (hn k i ha).1⟩ ⟨k', (hn k' i' hb).1⟩ (hn k i ha).2 (hn k' i' hb).2 ek hrk
      rcases hkk with ⟨rfl, rfl⟩ | ⟨rfl, rfl⟩
      · exact (hnd2 i i' _ _ (q1 i ha) (q1 i' hb)).2.2 e
      · exact (hnd2 i' i _ _ (q1 i' hb) (q1 i ha)).2.2 e.symm
