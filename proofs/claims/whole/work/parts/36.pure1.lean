/-! the pure part: what the two sides' answers have in common -/
theorem bef_so {D : Mem} {n b : Nat} (hn : mT D 4 0 n = nI n) (hb : mT D 4 0 b = nI b) (hlt : b < n) (h : n < 2 ^ 31) : befM D n b = soM D n b := by
  unfold befM soM
  by_cases e : leftM D n = leftM D b
  · rw [if_neg (fun z => z e), if_pos e]
    by_cases e2 : leM D n = leM D b
    · rw [if_neg (fun z => z e2), e2, hn, hb, decide_eq_false (fun z => by have := (nI_ltI (a := n) (b := b) (by omega) (by omega)).mp z; omega), decide_eq_false (fun z => Int32.lt_irrefl z)]
    · rw [if_pos e2]
  · rw [if_pos e, if_neg e]
/-- numbers are indices -/
def NumOk (D : Mem) : Prop := (∀ i, i < mN D 4 → mT D 4 0 i = nI i) ∧ (∀ i, i < mN D 2 → mT D 2 0 i = nI i) ∧ ∀ i, i < mN D 0 → mT D 0 0 i = nI i
theorem mn_nt {D : Mem} {a : Nat} (w : Wf D) (hnum : NumOk D) : ∀ n, n ≤ mN D 4 → mnN D a n = ntN D a n
  | 0, _ => rfl
  | n + 1, h => by
    have ih := mn_nt (a := a) w hnum n (by omega)
    have hb4 := wn4 w
    have hlt := mnN_lt (D := D) (a := a) n
    unfold mnN ntN
    rw [← ih]
    show (if fiM D a n = true then _ else _) = (if fiM D a n = true then _ else _)
    split
    · cases e : mnN D a n with
      | none => rfl
      | some b =>
        have hbn := hlt b e
        show _ = (if befM D n b = true then some n else some b)
        rw [bef_so (hnum.1 n (by omega)) (hnum.1 b (by omega)) hbn (by omega)]
    · rfl
theorem i32_lt {x y : Int32} : x < y ↔ x.toInt < y.toInt := Int32.lt_iff_toInt_lt
theorem i32_eq {x y : Int32} : x = y ↔ x.toInt = y.toInt := Int32.toInt_inj.symm
/-- the order of the lines, told by integers -/
theorem bef_iff {D : Mem} {i j : Nat} : befM D i j = true ↔ (leftM D i).toInt < (leftM D j).toInt ∨ ((leftM D i).toInt = (leftM D j).toInt ∧ ((leM D j).toInt < (leM D i).toInt ∨ ((leM D i).toInt = (leM D j).toInt ∧ (mT D 4 0 i).toInt < (mT D 4 0 j).toInt))) := by
  unfold befM
  by_cases e : leftM D i = leftM D j
  · rw [if_neg (fun z => z e)]
    have e' := i32_eq.mp e
    by_cases e2 : leM D i = leM D j
    · rw [if_neg (fun z => z e2), decide_eq_true_iff, i32_lt]
      have e2' := i32_eq.mp e2
      refine ⟨fun h => Or.inr ⟨e', Or.inr ⟨e2', h⟩⟩, fun h => ?_⟩
      rcases h with h | ⟨-, h | ⟨-, h⟩⟩
      · rw [e'] at h; exact absurd h (Int.lt_irrefl _)
      · rw [e2'] at h; exact absurd h (Int.lt_irrefl _)
      · exact h
    · rw [if_pos e2, decide_eq_true_iff, i32_lt]
      have e2' := fun z => e2 (i32_eq.mpr z)
      refine ⟨fun h => Or.inr ⟨e', Or.inl h⟩, fun h => ?_⟩
      rcases h with h | ⟨-, h | ⟨h, -⟩⟩
      · rw [e'] at h; exact absurd h (Int.lt_irrefl _)
      · exact h
      · exact absurd h e2'
  · rw [if_pos e, decide_eq_true_iff, i32_lt]
    have e' := fun z => e (i32_eq.mpr z)
    refine ⟨fun h => Or.inl h, fun h => ?_⟩
    rcases h with h | ⟨h, -⟩
    · exact h
    · exact absurd h e'
theorem bef_trans {D : Mem} {i j k : Nat} (h1 : befM D i j = true) (h2 : befM D j k = true) : befM D i k = true := by
  rw [bef_iff] at *
  omega
theorem bef_asym {D : Mem} {i j : Nat} (h1 : befM D i j = true) (h2 : befM D j i = true) : False := by
  rw [bef_iff] at *
  omega
theorem bef_tot {D : Mem} {i j : Nat} (w : Wf D) (hnum : NumOk D) (hi : i < mN D 4) (hj : j < mN D 4) (hne : i ≠ j) (h : ¬ befM D i j = true) : befM D j i = true := by
  have hb4 := wn4 w
  have e : (mT D 4 0 i).toInt ≠ (mT D 4 0 j).toInt := by rw [hnum.1 i hi, hnum.1 j hj, nI_toInt (by omega), nI_toInt (by omega)]; omega
  rw [bef_iff] at *
  omega
/-- the first of a set, or none if it is empty -/
def FstOf (D : Mem) (P : Nat → Prop) (o : Option Nat) : Prop := (o = none ∧ ∀ x, ¬ P x) ∨ ∃ t, o = some t ∧ P t ∧ ∀ x, P x → x ≠ t → befM D t x = true
theorem fst_one {D : Mem} {P : Nat → Prop} {o o' : Option Nat} (h : FstOf D P o) (h' : FstOf D P o') : o = o' := by
  rcases h with ⟨rfl, h⟩ | ⟨t, rfl, h1, h2⟩
  · rcases h' with ⟨rfl, -⟩ | ⟨t, rfl, h1, -⟩
    · rfl
    · exact absurd h1 (h t)
  · rcases h' with ⟨rfl, h'⟩ | ⟨u, rfl, h3, h4⟩
    · exact absurd h1 (h' t)
    · by_cases e : t = u
      · rw [e]
      · exact (bef_asym (h2 u h3 (fun z => e z.symm)) (h4 t h1 e)).elim
theorem fst_ear {D : Mem} {P Q : Nat → Prop} {o o' : Option Nat} (tot : ∀ x y, P x → Q y → x ≠ y → ¬ befM D y x = true → befM D x y = true) (dis : ∀ x, P x → Q x → False) (h : FstOf D P o) (h' : FstOf D Q o') : FstOf D (fun x => P x ∨ Q x) (earM D o o') := by
  rcases h with ⟨rfl, h⟩ | ⟨t, rfl, h1, h2⟩
  · rcases h' with ⟨rfl, h'⟩ | ⟨u, rfl, h3, h4⟩
    · exact Or.inl ⟨rfl, fun x hx => hx.elim (h x) (h' x)⟩
    · exact Or.inr ⟨u, rfl, Or.inr h3, fun x hx hne => hx.elim (fun z => absurd z (h x)) (fun z => h4 x z hne)⟩
  · rcases h' with ⟨rfl, h'⟩ | ⟨u, rfl, h3, h4⟩
    · exact Or.inr ⟨t, rfl, Or.inl h1, fun x hx hne => hx.elim (fun z => h2 x z hne) (fun z => absurd z (h' x))⟩
    · have hne : t ≠ u := fun e => dis t h1 (e ▸ h3)
      show FstOf D _ (if befM D u t = true then some u else some t)
      by_cases e : befM D u t = true
      · rw [if_pos e]
        refine Or.inr ⟨u, rfl, Or.inr h3, fun x hx hn => ?_⟩
        rcases hx with hx | hx
        · by_cases ex : x = t
          · rw [ex]; exact e
          · exact bef_trans e (h2 x hx ex)
        · exact h4 x hx hn
      · rw [if_neg e]
        have e' := tot t u h1 h3 hne e
        refine Or.inr ⟨t, rfl, Or.inl h1, fun x hx hn => ?_⟩
        rcases hx with hx | hx
        · exact h2 x hx hn
        · by_cases ex : x = u
          · rw [ex]; exact e'
          · exact bef_trans e' (h4 x hx ex)
/-- the lines hold just the waiting tickets of their topics, in their order -/
def QI (D : Mem) : Prop := ∀ q, q < 6 → (∀ x, x ∈ mL D 9 q ↔ x < mN D 4 ∧ waM D x = true ∧ toM D x = q) ∧ (mL D 9 q).Pairwise (fun x y => befM D x y = true)
theorem QI.QW {D : Mem} (h : QI D) : QW D := fun q hq x hx => (((h q hq).1 x).mp hx).2
theorem fst_hd {D : Mem} {q : Nat} (h : QI D) (hq : q < 6) : FstOf D (fun x => x ∈ mL D 9 q) (hdM D q) := by
  have h2 := (h q hq).2
  unfold hdM
  cases e : mL D 9 q with
  | nil => exact Or.inl ⟨rfl, fun x hx => nomatch hx⟩
  | cons a l =>
    rw [e] at h2
    refine Or.inr ⟨a, rfl, List.mem_cons_self, fun x hx hne => ?_⟩
    rcases List.mem_cons.mp hx with rfl | hx
    · exact absurd rfl hne
    · exact (List.pairwise_cons.mp h2).1 x hx
theorem fst_nq {D : Mem} {a : Nat} (w : Wf D) (hnum : NumOk D) (h : QI D) : ∀ n, n ≤ 6 → FstOf D (fun x => ∃ q, q < n ∧ caM D a (nI q) = true ∧ x ∈ mL D 9 q) (nqN D a n)
  | 0, _ => Or.inl ⟨rfl, fun x hx => by obtain ⟨q, hq, -⟩ := hx; omega⟩
  | n + 1, hn => by
    have ih := fst_nq (a := a) w hnum h n (by omega)
    unfold nqN
    by_cases hc : caM D a (nI n) = true
    · rw [if_pos hc]
      have h1 := fst_ear (D := D) (fun x y hx hy hne hb => by
        obtain ⟨q, hq, -, hm⟩ := hx
        have k1 := ((h q (by omega)).1 x).mp hm
        have k2 := ((h n (by omega)).1 y).mp hy
        exact bef_tot w hnum k2.1 k1.1 (fun z => hne z.symm) hb) (fun x hx hy => by
        obtain ⟨q, hq, -, hm⟩ := hx
        have k1 := ((h q (by omega)).1 x).mp hm
        have k2 := ((h n (by omega)).1 x).mp hy
        omega) ih (fst_hd h (by omega))
      have e : (fun x => (∃ q, q < n ∧ caM D a (nI q) = true ∧ x ∈ mL D 9 q) ∨ x ∈ mL D 9 n) = fun x => ∃ q, q < n + 1 ∧ caM D a (nI q) = true ∧ x ∈ mL D 9 q := by
        funext x
        refine propext ⟨fun z => ?_, fun z => ?_⟩
        · rcases z with ⟨q, h1, h2, h3⟩ | z
          · exact ⟨q, by omega, h2, h3⟩
          · exact ⟨n, by omega, hc, z⟩
        · obtain ⟨q, h1, h2, h3⟩ := z
          by_cases eq : q = n
          · subst eq; exact Or.inr h3
          · exact Or.inl ⟨q, by omega, h2, h3⟩
      rw [← e]
      exact h1
    · rw [if_neg hc]
      have e : (fun x => ∃ q, q < n ∧ caM D a (nI q) = true ∧ x ∈ mL D 9 q) = fun x => ∃ q, q < n + 1 ∧ caM D a (nI q) = true ∧ x ∈ mL D 9 q := by
        funext x
        refine propext ⟨fun z => ?_, fun z => ?_⟩
        · obtain ⟨q, h1, h2, h3⟩ := z
          exact ⟨q, by omega, h2, h3⟩
        · obtain ⟨q, h1, h2, h3⟩ := z
          by_cases eq : q = n
          · subst eq; exact absurd h2 hc
          · exact ⟨q, by omega, h2, h3⟩
      rw [← e]
      exact ih
