theorem SmX_of {A B : Mem} {i : Nat} (hN : mN B 4 = mN A 4) (hL : ∀ q, q < 6 → mL B 9 q = mL A 9 q) (h4 : ∀ a x, x ≠ i → a = 0 ∨ a = 4 ∨ a = 6 ∨ a = 7 → mT B 4 a x = mT A 4 a x) (h9 : ∀ x, x ≠ i → mP B 4 9 x = mP A 4 9 x) (h1 : ∀ x, x ≠ i → mP B 4 1 x = mP A 4 1 x) (hc : ∀ c, mT B 1 1 c = mT A 1 1 c) (hp : ∀ c, mT B 15 c 0 = mT A 15 c 0) : SmX A B i := by
  have cu : ∀ x, x ≠ i → cuM B x = cuM A x := fun x hx => by unfold cuM; rw [h1 x hx]
  have hl : ∀ x, x ≠ i → leftM B x = leftM A x := fun x hx => by
    unfold leftM lvM
    rw [cu x hx, h4 7 x hx (by omega), hp, hc]
  have he : ∀ x, x ≠ i → leM B x = leM A x := fun x hx => by
    unfold leM
    rw [cu x hx, hc]
  refine ⟨hN.symm, fun q hq => (hL q hq).symm, fun x hx => ⟨?_, ?_⟩, fun x y hx hy => ?_⟩
  · unfold waM stM
    rw [h4 6 x hx (by omega), h9 x hx]
  · unfold toM
    rw [h4 4 x hx (by omega)]
  · unfold befM
    rw [hl x hx, hl y hy, he x hx, he y hy, h4 0 x hx (by omega), h4 0 y hy (by omega)]
/-- sorted lists of numbers -/
theorem srt_iff {l : List Nat} : (∀ j k, j < k → k < l.length → l.getD j 0 < l.getD k 0) ↔ l.Pairwise (fun a b => a < b) := by
  rw [List.pairwise_iff_getElem]
  have e : ∀ (j : Nat) (h : j < l.length), l.getD j 0 = l[j] := fun j h => by rw [List.getD_eq_getElem?_getD, List.getElem?_eq_getElem h]; rfl
  constructor
  · intro h i j hi hj hij
    have := h i j hij hj
    rw [e i hi, e j hj] at this
    exact this
  · intro h j k hjk hk
    rw [e j (by omega), e k hk]
    exact h j k (by omega) hk hjk
theorem mpos_up {M : Mem} {l : List Nat} {x : Nat} : ∀ e j, mpos M l x e ≤ j → j < e → mT M 2 0 x < mT M 2 0 (l.getD j 0)
  | 0, j, _, h => absurd h (Nat.not_lt_zero _)
  | e + 1, j, h1, h2 => by
    unfold mpos at h1
    split at h1
    · rename_i hb
      by_cases q : j = e
      · rw [q]; exact hb
      · exact mpos_up e j h1 (by omega)
    · omega
theorem mpos_dn {M : Mem} {l : List Nat} {x : Nat} : ∀ e, mpos M l x e = 0 ∨ ∃ p, mpos M l x e = p + 1 ∧ ¬ mT M 2 0 x < mT M 2 0 (l.getD p 0)
  | 0 => Or.inl rfl
  | e + 1 => by
    unfold mpos
    split
    · exact mpos_dn e
    · rename_i hb; exact Or.inr ⟨e, rfl, hb⟩
theorem im_sorted {M : Mem} {l : List Nat} {x : Nat} (hn : ∀ y, y ∈ l → mT M 2 0 y = nI y ∧ y < 2 ^ 31) (hx : mT M 2 0 x = nI x ∧ x < 2 ^ 31) (ho : x ∉ l) (h : l.Pairwise (fun a b => a < b)) : (insL l (mpos M l x l.length) x).Pairwise (fun a b => a < b) := by
  have hp := mpos_le (M := M) (l := l) (x := x) l.length
  have hup := mpos_up (M := M) (l := l) (x := x) l.length
  have hdn := mpos_dn (M := M) (l := l) (x := x) l.length
  have lt : ∀ y, y ∈ l → (mT M 2 0 x < mT M 2 0 y ↔ x < y) := fun y hy => by
    obtain ⟨e1, e2⟩ := hn y hy
    rw [e1, hx.1, i32_lt, nI_toInt hx.2, nI_toInt e2]
    omega
  generalize mpos M l x l.length = p at *
  have h0 : (l.take p ++ l.drop p).Pairwise (fun a b => a < b) := by rw [List.take_append_drop]; exact h
  obtain ⟨h1, h2, h3⟩ := List.pairwise_append.mp h0
  refine List.pairwise_append.mpr ⟨h1, List.pairwise_cons.mpr ⟨fun y hy => ?_, h2⟩, fun y hy z hz => ?_⟩
  · obtain ⟨j, hj, e⟩ := List.getElem_of_mem hy
    rw [List.getElem_drop] at e
    rw [List.length_drop] at hj
    have := hup (p + j) (by omega) (by omega)
    rw [List.getD_eq_getElem?_getD, List.getElem?_eq_getElem (by omega)] at this
    rw [← e]
    exact (lt _ (List.getElem_mem _)).mp this
  · rcases List.mem_cons.mp hz with rfl | hz
    · rcases hdn with hz | ⟨r, hr, hb⟩
      · rw [hz] at hy; exact nomatch hy
      · have hrl : r < l.length := by omega
        rw [List.getD_eq_getElem?_getD, List.getElem?_eq_getElem hrl] at hb
        have hm := List.getElem_mem hrl
        have hl : ¬ z < l[r] := fun q => hb ((lt _ hm).mpr q)
        have hne : l[r] ≠ z := fun q => ho (by rw [← q]; exact hm)
        obtain ⟨j, hj, e⟩ := List.getElem_of_mem hy
        rw [List.getElem_take] at e
        rw [List.length_take] at hj
        rw [← e]
        by_cases q : j = r
        · subst q; omega
        · have := List.pairwise_iff_getElem.mp h j r (by omega) hrl (by omega)
          omega
    · exact h3 y hy z hz
theorem im_P {A : Mem} {j x k u v : Nat} : mP (imM A j x) k u v = if k = 2 ∧ u = 1 ∧ v = x then some j else mP A k u v := rfl
theorem im_L {A : Mem} {j x : Nat} : mL (imM A j x) 8 j = insL (mL A 8 j) (mpos A (mL A 8 j) x (mL A 8 j).length) x := if_pos ⟨rfl, rfl⟩
theorem im_J {A : Mem} {j x : Nat} : mJ (imM A j x) = mJ A := rfl
theorem to_J {A : Mem} {i j : Nat} : ∀ n, mJ (toN A j i n) = mJ A
  | 0 => rfl
  | n + 1 => (im_J (A := toN A j i n)).trans (to_J n)
theorem to_P {A : Mem} {i j k u v : Nat} (h : ¬ (k = 2 ∧ u = 1)) : ∀ n, mP (toN A j i n) k u v = mP A k u v
  | 0 => rfl
  | n + 1 => by
    show mP (imM (toN A j i n) j ((mL A 8 i).getD n 0)) k u v = _
    rw [im_P, if_neg (fun z => h ⟨z.1, z.2.1⟩)]
    exact to_P h n
theorem to_P0 {A : Mem} {i j v : Nat} : ∀ n, (∀ m, m < n → (mL A 8 i).getD m 0 ≠ v) → mP (toN A j i n) 2 1 v = mP A 2 1 v
  | 0, _ => rfl
  | n + 1, h => by
    show mP (imM (toN A j i n) j ((mL A 8 i).getD n 0)) 2 1 v = _
    rw [im_P, if_neg (fun z => h n (by omega) z.2.2.symm)]
    exact to_P0 n (fun m hm => h m (by omega))
theorem to_P1 {A : Mem} {i j v m : Nat} : ∀ n, m < n → (mL A 8 i).getD m 0 = v → mP (toN A j i n) 2 1 v = some j
  | 0, h, _ => absurd h (Nat.not_lt_zero _)
  | n + 1, h, e => by
    show mP (imM (toN A j i n) j ((mL A 8 i).getD n 0)) 2 1 v = _
    rw [im_P]
    by_cases q : v = (mL A 8 i).getD n 0
    · rw [if_pos ⟨rfl, rfl, q⟩]
    · rw [if_neg (fun z => q z.2.2)]
      exact to_P1 n (by
        have : m ≠ n := fun y => q (by rw [← y]; exact e.symm)
        omega) e
/-- whose a mail is once a ticket's mails went over to another -/
theorem tk_to {A : Mem} {i j k : Nat} (m : ∀ k, k < mN A 2 → (tkM A k = i ↔ k ∈ mL A 8 i)) (hk : k < mN A 2) : tkM (toN A j i (mL A 8 i).length) k = if tkM A k = i then j else tkM A k := by
  by_cases h : tkM A k = i
  · obtain ⟨p, hp, e⟩ := getD_in ((m k hk).mp h)
    rw [if_pos h]
    unfold tkM
    rw [to_P1 _ hp e]
    rfl
  · rw [if_neg h]
    unfold tkM
    rw [to_P0 _ (fun p hp e => h ((m k hk).mpr (by rw [← e]; exact getD_mem hp)))]
theorem to_8 {A : Mem} {i j u : Nat} (h : u ≠ j) : ∀ n, mL (toN A j i n) 8 u = mL A 8 u
  | 0 => rfl
  | n + 1 => (im_ne (M := toN A j i n) (fun z => h z.2)).trans (to_8 h n)
theorem to_9 {A : Mem} {i j q : Nat} : ∀ n, mL (toN A j i n) 9 q = mL A 9 q
  | 0 => rfl
  | n + 1 => (im_ne (M := toN A j i n) (fun z => absurd z.1 (by decide))).trans (to_9 n)
/-- the mails of the ticket that takes over -/
theorem to_list {A : Mem} {i j : Nat} (hn : ∀ y, y < mN A 2 → mT A 2 0 y = nI y) (h80 : mN A 2 ≤ 80) (hi : ∀ y, y ∈ mL A 8 i → y < mN A 2) (hj : ∀ y, y ∈ mL A 8 j → y < mN A 2) (dis : ∀ y, y ∈ mL A 8 i → y ∉ mL A 8 j) (si : (mL A 8 i).Pairwise (fun a b => a < b)) (sj : (mL A 8 j).Pairwise (fun a b => a < b)) :
    ∀ n, n ≤ (mL A 8 i).length → (mL (toN A j i n) 8 j).Pairwise (fun a b => a < b) ∧ ∀ y, y ∈ mL (toN A j i n) 8 j ↔ (y ∈ mL A 8 j ∨ ∃ m, m < n ∧ (mL A 8 i).getD m 0 = y)
  | 0, _ => ⟨sj, fun y => ⟨fun z => Or.inl z, fun z => by rcases z with z | ⟨m, hm, _⟩; exact z; exact absurd hm (Nat.not_lt_zero _)⟩⟩
  | n + 1, h => by
    obtain ⟨s, mem⟩ := to_list hn h80 hi hj dis si sj n (by omega)
    have hx := getD_mem (l := mL A 8 i) (j := n) (by omega)
    have hx2 := hi _ hx
    have hb : ∀ y, y ∈ mL (toN A j i n) 8 j → y < mN A 2 := fun y hy => by
      rcases (mem y).mp hy with z | ⟨m, hm, e⟩
      · exact hj y z
      · rw [← e]; exact hi _ (getD_mem (by omega))
    have ho : (mL A 8 i).getD n 0 ∉ mL (toN A j i n) 8 j := fun z => by
      rcases (mem _).mp z with y | ⟨m, hm, e⟩
      · exact dis _ hx y
      · have := srt_iff.mpr si m n hm (by omega)
        omega
    show (mL (imM (toN A j i n) j ((mL A 8 i).getD n 0)) 8 j).Pairwise _ ∧ ∀ y, y ∈ mL (imM (toN A j i n) j ((mL A 8 i).getD n 0)) 8 j ↔ _
    refine ⟨?_, fun y => ?_⟩
    · rw [im_L]
      exact im_sorted (fun y hy => ⟨by rw [mT_to]; exact hn y (hb y hy), by have := hb y hy; omega⟩) ⟨by rw [mT_to]; exact hn _ hx2, by omega⟩ ho s
    · rw [(im_perm (M := toN A j i n) (i := j) (x := (mL A 8 i).getD n 0)).mem_iff, List.mem_cons, mem y]
      constructor
      · rintro (z | z | ⟨m, hm, e⟩)
        · exact Or.inr ⟨n, by omega, z.symm⟩
        · exact Or.inl z
        · exact Or.inr ⟨m, by omega, e⟩
      · rintro (z | ⟨m, hm, e⟩)
        · exact Or.inr (Or.inl z)
        · by_cases q : m = n
          · rw [q] at e
            exact Or.inl e.symm
          · exact Or.inr (Or.inr ⟨m, by omega, e⟩)
theorem co_mg {A T : Mem} {i j : Nat} (hij : i ≠ j) : ∀ n, (∀ k, k < n → tkM T k = if tkM A k = i then j else tkM A k) → coN T j n = (coN A j n + coN A i n) ∧ coN T i n = 0 ∧ ∀ u, u ≠ i → u ≠ j → coN T u n = coN A u n
  | 0, _ => ⟨rfl, rfl, fun _ _ _ => rfl⟩
  | n + 1, h => by
    obtain ⟨h1, h2, h3⟩ := co_mg hij n (fun k hk => h k (by omega))
    have hn := h n (by omega)
    have sT' : ∀ u, coN T u (n + 1) = (coN T u n + if tkM T n = u then 1 else 0) := fun u => rfl
    have sA : ∀ u, coN A u (n + 1) = (coN A u n + if tkM A n = u then 1 else 0) := fun u => rfl
    rw [sT', sT', sA, sA, h1, h2]
    by_cases c : tkM A n = i
    · rw [if_pos c] at hn
      refine ⟨?_, ?_, fun u a b => ?_⟩
      · rw [hn, c, if_pos (rfl : j = j), if_neg hij, if_pos (rfl : i = i), Int32.add_zero, Int32.add_assoc]
      · rw [hn, if_neg (fun z => hij z.symm)]; rfl
      · rw [sT', sA, hn, c, h3 u a b, if_neg (fun z => b z.symm), if_neg (fun z => a z.symm)]
    · rw [if_neg c] at hn
      refine ⟨?_, ?_, fun u a b => ?_⟩
      · rw [hn, if_neg c, Int32.add_zero, Int32.add_assoc, Int32.add_assoc, Int32.add_comm (coN A i n)]
      · rw [hn, if_neg c]; rfl
      · rw [sT', sA, hn, h3 u a b]
theorem wo_mg {A T : Mem} {i j : Nat} (hij : i ≠ j) (e : ∀ k, mT T 23 k 0 = mT A 23 k 0) : ∀ n, (∀ k, k < n → tkM T k = if tkM A k = i then j else tkM A k) → woN T T j n = (woN A A j n ||| woN A A i n) ∧ woN T T i n = 0 ∧ ∀ u, u ≠ i → u ≠ j → woN T T u n = woN A A u n
  | 0, _ => ⟨by show (0 : Int32) = 0 ||| 0; decide, rfl, fun _ _ _ => rfl⟩
  | n + 1, h => by
    obtain ⟨h1, h2, h3⟩ := wo_mg hij e n (fun k hk => h k (by omega))
    have hn := h n (by omega)
    have sT' : ∀ u, woN T T u (n + 1) = (woN T T u n ||| if tkM T n = u then mT T 23 n 0 else 0) := fun u => rfl
    have sA : ∀ u, woN A A u (n + 1) = (woN A A u n ||| if tkM A n = u then mT A 23 n 0 else 0) := fun u => rfl
    rw [sT', sT', sA, sA, h1, h2]
    by_cases c : tkM A n = i
    · rw [if_pos c] at hn
      refine ⟨?_, ?_, fun u a b => ?_⟩
      · rw [hn, c, if_pos (rfl : j = j), if_neg hij, if_pos (rfl : i = i), Int32.or_zero, Int32.or_assoc, e]
      · rw [hn, if_neg (fun z => hij z.symm)]; rfl
      · rw [sT', sA, hn, c, h3 u a b, if_neg (fun z => b z.symm), if_neg (fun z => a z.symm)]
    · rw [if_neg c] at hn
      refine ⟨?_, ?_, fun u a b => ?_⟩
      · rw [hn, if_neg c, Int32.or_zero, Int32.or_assoc, Int32.or_assoc, Int32.or_comm (woN A A i n), e]
      · rw [hn, if_neg c]; rfl
      · rw [sT', sA, hn, h3 u a b, e]
