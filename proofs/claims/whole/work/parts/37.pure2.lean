theorem fst_nt {D : Mem} {a : Nat} (w : Wf D) (hnum : NumOk D) : ∀ n, n ≤ mN D 4 → FstOf D (fun x => x < n ∧ (waM D x && caM D a (mT D 4 4 x)) = true) (ntN D a n)
  | 0, _ => Or.inl ⟨rfl, fun x hx => absurd hx.1 (Nat.not_lt_zero _)⟩
  | n + 1, hn => by
    have ih := fst_nt (a := a) w hnum n (by omega)
    unfold ntN
    by_cases hc : (waM D n && caM D a (mT D 4 4 n)) = true
    · rw [if_pos hc]
      have h1 := fst_ear (D := D) (Q := fun x => x = n) (o' := some n) (fun x y hx hy hne hb => bef_tot w hnum (by omega) (by omega) (fun z => hne z.symm) hb) (fun x hx hy => by omega) ih (Or.inr ⟨n, rfl, rfl, fun x hx hne => absurd hx hne⟩)
      have e : (fun x => (x < n ∧ (waM D x && caM D a (mT D 4 4 x)) = true) ∨ x = n) = fun x => x < n + 1 ∧ (waM D x && caM D a (mT D 4 4 x)) = true := by
        funext x
        refine propext ⟨fun z => ?_, fun z => ?_⟩
        · rcases z with ⟨h1, h2⟩ | rfl
          · exact ⟨by omega, h2⟩
          · exact ⟨by omega, hc⟩
        · by_cases eq : x = n
          · exact Or.inr eq
          · exact Or.inl ⟨by omega, z.2⟩
      rw [← e]
      exact h1
    · rw [if_neg hc]
      have e : (fun x => x < n ∧ (waM D x && caM D a (mT D 4 4 x)) = true) = fun x => x < n + 1 ∧ (waM D x && caM D a (mT D 4 4 x)) = true := by
        funext x
        refine propext ⟨fun z => ⟨by omega, z.2⟩, fun z => ?_⟩
        by_cases eq : x = n
        · subst eq; exact absurd z.2 hc
        · exact ⟨by omega, z.2⟩
      rw [← e]
      exact ih
/-- the head of the lines is the first of the tickets -/
theorem nq_nt {D : Mem} {a : Nat} (w : Wf D) (hnum : NumOk D) (h : QI D) : nqN D a 6 = ntN D a (mN D 4) := by
  refine fst_one (fst_nq w hnum h 6 (Nat.le_refl _)) ?_
  have e : (fun x => ∃ q, q < 6 ∧ caM D a (nI q) = true ∧ x ∈ mL D 9 q) = fun x => x < mN D 4 ∧ (waM D x && caM D a (mT D 4 4 x)) = true := by
    funext x
    refine propext ⟨fun z => ?_, fun z => ?_⟩
    · obtain ⟨q, h1, h2, h3⟩ := z
      obtain ⟨k1, k2, k3⟩ := ((h q h1).1 x).mp h3
      refine ⟨k1, ?_⟩
      rw [(w.2.2.1 x k1).2.2.1, k3, k2, h2]
      rfl
    · obtain ⟨k1, k2⟩ := z
      rw [Bool.and_eq_true] at k2
      have h1 := w.2.2.1 x k1
      refine ⟨toM D x, h1.2.2.2.1, ?_, ((h _ h1.2.2.2.1).1 x).mpr ⟨k1, k2.1, rfl⟩⟩
      rw [← h1.2.2.1]
      exact k2.2
  rw [e]
  exact fst_nt w hnum _ (Nat.le_refl _)
theorem nq_mn {D : Mem} {a : Nat} (w : Wf D) (hnum : NumOk D) (h : QI D) : nqN D a 6 = mnN D a (mN D 4) := (nq_nt w hnum h).trans (mn_nt w hnum _ (Nat.le_refl _)).symm
/-! a ticket comes into a line -/
theorem insPos_up {M : Mem} {l : List Nat} {t : Nat} : ∀ e j, insPos M l t e ≤ j → j < e → befM M t (l.getD j 0) = true
  | 0, j, _, h => absurd h (Nat.not_lt_zero _)
  | e + 1, j, h1, h2 => by
    unfold insPos at h1
    split at h1
    · rename_i hb
      by_cases q : j = e
      · rw [q]; exact hb
      · exact insPos_up e j h1 (by omega)
    · omega
theorem insPos_dn {M : Mem} {l : List Nat} {t : Nat} : ∀ e, insPos M l t e = 0 ∨ ∃ p, insPos M l t e = p + 1 ∧ ¬ befM M t (l.getD p 0) = true
  | 0 => Or.inl rfl
  | e + 1 => by
    unfold insPos
    split
    · exact insPos_dn e
    · rename_i hb; exact Or.inr ⟨e, rfl, hb⟩
theorem ins_sorted {M : Mem} {l : List Nat} {t : Nat} (tot : ∀ x, x ∈ l → ¬ befM M t x = true → befM M x t = true) (h : l.Pairwise (fun x y => befM M x y = true)) : (insL l (insPos M l t l.length) t).Pairwise (fun x y => befM M x y = true) := by
  have hp := insPos_le (M := M) (l := l) (t := t) l.length
  have hup := insPos_up (M := M) (l := l) (t := t) l.length
  have hdn := insPos_dn (M := M) (l := l) (t := t) l.length
  generalize insPos M l t l.length = p at *
  have h0 : (l.take p ++ l.drop p).Pairwise (fun x y => befM M x y = true) := by rw [List.take_append_drop]; exact h
  obtain ⟨h1, h2, h3⟩ := List.pairwise_append.mp h0
  refine List.pairwise_append.mpr ⟨h1, List.pairwise_cons.mpr ⟨fun x hx => ?_, h2⟩, fun x hx y hy => ?_⟩
  · obtain ⟨j, hj, e⟩ := List.getElem_of_mem hx
    rw [List.getElem_drop] at e
    rw [List.length_drop] at hj
    have := hup (p + j) (by omega) (by omega)
    rw [List.getD_eq_getElem?_getD, List.getElem?_eq_getElem (by omega)] at this
    rw [← e]
    exact this
  · rcases List.mem_cons.mp hy with rfl | hy
    · rcases hdn with hz | ⟨r, hr, hb⟩
      · rw [hz] at hx; exact nomatch hx
      · have hrl : r < l.length := by omega
        rw [List.getD_eq_getElem?_getD, List.getElem?_eq_getElem hrl] at hb
        have hl := tot _ (List.getElem_mem hrl) hb
        obtain ⟨j, hj, e⟩ := List.getElem_of_mem hx
        rw [List.getElem_take] at e
        rw [List.length_take] at hj
        rw [← e]
        by_cases q : j = r
        · subst q; exact hl
        · exact bef_trans (List.pairwise_iff_getElem.mp h j r (by omega) hrl (by omega)) hl
    · exact h3 x hx y hy
