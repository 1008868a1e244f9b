theorem oaN_T {M : Mem} {q : Nat} : ∀ n, mT (oaN M q n) = mT M ∧ mP (oaN M q n) = mP M ∧ mN (oaN M q n) = mN M ∧ mJ (oaN M q n) = mJ M
  | 0 => ⟨rfl, rfl, rfl, rfl⟩
  | n + 1 => by
    obtain ⟨h1, h2, h3, h4⟩ := oaN_T (M := M) (q := q) n
    exact ⟨h1, h2, h3, h4⟩
theorem oq_T {M : Mem} : ∀ n, mT (oqN M n) = mT M ∧ mP (oqN M n) = mP M ∧ mN (oqN M n) = mN M ∧ mJ (oqN M n) = mJ M
  | 0 => ⟨rfl, rfl, rfl, rfl⟩
  | n + 1 => by
    obtain ⟨h1, h2, h3, h4⟩ := oq_T (M := M) n
    obtain ⟨k1, k2, k3, k4⟩ := oaN_T (M := oqN M n) (q := n) ((mL (oqN M n) 9 n).length - 1)
    exact ⟨k1.trans h1, k2.trans h2, k3.trans h3, k4.trans h4⟩
theorem bef_T {A B : Mem} (h1 : mT A = mT B) (h2 : mP A = mP B) (a b : Nat) : befM A a b = befM B a b := by
  unfold befM leftM leM lvM cuM
  rw [h1, h2]
theorem oq_lines {M : Mem} (w : Wf M) (hnum : NumOk M) : ∀ n, n ≤ 6 → (∀ q, q < n → srt M (mL (oqN M n) 9 q)) ∧ ∀ q, q < 6 → (mL (oqN M n) 9 q).Perm (mL M 9 q)
  | 0, _ => ⟨fun q h => absurd h (Nat.not_lt_zero _), fun q _ => List.Perm.refl _⟩
  | n + 1, h => by
    obtain ⟨i1, i2⟩ := oq_lines w hnum n (by omega)
    obtain ⟨h1, h2, h3, h4⟩ := oq_T (M := M) n
    have w1 := wf_oq w n (by omega)
    have hb : ∀ a b, befM (oqN M n) a b = befM M a b := bef_T h1 h2
    have num1 : NumOk (oqN M n) := by unfold NumOk; rw [h1, h3]; exact hnum
    have s := oaM_sorted w1 (show n < 6 by omega) (fun x y hx hy hne hbb => bef_tot w1 num1 (w1.2.2.2.2.2.1 n (by omega) y hy) (w1.2.2.2.2.2.1 n (by omega) x hx) (fun z => hne z.symm) hbb)
    have e : srt (oqN M n) = srt M := by
      funext l
      unfold srt
      rw [show (fun x y => befM (oqN M n) x y = true) = fun x y => befM M x y = true from by funext x y; rw [hb]]
    have hne : ∀ q, q ≠ n → mL (oqN M (n + 1)) 9 q = mL (oqN M n) 9 q := fun q hq => oaN_ne (M := oqN M n) (fun z => hq z.2) _
    refine ⟨fun q hq => ?_, fun q hq => ?_⟩
    · by_cases c : q = n
      · subst c
        have := s.1
        rw [e] at this
        exact this
      · rw [hne q c]; exact i1 q (by omega)
    · by_cases c : q = n
      · subst c; exact s.2.trans (i2 q hq)
      · rw [hne q c]; exact i2 q hq
/-- put in order anew, the lines are as they are to be -/
theorem QI_oq {M : Mem} (w : Wf M) (hnum : NumOk M) (h : ∀ q, q < 6 → ∀ x, x ∈ mL M 9 q ↔ x < mN M 4 ∧ waM M x = true ∧ toM M x = q) : QI (oqN M 6) := by
  intro q hq
  obtain ⟨i1, i2⟩ := oq_lines w hnum 6 (Nat.le_refl _)
  obtain ⟨h1, h2, h3, h4⟩ := oq_T (M := M) 6
  refine ⟨fun x => ?_, ?_⟩
  · rw [(i2 q hq).mem_iff, h q hq x]
    unfold waM stM toM
    rw [h1, h2, h3]
  · have hb : ∀ a b, befM (oqN M 6) a b = befM M a b := bef_T h1 h2
    rw [show (fun x y => befM (oqN M 6) x y = true) = fun x y => befM M x y = true from by funext x y; rw [hb]]
    exact i1 q hq
