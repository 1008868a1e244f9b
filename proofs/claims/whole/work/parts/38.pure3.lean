/-! the lines put in order anew -/
abbrev srt (M : Mem) (l : List Nat) : Prop := l.Pairwise (fun x y => befM M x y = true)
theorem insPos_congr {M M' : Mem} {l : List Nat} {t : Nat} (h : ∀ a b, befM M' a b = befM M a b) : ∀ e, insPos M' l t e = insPos M l t e
  | 0 => rfl
  | e + 1 => by unfold insPos; rw [h, insPos_congr h e]
theorem insPos_app {M : Mem} {A B : List Nat} {t : Nat} : ∀ e, e ≤ A.length → insPos M (A ++ B) t e = insPos M A t e
  | 0, _ => rfl
  | e + 1, h => by
    unfold insPos
    rw [insPos_app e (by omega), List.getD_eq_getElem?_getD, List.getD_eq_getElem?_getD, List.getElem?_append_left (by omega)]
theorem insL_app {A B : List Nat} {p x : Nat} (h : p ≤ A.length) : insL (A ++ B) p x = insL A p x ++ B := by
  unfold insL
  rw [List.take_append_of_le_length h, List.drop_append_of_le_length h, List.append_assoc, List.cons_append]
theorem ers_app {l : List Nat} {j : Nat} : l.eraseIdx j = l.take j ++ l.drop (j + 1) := List.eraseIdx_eq_take_drop_succ l j
theorem oaS_mL {M : Mem} {q j : Nat} : mL (oaS M q j) 9 q = insL ((mL M 9 q).eraseIdx j) (insPos M ((mL M 9 q).eraseIdx j) ((mL M 9 q).getD j 0) j) ((mL M 9 q).getD j 0) := by
  unfold oaS qinsM
  rw [mL_sC, mL_sL, if_pos ⟨rfl, rfl⟩, mL_sC, mL_sL, if_pos ⟨rfl, rfl⟩, insPos_congr (M := M) (M' := sC (sL M 9 q ((mL M 9 q).eraseIdx j)) 9 q 1) (fun a b => rfl)]
theorem oaS_ne {M : Mem} {q j k i : Nat} (h : ¬ (k = 9 ∧ i = q)) : mL (oaS M q j) k i = mL M k i := by
  unfold oaS
  rw [qins_ne h, mL_sC, mL_sL, if_neg h]
theorem oaS_bef {M : Mem} {q j a b : Nat} : befM (oaS M q j) a b = befM M a b := rfl
theorem oaS_sorted {M : Mem} {q j : Nat} (tot : ∀ x y, x ∈ mL M 9 q → y ∈ mL M 9 q → x ≠ y → ¬ befM M y x = true → befM M x y = true) (nd : (mL M 9 q).Nodup) (hj : j < (mL M 9 q).length) (h : srt M ((mL M 9 q).take j)) : srt M ((mL (oaS M q j) 9 q).take (j + 1)) := by
  rw [oaS_mL]
  have hx0 : (mL M 9 q).getD j 0 = (mL M 9 q)[j] := by rw [List.getD_eq_getElem?_getD, List.getElem?_eq_getElem hj]; rfl
  rw [ers_app, hx0]
  have hA : ((mL M 9 q).take j).length = j := by rw [List.length_take]; omega
  have hmA : ∀ x, x ∈ (mL M 9 q).take j → x ∈ mL M 9 q ∧ x ≠ (mL M 9 q)[j] := by
    intro x hx
    obtain ⟨i, hi, e⟩ := List.getElem_of_mem hx
    rw [List.getElem_take] at e
    refine ⟨List.mem_of_mem_take hx, fun z => ?_⟩
    rw [z] at e
    have hi' : i < j := by omega
    have := (List.pairwise_iff_getElem.mp nd) i j (by omega) hj hi'
    exact this e
  have hxm : (mL M 9 q)[j] ∈ mL M 9 q := List.getElem_mem hj
  generalize (mL M 9 q)[j] = x at *
  generalize (mL M 9 q).take j = A at *
  generalize (mL M 9 q).drop (j + 1) = B at *
  have hp : insPos M A x j ≤ j := insPos_le j
  rw [insPos_app j (by omega), insL_app (by omega), List.take_append_of_le_length (by rw [insL_len]; omega), List.take_of_length_le (by rw [insL_len]; omega)]
  have := ins_sorted (M := M) (l := A) (t := x) (fun y hy hb => tot y x (hmA y hy).1 hxm (hmA y hy).2 hb) h
  rw [hA] at this
  exact this
theorem oaN_bef {M : Mem} {q a b : Nat} : ∀ n, befM (oaN M q n) a b = befM M a b
  | 0 => rfl
  | n + 1 => (oaS_bef (M := oaN M q n) (q := q) (j := n + 1)).trans (oaN_bef n)
theorem oaN_ne {M : Mem} {q k i : Nat} (h : ¬ (k = 9 ∧ i = q)) : ∀ n, mL (oaN M q n) k i = mL M k i
  | 0 => rfl
  | n + 1 => (oaS_ne (M := oaN M q n) h).trans (oaN_ne h n)
theorem oaN_sorted {M : Mem} {q : Nat} (w : Wf M) (hq : q < 6) (tot : ∀ x y, x ∈ mL M 9 q → y ∈ mL M 9 q → x ≠ y → ¬ befM M y x = true → befM M x y = true) : ∀ n, n ≤ (mL M 9 q).length - 1 → srt M ((mL (oaN M q n) 9 q).take (n + 1))
  | 0, _ => by
    show srt M ((mL M 9 q).take 1)
    cases mL M 9 q with
    | nil => exact List.Pairwise.nil
    | cons a l => exact List.pairwise_singleton _ _
  | n + 1, h => by
    have ih := oaN_sorted w hq tot n (by omega)
    obtain ⟨w1, hp⟩ := wf_oaN w hq n (by omega)
    have hl := hp.length_eq
    have e : ∀ l, srt (oaN M q n) l ↔ srt M l := fun l => by
      unfold srt
      rw [show (fun x y => befM (oaN M q n) x y = true) = fun x y => befM M x y = true from by funext x y; rw [oaN_bef]]
    have := oaS_sorted (M := oaN M q n) (q := q) (j := n + 1) (fun x y hx hy hne hb => by rw [oaN_bef] at *; exact tot x y (hp.mem_iff.mp hx) (hp.mem_iff.mp hy) hne hb) (w1.2.2.2.2.2.2 q hq) (by omega) ((e _).mpr ih)
    exact (e _).mp this
theorem oaM_sorted {M : Mem} {q : Nat} (w : Wf M) (hq : q < 6) (tot : ∀ x y, x ∈ mL M 9 q → y ∈ mL M 9 q → x ≠ y → ¬ befM M y x = true → befM M x y = true) : srt M (mL (oaM M q) 9 q) ∧ (mL (oaM M q) 9 q).Perm (mL M 9 q) := by
  have h1 := oaN_sorted w hq tot _ (Nat.le_refl _)
  have h2 := (wf_oaN w hq _ (Nat.le_refl _)).2
  have hl := h2.length_eq
  rw [List.take_of_length_le (by omega)] at h1
  exact ⟨h1, h2⟩
