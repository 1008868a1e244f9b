/-- a pointer of ticket i changes -/
theorem SmX_sP {D : Mem} {i j : Nat} {v : Option Nat} : SmX D (sP D 4 j i v) i := by
  have e : ∀ k b x, x ≠ i → mP (sP D 4 j i v) k b x = mP D k b x := fun k b x hx => u3_ne (fun z => hx z.2.2)
  have hc : ∀ x, x ≠ i → cuM (sP D 4 j i v) x = cuM D x := fun x hx => by unfold cuM; rw [e 4 1 x hx]
  have hl : ∀ x, x ≠ i → leftM (sP D 4 j i v) x = leftM D x := fun x hx => by
    unfold leftM lvM
    rw [hc x hx]
    rfl
  have he : ∀ x, x ≠ i → leM (sP D 4 j i v) x = leM D x := fun x hx => by
    unfold leM
    rw [hc x hx]
    rfl
  refine ⟨rfl, fun q _ => rfl, fun x hx => ⟨?_, rfl⟩, fun x y hx hy => ?_⟩
  · unfold waM stM
    rw [e 4 9 x hx]
    rfl
  · unfold befM
    rw [hl x hx, hl y hy, he x hx, he y hy]
    rfl
/-- a number of an agent, or of the desk, changes -/
theorem SmX_o {D : Mem} {i k j u : Nat} {v : Int32} (h : k = 0 ∨ k = 6 ∨ k = 14) : SmX D (sT D k j u v) i := by
  have e : ∀ a b x, a ≠ k → mT (sT D k j u v) a b x = mT D a b x := fun a b x hx => u3_ne (fun z => hx z.1)
  have hl : ∀ x, leftM (sT D k j u v) x = leftM D x := fun x => by
    unfold leftM lvM cuM
    rw [e 4 7 x (by omega), e 15 _ _ (by omega), e 1 _ _ (by omega)]
    rfl
  have he : ∀ x, leM (sT D k j u v) x = leM D x := fun x => by
    unfold leM cuM
    rw [e 1 _ _ (by omega)]
    rfl
  refine ⟨rfl, fun q _ => rfl, fun x hx => ⟨?_, ?_⟩, fun x y hx hy => ?_⟩
  · unfold waM stM
    rw [e 4 6 x (by omega)]
    rfl
  · unfold toM
    rw [e 4 4 x (by omega)]
  · unfold befM
    rw [hl x, hl y, he, he, e 4 0 x (by omega), e 4 0 y (by omega)]
theorem wa_st {D : Mem} {i : Nat} {v : Int32} (h : v ≠ 111) : waM (sT D 4 6 i v) i = false := by
  unfold waM stM
  rw [mT_sT, if_pos ⟨rfl, rfl, rfl⟩, decide_eq_false h]
  rfl
/-- hold -/
theorem QI_hold {D : Mem} {i : Nat} (w : Wf D) (h : QI D) (hi : i < mN D 4) : QI (sT (lqM D i) 4 6 i 104) :=
  QI_of (QX_sm (QX_lq w h hi) SmX_sT) (wa_st (by decide))
/-- resume -/
theorem QI_resume {D : Mem} {i : Nat} (w : Wf D) (hnum : NumOk D) (h : QI D) (hi : i < mN D 4) (hs : mT D 4 6 i = 104) : QI (jqM (sT D 4 6 i 111) i) :=
  QI_jq (wf_st w) (by exact hnum) (QX_sm (QX_of h (by unfold waM stM; rw [hs]; rfl)) SmX_sT) hi
theorem QX_leave {D : Mem} {i : Nat} (h : QX D i) : QX (leaveM D i) i := by
  unfold leaveM
  split
  · exact QX_sm h SmX_sP
  · exact QX_sm (QX_sm h (SmX_o (Or.inl rfl))) SmX_sP
/-- take: the ticket leaves its line -/
theorem QI_take {D : Mem} {t a : Nat} (w : Wf D) (h : QI D) (ht : t < mN D 4) : QI (takeM D a t) := by
  unfold takeM joinM
  refine QI_of (QX_sm (QX_sm (QX_lq w h ht) SmX_sP) (SmX_o (Or.inl rfl))) ?_
  unfold waM stM
  show (_ && (mP (sP (lqM D t) 4 9 t (some a)) 4 9 t).isNone) = false
  rw [mP_sP, if_pos ⟨rfl, rfl, rfl⟩]
  exact Bool.and_false _
/-- giveBack -/
theorem QI_gbk {D : Mem} {i : Nat} (w : Wf D) (hnum : NumOk D) (h : QI D) (hi : i < mN D 4) (hp : mP D 4 9 i ≠ none) : QI (gbkM D i) := by
  have hw : waM D i = false := by
    unfold waM
    cases e : mP D 4 9 i with
    | none => exact absurd e hp
    | some a => exact Bool.and_false _
  have hn : NumOk (leaveM D i) := by
    unfold NumOk
    rw [mN_leave]
    exact ⟨fun x hx => by rw [mT_leave (by decide)]; exact hnum.1 x hx, fun x hx => by rw [mT_leave (by decide)]; exact hnum.2.1 x hx, fun x hx => by rw [mT_leave (by decide)]; exact hnum.2.2 x hx⟩
  exact QI_jq (wf_leave w) hn (QX_leave (QX_of h hw)) (by rw [mN_leave]; exact hi)
