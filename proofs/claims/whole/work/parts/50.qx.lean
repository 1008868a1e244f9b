/-- the lines, but for the ticket i -/
def QX (D : Mem) (i : Nat) : Prop := ∀ q, q < 6 → (∀ x, x ∈ mL D 9 q ↔ x < mN D 4 ∧ waM D x = true ∧ toM D x = q ∧ x ≠ i) ∧ srt D (mL D 9 q)
theorem srt_T {A B : Mem} (h1 : mT A = mT B) (h2 : mP A = mP B) : srt A = srt B := by
  funext l
  unfold srt
  rw [show (fun x y => befM A x y = true) = fun x y => befM B x y = true from by funext x y; rw [bef_T h1 h2]]
theorem QX_lq {D : Mem} {i : Nat} (w : Wf D) (h : QI D) (hi : i < mN D 4) : QX (lqM D i) i := by
  intro q hq
  obtain ⟨h1, h2⟩ := h q hq
  have hw : ∀ x, waM (lqM D i) x = waM D x := fun x => by unfold waM stM; rw [mT_lq, mP_lq]
  have ht : ∀ x, toM (lqM D i) x = toM D x := fun x => by unfold toM; rw [mT_lq]
  rw [srt_T mT_lq mP_lq, mN_lq]
  by_cases c : q = toM D i
  · have e : mL (lqM D i) 9 q = (mL D 9 q).erase i := by rw [c]; exact qrem_q
    rw [e]
    refine ⟨fun x => ?_, List.Pairwise.sublist List.erase_sublist h2⟩
    rw [(w.2.2.2.2.2.2 q hq).mem_erase_iff, h1 x, hw, ht]
    exact ⟨fun z => ⟨z.2.1, z.2.2.1, z.2.2.2, z.1⟩, fun z => ⟨z.2.2.2, z.1, z.2.1, z.2.2.1⟩⟩
  · have e : mL (lqM D i) 9 q = mL D 9 q := qrem_ne (fun z => c z.2)
    rw [e]
    refine ⟨fun x => ?_, h2⟩
    rw [h1 x, hw, ht]
    exact ⟨fun z => ⟨z.1, z.2.1, z.2.2, fun k => c (by rw [← z.2.2, k])⟩, fun z => ⟨z.1, z.2.1, z.2.2.1⟩⟩
theorem QI_jq {D : Mem} {i : Nat} (w : Wf D) (hnum : NumOk D) (h : QX D i) (hi : i < mN D 4) : QI (jqM D i) := by
  intro q hq
  obtain ⟨h1, h2⟩ := h q hq
  by_cases c : waM D i = true
  · have ej : jqM D i = qinsM D (toM D i) (mL D 9 (toM D i)).length i := by unfold jqM; rw [if_pos c]
    rw [ej]
    show (∀ x, x ∈ mL (qinsM D (toM D i) (mL D 9 (toM D i)).length i) 9 q ↔ x < mN D 4 ∧ waM D x = true ∧ toM D x = q) ∧ srt D (mL (qinsM D (toM D i) (mL D 9 (toM D i)).length i) 9 q)
    by_cases e : q = toM D i
    · subst e
      refine ⟨fun x => ?_, ?_⟩
      · rw [qins_perm.mem_iff, List.mem_cons, h1 x]
        refine ⟨fun z => ?_, fun z => ?_⟩
        · rcases z with rfl | z
          · exact ⟨hi, c, rfl⟩
          · exact ⟨z.1, z.2.1, z.2.2.1⟩
        · by_cases k : x = i
          · exact Or.inl k
          · exact Or.inr ⟨z.1, z.2.1, z.2.2, k⟩
      · show srt D (mL (sC (sL D 9 (toM D i) _) 9 (toM D i) 0) 9 (toM D i))
        rw [mL_sC, mL_sL, if_pos ⟨rfl, rfl⟩]
        refine ins_sorted (fun x hx hb => ?_) h2
        have k := (h1 x).mp hx
        exact bef_tot w hnum hi k.1 (fun z => k.2.2.2 z.symm) hb
    · rw [qins_ne (fun z => e z.2)]
      refine ⟨fun x => ?_, h2⟩
      rw [h1 x]
      exact ⟨fun z => ⟨z.1, z.2.1, z.2.2.1⟩, fun z => ⟨z.1, z.2.1, z.2.2, fun k => e (by rw [← z.2.2, k])⟩⟩
  · have ej : jqM D i = D := by unfold jqM; rw [if_neg c]
    rw [ej]
    refine ⟨fun x => ?_, h2⟩
    rw [h1 x]
    exact ⟨fun z => ⟨z.1, z.2.1, z.2.2.1⟩, fun z => ⟨z.1, z.2.1, z.2.2, fun k => c (by rw [← k]; exact z.2.1)⟩⟩
