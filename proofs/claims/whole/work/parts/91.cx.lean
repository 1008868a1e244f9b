/-! the start: what the Statement and the tables say of the machine, as the context of all contracts -/
theorem arr_known {s : State} {args : Array Value} {t : FieldType} (h : (Cond.arrayClass t).before args s = true) : ∃ c : ClassId, ArrOfT s c t ∧ s.vm.findClass ("[" ++ t.toString) = some c := by
  obtain ⟨c, k, comp, h1, h2, h3⟩ := Cond.arrayClass_spec h
  exact ⟨c, fun n z => ⟨fun j e => (nomatch (show VmData.none = .statics j from e)), k, h2, comp, h3⟩, h1⟩
theorem arq_known {s : State} {args : Array Value} {C : String} (h : (Cond.arrayOver (.object C)).before args s = true) : ∃ c : ClassId, ArrOfT s c (.object C) ∧ va_RA s c (.object C) := by
  obtain ⟨comp, c, k, h1, h2, h3, h4, h5⟩ := Cond.arrayOver_spec h
  exact ⟨c, fun n z => ⟨fun j e => (nomatch (show VmData.none = .statics j from e)), k, h3, comp, h4⟩, k, comp, h3, h4, h1, h5⟩
theorem strX_ix : strX.map (fun q => q.2.2.2) = List.range 32 := rfl
theorem nst_tab {w : Cond} (h : w ∈ lw_nst) : w.onTables = true ∧ w ∈ lw_tbl := by
  obtain ⟨h1, h2⟩ := List.mem_filter.mp h
  refine ⟨?_, List.mem_append_right _ h1⟩
  cases w <;> first | rfl | cases h2
theorem strX_ex : ∀ q ∈ strX, Cond.exactly (Term.string q.1 q.2.1) "java/lang/String" ∈ flatC (Jvm.Cond.and given_1 narrow_1) := by decide +kernel
theorem strX_rf : ∀ q ∈ strX, Cond.stringRef q.1 q.2.1 q.2.2.1 ∈ tables_1 := by decide +kernel
theorem ncX_in : ∀ q ∈ ncX, Cond.not (.castable q.1 q.2) ∈ flatC (Jvm.Cond.and given_1 narrow_1) := by decide +kernel
theorem arr_w : Cond.arrayClass .int ∈ lw_tbl ∧ Cond.arrayClass .char ∈ lw_tbl ∧ Cond.arrayClass .boolean ∈ lw_tbl ∧ Cond.arrayClass .long ∈ lw_tbl ∧ Cond.arrayClass .double ∈ lw_tbl := by decide +kernel
theorem arq_w : Cond.arrayOver (.object "java/lang/Object") ∈ lw_tbl ∧ Cond.arrayOver (.object "TicketWeaver$Customer") ∈ lw_tbl ∧ Cond.arrayOver (.object "TicketWeaver$TopicQueue") ∈ lw_tbl := by decide +kernel
theorem sta_w : Cond.laysStatic Bundle.tN "UNASSIGNED_STACK" Bundle.steD ∈ lw_tbl ∧ Cond.laysStatic Bundle.tN "SUPPRESSED_SENTINEL" Bundle.listD ∈ lw_tbl ∧ Cond.laysStatic "java/util/ArrayList" "DEFAULTCAPACITY_EMPTY_ELEMENTDATA" "[Ljava/lang/Object;" ∈ lw_tbl ∧ Cond.initialized Bundle.tN ∈ lw_tbl ∧ Cond.initialized "java/util/ArrayList" ∈ lw_tbl := by decide +kernel
theorem sta_n : Cond.isRef (.static Bundle.tN "UNASSIGNED_STACK" Bundle.steD) ∈ flatC (Jvm.Cond.and given_1 narrow_1) ∧ Cond.isRef (.static Bundle.tN "SUPPRESSED_SENTINEL" Bundle.listD) ∈ flatC (Jvm.Cond.and given_1 narrow_1) ∧ Cond.exactly (.static "java/util/ArrayList" "DEFAULTCAPACITY_EMPTY_ELEMENTDATA" "[Ljava/lang/Object;") "[Ljava/lang/Object;" ∈ flatC (Jvm.Cond.and given_1 narrow_1) ∧
    Cond.eq (.length (.static "java/util/ArrayList" "DEFAULTCAPACITY_EMPTY_ELEMENTDATA" "[Ljava/lang/Object;")) (.int 0) ∈ flatC (Jvm.Cond.and given_1 narrow_1) ∧ Cond.isRef (.mirror "[Ljava/lang/Object;") ∈ flatC (Jvm.Cond.and given_1 narrow_1) := by decide +kernel
theorem cls_known {s : State} {args : Array Value} (hts : ∀ w ∈ lw_good, w.before args s = true) : ∀ (k : Nat) (q : vw_C), clX[k]? = some q → ∃ (cC : ClassId) (iS : Nat → Nat), u_Kn s q.1 q.2.1 q.2.2 cC iS := by
  intro k q hq
  match k, hq with
  | 0, hq => cases hq; exact u_known hts clo_0.2.2.1 (hts _ t_990)
  | 1, hq => cases hq; exact u_known hts clo_1.2.2.1 (hts _ t_45)
  | 2, hq => cases hq; exact u_known hts clo_2.2.2.1 (hts _ t_839)
  | 3, hq => cases hq; exact u_known hts clo_3.2.2.1 (hts _ t_1206)
  | 4, hq => cases hq; exact u_known hts clo_4.2.2.1 (hts _ t_756)
  | 5, hq => cases hq; exact u_known hts clo_5.2.2.1 (hts _ t_62)
  | 6, hq => cases hq; exact u_known hts clo_6.2.2.1 (hts _ t_36)
  | 7, hq => cases hq; exact u_known hts clo_7.2.2.1 (hts _ t_1293)
  | 8, hq => cases hq; exact u_known hts (by decide +kernel) (hts _ t_68)
  | k + 9, hq => simp [clX] at hq
/-- the length of a row, out of a word -/
theorem len_zero {args : Array Value} {s : State} {t : Term} {a : Nat} {cell : Cell} (h : (Cond.eq (.length t) (.int 0)).before args s = true) (ht : t.eval args s none [] s = some (.ref a)) (hc : s.heap[a]? = some cell) : cell.slots.size = 0 ∧ cell.vm ≠ .unknown := by
  simp only [Cond.before, Cond.holds, Cond.value, Term.eval, ht, Option.bind_eq_bind, Option.bind_some] at h
  cases e : s.arrayAt? a with
  | none => simp [e] at h
  | some c2 =>
    obtain ⟨g1, g2, -, -⟩ := State.arrayAt?_spec e
    have q : c2 = cell := Option.some.inj (g1.symm.trans hc)
    subst q
    refine ⟨?_, g2⟩
    simp only [e, Option.bind_some] at h
    by_cases l : c2.slots.size < 2147483648
    · simp [l] at h
      have h3 : (Int32.ofNat c2.slots.size).toInt = (0 : Int32).toInt := congrArg Int32.toInt h
      have h4 : (nI c2.slots.size).toInt = c2.slots.size := nI_toInt (by omega)
      have h5 : ((0 : Int32).toInt) = 0 := by decide
      have h6 : (nI c2.slots.size).toInt = (0 : Int32).toInt := h3
      omega
    · simp [l] at h
theorem start_cx {s : State} {args : Array Value} (hts : ∀ w ∈ lw_tbl, w.before args s = true) (hgv : (Jvm.Cond.and given_1 narrow_1).before args s = true) : ∃ Γ : Gm, gB Γ = s.heap.size ∧ CX Γ s := by
  have hs := flat_of_before _ hgv
  have htg : ∀ w ∈ lw_good, w.before args s = true := fun w hw => hts w (lw_good_tbl w hw)
  have kc := cls_known htg
  have hD : ∀ k : Nat, ∃ d : ClassId × (Nat → Nat), ∀ q : vw_C, clX[k]? = some q → u_Kn s q.1 q.2.1 q.2.2 d.1 d.2 := fun k => by
    cases e : clX[k]? with
    | none => exact ⟨(default, fun _ => 0), fun q h => nomatch h⟩
    | some q0 =>
      obtain ⟨c, i, h⟩ := kc k q0 e
      exact ⟨(c, i), fun q h2 => by cases h2; exact h⟩
  obtain ⟨a0, b0, r0⟩ := arr_known (hts _ arr_w.1)
  obtain ⟨a1, b1, r1⟩ := arr_known (hts _ arr_w.2.1)
  obtain ⟨a2, b2, r2⟩ := arr_known (hts _ arr_w.2.2.1)
  obtain ⟨a3, b3, r3⟩ := arr_known (hts _ arr_w.2.2.2.1)
  obtain ⟨a4, b4, r4⟩ := arr_known (hts _ arr_w.2.2.2.2)
  obtain ⟨a5, b5, r5⟩ := arq_known (hts _ arq_w.1)
  obtain ⟨a6, b6, r6⟩ := arq_known (hts _ arq_w.2.1)
  obtain ⟨a7, b7, r7⟩ := arq_known (hts _ arq_w.2.2)
  obtain ⟨mi, hmi⟩ := va_Mi.of (hs _ sta_n.2.2.2.2)
  have hσ : ∀ i : Nat, ∃ a : Nat, ∀ q, strX[i]? = some q → vk_R q.1 q.2.1 q.2.2.1 a s := fun i => by
    cases e : strX[i]? with
    | none => exact ⟨0, fun q h => nomatch h⟩
    | some q0 =>
      have hm := List.mem_of_getElem? e
      obtain ⟨a, c, cell, k, h1, -⟩ := Cond.exactly_spec (hs _ (strX_ex q0 hm))
      exact ⟨a, fun q h => by cases h; exact vk_R.of (hts _ (List.mem_append_right _ (strX_rf _ hm))) h1⟩
  obtain ⟨gE0, cE, cell, kE, e1, e2, e3, e4, e5, e6, -⟩ := Cond.exactly_spec (hs _ sta_n.2.2.1)
  obtain ⟨z1, z2⟩ := len_zero (hs _ sta_n.2.2.2.1) e1 e3
  have hlt : gE0 < s.heap.size := (Array.getElem?_eq_some_iff.mp e3).1
  obtain ⟨Γ, hΓ⟩ : ∃ Γ : Gm, Γ = ((fun k => (Classical.choose (hD k)).1, fun k => (Classical.choose (hD k)).2), (fun t => match t with | 0 => a0 | 1 => a1 | 2 => a2 | 3 => a3 | 4 => a4 | 5 => a5 | 6 => a6 | _ => a7), (fun n => if n = 1000 then mi else Classical.choose (hσ n)), gE0, s.heap.size) := ⟨_, rfl⟩
  have g0 : gA Γ 0 = a0 := by rw [hΓ]; rfl
  have g1 : gA Γ 1 = a1 := by rw [hΓ]; rfl
  have g2 : gA Γ 2 = a2 := by rw [hΓ]; rfl
  have g3 : gA Γ 3 = a3 := by rw [hΓ]; rfl
  have g4 : gA Γ 4 = a4 := by rw [hΓ]; rfl
  have g5 : gA Γ 5 = a5 := by rw [hΓ]; rfl
  have g6 : gA Γ 6 = a6 := by rw [hΓ]; rfl
  have g7 : gA Γ 7 = a7 := by rw [hΓ]; rfl
  have gE' : gE Γ = gE0 := by rw [hΓ]; rfl
  have gB' : gB Γ = s.heap.size := by rw [hΓ]; rfl
  have gM : gS Γ 1000 = mi := by rw [hΓ]; rfl
  have gs : ∀ n, n < 1000 → gS Γ n = Classical.choose (hσ n) := fun n h => by
    rw [hΓ]
    exact if_neg (by omega)
  have gD' : ∀ k, (gD Γ).1 k = (Classical.choose (hD k)).1 ∧ (gD Γ).2 k = (Classical.choose (hD k)).2 := fun k => by rw [hΓ]; exact ⟨rfl, rfl⟩
  clear hΓ
  have hA : ∀ a : Nat, a < s.heap.size → ¬ gFree Γ a := fun a h z => by
    have z : gB Γ ≤ a := z
    omega
  refine ⟨Γ, gB', by rw [gB']; exact Nat.le_refl _, ⟨⟨fun k q hq => ?_, fun k q hq => ?_⟩, fun w hw => ?_, fun q hq => ?_, ?_, ?_, ?_, ?_, fun q hq => ?_⟩, ?_, ?_, ?_, ?_, by rw [gE', gB']; exact hlt⟩
  · rw [(gD' k).1, (gD' k).2]
    exact Classical.choose_spec (hD k) q hq
  · match k, hq with
    | 0, hq => cases hq; rw [g0]; exact ⟨b0, r0⟩
    | 1, hq => cases hq; rw [g1]; exact ⟨b1, r1⟩
    | 2, hq => cases hq; rw [g2]; exact ⟨b2, r2⟩
    | 3, hq => cases hq; rw [g3]; exact ⟨b3, r3⟩
    | 4, hq => cases hq; rw [g4]; exact ⟨b4, r4⟩
    | 5, hq => cases hq; rw [g5]; exact ⟨b5, r5⟩
    | 6, hq => cases hq; rw [g6]; exact ⟨b6, r6⟩
    | 7, hq => cases hq; rw [g7]; exact ⟨b7, r7⟩
    | k + 8, hq => simp [tysX] at hq
  · obtain ⟨h1, h2⟩ := nst_tab hw
    exact va_Nw.of h1 (hts w h2)
  · obtain ⟨i, hi⟩ := List.getElem?_of_mem hq
    have h1 : (strX.map (fun q => q.2.2.2))[i]? = some q.2.2.2 := by rw [List.getElem?_map, hi]; rfl
    rw [strX_ix] at h1
    obtain ⟨h2, h3⟩ := List.getElem?_eq_some_iff.mp h1
    rw [List.length_range] at h2
    rw [List.getElem_range] at h3
    rw [← h3, gs i (by omega)]
    exact Classical.choose_spec (hσ i) q hi
  · exact va_AO.of (hts _ arq_w.1)
  · exact va_AO.of (hts _ arq_w.2.1)
  · exact va_AO.of (hts _ arq_w.2.2)
  · rw [gM]; exact hmi
  · exact va_Nc.of (hs _ (ncX_in q hq))
  · exact vx_Zqof (hts _ sta_w.1) (hts _ sta_w.2.2.2.1) (hs _ sta_n.1) hA
  · exact vx_Zqof (hts _ sta_w.2.1) (hts _ sta_w.2.2.2.1) (hs _ sta_n.2.1) hA
  · rw [gE']; exact va_Zof (hts _ sta_w.2.2.1) (hts _ sta_w.2.2.2.2) e1 hA
  · rw [gE']
    refine ⟨cell, e3, ?_, z1, z2, fun k z => ?_⟩
    · rw [g5]
      obtain ⟨kA, comp, q1, q2, q3, q4⟩ := r5
      exact e6.trans (Option.some.inj (e2.symm.trans q4))
    · rw [z] at e5
      cases e5
