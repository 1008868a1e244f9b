set_option maxHeartbeats 1500000 in
set_option maxRecDepth 100000 in
theorem r_size {l : Launch} (hfl : l.stackTraces = false) (Γ : Gm) (a b c9 : Nat) (xs : List Nat) : RTc l Γ (pF) yJx4a65c_size_8abf5 (wsO yJx4a65c_size_8abf5 cJx4a65c_size_8abf5 1 (some .int)) 0 [.ref a] (LsAt Γ a b c9 xs) (fun v _ => v = some (.int (nI xs.length))) 0 0 := by
  refine rt_intro hfl (by decide) (Nat.le_of_ble_eq_true rfl) ?_
  intro p e s m args below meth c C hr hnm hP0 ls hl
  have hx := C.1
  have hb := C.2.1
  have hts := C.2.2.2.2.1
  have hK := C.2.2.2.2.2.2.1.2.1.1
  have hS : va_S (pF) s.heap s.heap [] := va_S.rf
  have hl : lv_has ls 1 [(0, .ref a)] := hl
  obtain ⟨m9, cap, f, hl0, hcap, hc2, hE0, ha0, hfx⟩ := hP0
  have hP := va_P.one hl0
  refine lv_aload_n hx hb dJx4a65c_size_8abf5_0 rfl (lv_at hl 0 rfl) ?_
  refine va_get (ref := "java/util/ArrayList") hx hb hts lin C.2.2.2.1 hK (va_P.one hl0) 0 rfl rfl 2 (by decide) (hts _ t_82) (fun x h => h) (v := .int (nI xs.length)) rfl dJx4a65c_size_8abf5_1 ?_
  exact r_iret C hr hS dJx4a65c_size_8abf5_4 (by decide) (by decide) rfl

section RZ
variable {p : Program} {l : Launch} {e : Env} {R : Room} {s : State} {m : MethodId} {args : Array Value} {below : List Frame} {meth : Method} {c : Code} {H : Heap} {locs : List Loc} {cells slots : Nat}
variable {cc : ByteArray} {nL : Nat} {own : String} {Γ : Gm} {A : Nat → Prop} {pc mc ms : Nat} {ls : Array Slot} {post : Option Value → Heap → Prop}
theorem r_zret {v : Int32} {ty : FieldType} (C : Cx Γ p l s m args meth c cc nL own) (hr : meth.sig.returnType = some ty) (hn : narrow ty (.int v) = .int v) (hS : va_S A s.heap H locs) (hdg : decode cc pc = .ok (.ireturn, 1)) (hc : cells ≤ mc) (hs : slots ≤ ms) (hp : post (some (.int v)) H) :
    W p l e R s m args below meth c H locs cells slots (MQ below (RQ A post) args s mc ms A) (F0 m pc ls [.int v]) :=
  W.widen hc hs (W.zret C.1 C.2.1 hr hn (fun t ht _ => ⟨⟨_, rfl, by rw [ht]; exact hp⟩, hS.F ht⟩) hS.2.2 hdg C.2.2.2.2.2.1)
end RZ

set_option maxHeartbeats 1500000 in
set_option maxRecDepth 100000 in
theorem r_isEmpty {l : Launch} (hfl : l.stackTraces = false) (Γ : Gm) (a b c9 : Nat) (xs : List Nat) : RTc l Γ (pF) yJx4a65c_isEmpty_aae02 (wsO yJx4a65c_isEmpty_aae02 cJx4a65c_isEmpty_aae02 1 (some .boolean)) 0 [.ref a] (LsAt Γ a b c9 xs) (fun v _ => v = some (.int (bI xs.isEmpty))) 0 0 := by
  refine rt_intro hfl (by decide) (Nat.le_of_ble_eq_true rfl) ?_
  intro p e s m args below meth c C hr hnm hP0 ls hl
  have hx := C.1
  have hb := C.2.1
  have hts := C.2.2.2.2.1
  have hK := C.2.2.2.2.2.2.1.2.1.1
  have hS : va_S (pF) s.heap s.heap [] := va_S.rf
  have hl : lv_has ls 1 [(0, .ref a)] := hl
  obtain ⟨m9, cap, f, hl0, hcap, hc2, hE0, ha0, hfx⟩ := hP0
  have hP := va_P.one hl0
  refine lv_aload_n hx hb dJx4a65c_isEmpty_aae02_0 rfl (lv_at hl 0 rfl) ?_
  refine va_get (ref := "java/util/ArrayList") hx hb hts lin C.2.2.2.1 hK (va_P.one hl0) 0 rfl rfl 2 (by decide) (hts _ t_82) (fun x h => h) (v := .int (nI xs.length)) rfl dJx4a65c_isEmpty_aae02_1 ?_
  refine lv_if_ne (tgt := 11) hx hb dJx4a65c_isEmpty_aae02_4 (by decide) (fun c_4 => ?_) (fun c_4 => ?_)
  · refine lv_iconst (v := 0) hx hb dJx4a65c_isEmpty_aae02_11 (by decide) ?_
    refine r_zret C hr rfl hS dJx4a65c_isEmpty_aae02_12 (by decide) (by decide) ?_
    cases xs with
    | nil => exact absurd (show nI ([] : List Nat).length = 0 from rfl) c_4
    | cons y ys => rfl
  · refine lv_iconst (v := 1) hx hb dJx4a65c_isEmpty_aae02_7 (by decide) ?_
    refine lv_goto (tgt := 12) hx hb dJx4a65c_isEmpty_aae02_8 (by decide) ?_
    refine r_zret C hr rfl hS dJx4a65c_isEmpty_aae02_12 (by decide) (by decide) ?_
    cases xs with
    | nil => rfl
    | cons y ys =>
      have h1 : ¬ nI (y :: ys).length = 0 := nI_ne0 (by rw [List.length_cons]; omega) (by omega)
      first | exact absurd c_4 h1 | exact absurd h1 c_4

set_option maxHeartbeats 1500000 in
set_option maxRecDepth 100000 in
theorem r_elem {l : Launch} (hfl : l.stackTraces = false) (Γ : Gm) (a b c9 q : Nat) (xs : List Nat) (hq : q < xs.length) : RTc l Γ (pF) yJx4a65c_elementData_915e3 (wsO yJx4a65c_elementData_915e3 cJx4a65c_elementData_915e3 2 (some (.object "java/lang/Object"))) 0 [.ref a, .int (nI q)] (LsAt Γ a b c9 xs) (fun v _ => v = some (.ref (xs.getD q 0))) 0 0 := by
  refine rt_intro hfl (by decide) (Nat.le_of_ble_eq_true rfl) ?_
  intro p e s m args below meth c C hr hnm hP0 ls hl
  have hx := C.1
  have hb := C.2.1
  have hts := C.2.2.2.2.1
  have hK := C.2.2.2.2.2.2.1.2.1.1
  have hS : va_S (pF) s.heap s.heap [] := va_S.rf
  have hl : lv_has ls 2 [(0, .ref a), (1, .int (nI q))] := hl
  obtain ⟨m9, cap, f, hl0, hcap, hc2, hE0, ha0, hfx⟩ := hP0
  replace ha0 := ha0.va (by omega)
  have hP := va_P.two hl0 ha0
  refine lv_aload_n hx hb dJx4a65c_elementData_915e3_0 rfl (lv_at hl 0 rfl) ?_
  refine va_get (ref := "java/util/ArrayList") hx hb hts lin C.2.2.2.1 hK (va_P.one hl0) 0 rfl rfl 1 (by decide) (hts _ t_81) (fun x h => h) (v := .ref b) rfl dJx4a65c_elementData_915e3_1 ?_
  refine lv_iload_n hx hb dJx4a65c_elementData_915e3_4 rfl (lv_at hl 1 rfl) ?_
  refine va_aldq hx hb hK hP 1 5 rfl rfl (vp_in_nI (by omega) (by omega)) dJx4a65c_elementData_915e3_5 ?_
  rw [nI_clamp (by omega), hfx q hq, show xs[q]? = some (xs.getD q 0) from by rw [List.getD_eq_getElem?_getD, List.getElem?_eq_getElem hq]; rfl]
  exact r_aret C hr hS (Or.inl ⟨_, rfl⟩) dJx4a65c_elementData_915e3_6 (by decide) (by decide) rfl

theorem kJx4a65c_elementData_915e3 : CeeV yJx4a65c_elementData_915e3 RJx4a65c cJx4a65c_elementData_915e3 2 (some (.object "java/lang/Object")) 1 := ⟨t_of (i := 192) (by decide +kernel) (by decide +kernel), t_193, t_6, t_194, by decide +kernel, by decide⟩

set_option maxHeartbeats 1500000 in
set_option maxRecDepth 100000 in
theorem r_get {l : Launch} (hfl : l.stackTraces = false) (Γ : Gm) (a b c9 q : Nat) (xs : List Nat) (hq : q < xs.length) : RTc l Γ (pF) yJx4a65c_get_915e3 (wsO yJx4a65c_get_915e3 cJx4a65c_get_915e3 2 (some (.object "java/lang/Object"))) 3 [.ref a, .int (nI q)] (LsAt Γ a b c9 xs) (fun v _ => v = some (.ref (xs.getD q 0))) 0 0 := by
  refine rt_intro hfl (by decide) (Nat.le_of_ble_eq_true rfl) ?_
  intro p e s m args below meth c C hr hnm hP0 ls hl
  have hx := C.1
  have hb := C.2.1
  have hts := C.2.2.2.2.1
  have hK := C.2.2.2.2.2.2.1.2.1.1
  have hS : va_S (pF) s.heap s.heap [] := va_S.rf
  have hl : lv_has ls 2 [(0, .ref a), (1, .int (nI q))] := hl
  have hP1 := hP0
  obtain ⟨m9, cap, f, hl0, hcap, hc2, hE0, ha0, hfx⟩ := hP0
  have hP := va_P.one hl0
  refine lv_iload_n hx hb dJx4a65c_get_915e3_0 rfl (lv_at hl 1 rfl) ?_
  refine lv_aload_n hx hb dJx4a65c_get_915e3_1 rfl (lv_at hl 0 rfl) ?_
  refine va_get (ref := "java/util/ArrayList") hx hb hts lin C.2.2.2.1 hK (va_P.one hl0) 0 rfl rfl 2 (by decide) (hts _ t_82) (fun x h => h) (v := .int (nI xs.length)) rfl dJx4a65c_get_915e3_2 ?_
  refine g_rS C hS (fun _ h => h.elim) trivial hl (fun _ h => h) (r_oci hfl Γ q xs.length hq (by omega)) kJ15_checkIndex_7cf53 t_185 dJx4a65c_get_915e3_5 rfl rfl (Nat.le_of_ble_eq_true rfl) (by decide) rfl ⟨by decide, by decide⟩ (fun v H locs hv hS hz hk => ?_)
  subst hv
  have hP2 : LsAt Γ a b c9 xs H := hP1.kept (hk _ hP1.lt.1 (fun h => h)) (hk _ hP1.lt.2 (fun h => h))
  have hP := va_P.one (hl0.kept (hk _ hl0.lt (fun h => h)))
  dsimp only [Option.toList, List.cons_append, List.nil_append]
  refine lv_pop hx hb dJx4a65c_get_915e3_8 rfl ?_
  refine lv_aload_n hx hb dJx4a65c_get_915e3_9 rfl (lv_at hl 0 rfl) ?_
  refine lv_iload_n hx hb dJx4a65c_get_915e3_10 rfl (lv_at hl 1 rfl) ?_
  refine g_rV C hS (fun _ h => h.elim) hP2 hl (fun _ h => h) (r_elem hfl Γ a b c9 q xs hq) kJx4a65c_elementData_915e3 t_191 (va_recv hK hP rfl (q0 := 0) rfl) dJx4a65c_get_915e3_11 rfl rfl (Nat.le_of_ble_eq_true rfl) (by decide) rfl ⟨by decide, by decide⟩ (fun v H locs hv hS _ _ => ?_)
  subst hv
  exact r_aret C hr hS (Or.inl ⟨_, rfl⟩) dJx4a65c_get_915e3_14 (by decide) (by decide) rfl

set_option maxHeartbeats 1500000 in
set_option maxRecDepth 100000 in
theorem r_rca {l : Launch} (hfl : l.stackTraces = false) (Γ : Gm) (a b c9 q : Nat) (xs : List Nat) (hq : q ≤ xs.length) : RTc l Γ (pF) yJx4a65c_rangeCheckForAdd_d00df (wsO yJx4a65c_rangeCheckForAdd_d00df cJx4a65c_rangeCheckForAdd_d00df 2 none) 0 [.ref a, .int (nI q)] (LsAt Γ a b c9 xs) (fun v _ => v = none) 0 0 := by
  refine rt_intro hfl (by decide) (Nat.le_of_ble_eq_true rfl) ?_
  intro p e s m args below meth c C hr hnm hP0 ls hl
  have hx := C.1
  have hb := C.2.1
  have hts := C.2.2.2.2.1
  have hK := C.2.2.2.2.2.2.1.2.1.1
  have hS : va_S (pF) s.heap s.heap [] := va_S.rf
  have hl : lv_has ls 2 [(0, .ref a), (1, .int (nI q))] := hl
  obtain ⟨m9, cap, f, hl0, hcap, hc2, hE0, ha0, hfx⟩ := hP0
  have hP := va_P.one hl0
  refine lv_iload_n hx hb dJx4a65c_rangeCheckForAdd_d00df_0 rfl (lv_at hl 1 rfl) ?_
  refine lv_aload_n hx hb dJx4a65c_rangeCheckForAdd_d00df_1 rfl (lv_at hl 0 rfl) ?_
  refine va_get (ref := "java/util/ArrayList") hx hb hts lin C.2.2.2.1 hK (va_P.one hl0) 0 rfl rfl 2 (by decide) (hts _ t_82) (fun x h => h) (v := .int (nI xs.length)) rfl dJx4a65c_rangeCheckForAdd_d00df_2 ?_
  refine lv_icmp_gt (tgt := 12) hx hb dJx4a65c_rangeCheckForAdd_d00df_5 (by decide) (fun c_5 => absurd c_5 (nI_nlt hq (by omega))) (fun c_5 => ?_)
  refine lv_iload_n hx hb dJx4a65c_rangeCheckForAdd_d00df_8 rfl (lv_at hl 1 rfl) ?_
  refine lv_if_ge (tgt := 25) hx hb dJx4a65c_rangeCheckForAdd_d00df_9 (by decide) (fun c_9 => ?_) (fun c_9 => absurd (nI_pos' (n := q) (by omega)) c_9)
  exact r_vret C hr hS dJx4a65c_rangeCheckForAdd_d00df_25 (by decide) (by decide) rfl

theorem kJx4a65c_rangeCheckForAdd_d00df : CeeV yJx4a65c_rangeCheckForAdd_d00df RJx4a65c cJx4a65c_rangeCheckForAdd_d00df 2 none 1 := ⟨t_of (i := 375) (by decide +kernel) (by decide +kernel), s_8, t_6, t_of (i := 376) (by decide +kernel) (by decide +kernel), by decide +kernel, by decide⟩

set_option maxHeartbeats 1500000 in
set_option maxRecDepth 100000 in
theorem r_add {l : Launch} (hfl : l.stackTraces = false) (Γ : Gm) (N a b c9 x : Nat) (xs : List Nat) (hx80 : xs.length < 80) : RTc l Γ (AL Γ a b N) yJx4a65c_add_9ea2d (wsO yJx4a65c_add_9ea2d cJx4a65c_add_9ea2d 2 (some .boolean)) 6 [.ref a, .ref x] (fun H => LPr Γ N a b c9 xs H ∧ x ≠ a ∧ x ≠ b ∧ Elt Γ x H) (fun v H => v = some (.int 1) ∧ ∃ b' : Nat, (b' = b ∨ N ≤ b') ∧ LsAt Γ a b' 0 (xs ++ [x]) H) 1 120 := by
  refine rt_intro hfl (by decide) (Nat.le_of_ble_eq_true rfl) ?_
  intro p e s m args below meth c C hr hnm hP0 ls hl
  have hx := C.1
  have hb := C.2.1
  have hts := C.2.2.2.2.1
  have hK := C.2.2.2.2.2.2.1.2.1.1
  have hS : va_S (AL Γ a b N) s.heap s.heap [] := va_S.rf
  have hl : lv_has ls 2 [(0, .ref a), (1, .ref x)] := hl
  obtain ⟨⟨hLB, ⟨m9, cap, f, hl0, hcap, hc2, hE0, ha0, hfx⟩, hLE⟩, hxa, hxb, hxe⟩ := hP0
  have hA := AL.ge hLB
  obtain ⟨hN, hB1, hB2, hne, hB3, haN, hbN⟩ := hLB
  have hxl := hxe.lt
  refine lv_aload_n hx hb dJx4a65c_add_9ea2d_0 rfl (lv_at hl 0 rfl) ?_
  refine lv_dup hx hb dJx4a65c_add_9ea2d_1 rfl ?_
  refine va_get (ref := "java/util/ArrayList") hx hb hts lin C.2.2.2.1 hK (va_P.one hl0) 0 rfl rfl 0 (by decide) (hts _ t_84) (fun x h => u_same (hts _ t_85) x h) (v := .int m9) rfl dJx4a65c_add_9ea2d_2 ?_
  refine lv_iconst (v := 1) hx hb dJx4a65c_add_9ea2d_5 (by decide) ?_
  refine lv_iadd hx hb dJx4a65c_add_9ea2d_6 ?_
  refine r_putL C hl0 hS (Or.inl rfl) 0 (by decide) rfl rfl rfl rfl dJx4a65c_add_9ea2d_7 t_84 (fun x h => u_same (hts _ t_85) x h) (fun H locs hl0 oq hz hS => ?_)
  replace hl0 : va_at (gD Γ) clX (liC a (m9 + 1) b xs.length) H := hl0
  replace ha0 := ha0.kept (oq _ (fun h => hne h.symm))
  replace hxe := hxe.kept (oq _ hxa)
  refine lv_aload_n hx hb dJx4a65c_add_9ea2d_10 rfl (lv_at hl 0 rfl) ?_
  refine lv_aload_n hx hb dJx4a65c_add_9ea2d_11 rfl (lv_at hl 1 rfl) ?_
  refine lv_aload_n hx hb dJx4a65c_add_9ea2d_12 rfl (lv_at hl 0 rfl) ?_
  refine va_get (ref := "java/util/ArrayList") hx hb hts lin C.2.2.2.1 hK (va_P.one hl0) 0 rfl rfl 1 (by decide) (hts _ t_81) (fun x h => h) (v := .ref b) rfl dJx4a65c_add_9ea2d_13 ?_
  refine lv_aload_n hx hb dJx4a65c_add_9ea2d_16 rfl (lv_at hl 0 rfl) ?_
  refine va_get (ref := "java/util/ArrayList") hx hb hts lin C.2.2.2.1 hK (va_P.one hl0) 0 rfl rfl 2 (by decide) (hts _ t_82) (fun x h => h) (v := .int (nI xs.length)) rfl dJx4a65c_add_9ea2d_17 ?_
  refine g_rV C hS hA (P := fun H' => LPr Γ H.size a b c9 xs H' ∧ x ≠ a ∧ x ≠ b ∧ Elt Γ x H') ⟨⟨⟨rfl, hB1, by omega, hne, hB3, by omega, by omega⟩, ⟨m9 + 1, cap, f, hl0, hcap, hc2, hE0, ha0, hfx⟩, fun y hy => ⟨(hLE y hy).1, (hLE y hy).2.1, (hLE y hy).2.2.kept (oq _ (hLE y hy).1)⟩⟩, hxa, hxb, hxe⟩ hl (fun q h => by rcases h with h | h | h; exact Or.inl h; exact Or.inr (Or.inl h); exact Or.inr (Or.inr (by omega))) (r_add3 hfl Γ H.size a b c9 x xs hx80) kJx4a65c_add_72be8 t_823 (va_recv hK (va_P.one hl0) rfl (q0 := 0) rfl) dJx4a65c_add_9ea2d_20 rfl rfl (Nat.le_of_ble_eq_true rfl) (by decide) rfl ⟨by decide, by decide⟩ (fun v H2 locs2 hv hS2 hz2 hk => ?_)
  obtain ⟨rfl, b', g1, g2⟩ := hv
  dsimp only [Option.toList, List.nil_append]
  refine lv_iconst (v := 1) hx hb dJx4a65c_add_9ea2d_23 (by decide) ?_
  exact r_zret C hr rfl hS2 dJx4a65c_add_9ea2d_24 (by decide) (by decide) ⟨rfl, b', by rcases g1 with g1 | g1; exact Or.inl g1; exact Or.inr (by omega), g2⟩

/-- x put at the place q -/
def insA (l : List Nat) (q x : Nat) : List Nat := l.take q ++ x :: l.drop q

set_option maxHeartbeats 1500000 in
set_option maxRecDepth 100000 in
theorem r_ins {l : Launch} (hfl : l.stackTraces = false) (Γ : Gm) (N a b c9 q x : Nat) (xs : List Nat) (hx80 : xs.length < 80) (hq : q ≤ xs.length) : RTc l Γ (AL Γ a b N) yJx4a65c_add_7a177 (wsO yJx4a65c_add_7a177 cJx4a65c_add_7a177 5 none) 6 [.ref a, .int (nI q), .ref x] (fun H => LPr Γ N a b c9 xs H ∧ x ≠ a ∧ x ≠ b ∧ Elt Γ x H) (fun v H => v = none ∧ ∃ b' : Nat, (b' = b ∨ N ≤ b') ∧ LsAt Γ a b' 0 (insA xs q x) H) 1 120 := by
  refine rt_intro hfl (by decide) (Nat.le_of_ble_eq_true rfl) ?_
  intro p e s m args below meth c C hr hnm hP0 ls hl
  have hx := C.1
  have hb := C.2.1
  have hts := C.2.2.2.2.1
  have hK := C.2.2.2.2.2.2.1.2.1.1
  have hS : va_S (AL Γ a b N) s.heap s.heap [] := va_S.rf
  have hl : lv_has ls 5 [(0, .ref a), (1, .int (nI q)), (2, .ref x)] := hl
  obtain ⟨⟨hLB, hLs, hLE⟩, hxa, hxb, hxe⟩ := hP0
  have hA := AL.ge hLB
  have hLB0 := hLB
  obtain ⟨hN, hB1, hB2, hne, hB3, haN, hbN⟩ := hLB
  have hxl := hxe.lt
  have hxe0 := hxe
  have hgE := C.2.2.2.2.2.2.1.2.2.2.2.2.2
  have el : (insA xs q x).length = xs.length + 1 := by unfold insA; rw [List.length_append, List.length_cons, List.length_take, List.length_drop]; omega
  have tail : ∀ (m9 : Int32) (b' cap' : Nat) (f' : Nat → Option Nat) (H : Heap) (locs : List Loc) (ls : Array Slot) (cells slots : Nat), cells ≤ 1 → slots ≤ 120 → (b' = b ∧ b ≠ gE Γ ∨ N ≤ b') → xs.length + 1 ≤ cap' → cap' ≤ 200 → va_at (gD Γ) clX (liC a m9 b' xs.length) H → va_at (gD Γ) clX (arC Γ b' cap' f') H → (∀ j, j < xs.length → f' j = xs[j]?) → Elt Γ x H → LE Γ a b xs H → (∀ y ∈ xs, y ≠ b') → x ≠ b' → va_S (AL Γ a b N) s.heap H locs → lv_has ls 5 [(0, .ref a), (1, .int (nI q)), (2, .ref x), (3, .int (nI xs.length)), (4, .ref b')] →
      W p l e (rmL 6 1 120) s m args below meth c H locs cells slots (MQ below (RQ (AL Γ a b N) (fun v H => v = none ∧ ∃ b' : Nat, (b' = b ∨ N ≤ b') ∧ LsAt Γ a b' 0 (insA xs q x) H)) args s 1 120 (AL Γ a b N)) (F0 m 38 ls []) := by
    intro m9 b' cap' f' H locs ls cells slots hc hs hb' hcap hc2 hl0 ha0 hfx hxe hLE hyb hxb2 hS hl
    have hab : a ≠ b' := by rcases hb' with h | h; rw [h.1]; exact hne; omega
    have hP := va_P.two hl0 ha0
    have hAb : AL Γ a b N b' := by rcases hb' with h | h; exact Or.inr (Or.inl ⟨h.1, h.2⟩); exact Or.inr (Or.inr h)
    have hD : va_D (AL Γ a b N) [liC a m9 b' xs.length, arC Γ b' cap' f'] := va_D.two (Or.inl rfl) hAb hab
    refine lv_aload hx hb dJx4a65c_add_7a177_38 (lv_at hl 4 rfl) ?_
    refine lv_iload_n hx hb dJx4a65c_add_7a177_40 rfl (lv_at hl 1 rfl) ?_
    refine lv_aload hx hb dJx4a65c_add_7a177_41 (lv_at hl 4 rfl) ?_
    refine lv_iload_n hx hb dJx4a65c_add_7a177_43 rfl (lv_at hl 1 rfl) ?_
    refine lv_iconst (v := 1) hx hb dJx4a65c_add_7a177_44 (by decide) ?_
    refine lv_iadd hx hb dJx4a65c_add_7a177_45 ?_
    refine lv_iload_n hx hb dJx4a65c_add_7a177_46 rfl (lv_at hl 3 rfl) ?_
    refine lv_iload_n hx hb dJx4a65c_add_7a177_47 rfl (lv_at hl 1 rfl) ?_
    refine lv_isub hx hb dJx4a65c_add_7a177_48 ?_
    rw [nI_1, pk_sub (a := xs.length) (b := q) (by omega)]
    refine va_copyM hx hb (C.2.2.1.trans hl.1.symm) C.2.2.2.1 (hts _ t_361) (hts _ t_363) (hts _ t_362) (hts _ t_14) hK hP hD hS 1 1 5 5 rfl rfl rfl rfl (nI_pos (by omega)) (nI_pos (by omega)) (nI_pos (by omega)) (by rw [nI_clamp (by omega), nI_clamp (by omega)]; omega) (by rw [nI_clamp (by omega), nI_clamp (by omega)]; omega) (fun i hi y hy => ?_) (by show 1 ≤ 6 + 10; omega) (by show _ + (nativeFrameWords "java/lang/System" "arraycopy" 5 + 11) ≤ 40 * 6 + 200; decide) dJx4a65c_add_7a177_49 (fun H2 locs2 hP2 hD2 hS2 => ?_)
    · rw [nI_clamp (by omega)] at hi hy
      rw [hfx _ (by omega)] at hy
      exact (hLE y (List.mem_of_getElem? hy)).2.2.any C
    · rw [nI_clamp (by omega), nI_clamp (by omega), nI_clamp (by omega)] at hP2 hD2
      refine lv_aload hx hb dJx4a65c_add_7a177_52 (lv_at hl 4 rfl) ?_
      refine lv_iload_n hx hb dJx4a65c_add_7a177_54 rfl (lv_at hl 1 rfl) ?_
      refine lv_aload_n hx hb dJx4a65c_add_7a177_55 rfl (lv_at hl 2 rfl) ?_
      have hxe9 : Elt Γ x H2 := hxe0.kept (hS2.2.1 x hxl (fun w => by rcases AL.two (by omega) w with e | e; exact hxa e; exact hxb e))
      refine va_astqM hx hb hK hP2 hD2 hS2 1 5 rfl rfl (hxe9.any C) (vp_in_nI (by omega) (by omega)) dJx4a65c_add_7a177_56 (fun H3 locs3 hP hD hS => ?_)
      rw [nI_clamp (by omega)] at hP
      have hl0 := hP.fst
      have ha0 := hP.snd
      refine lv_aload_n hx hb dJx4a65c_add_7a177_57 rfl (lv_at hl 0 rfl) ?_
      refine lv_iload_n hx hb dJx4a65c_add_7a177_58 rfl (lv_at hl 3 rfl) ?_
      refine lv_iconst (v := 1) hx hb dJx4a65c_add_7a177_59 (by decide) ?_
      refine lv_iadd hx hb dJx4a65c_add_7a177_60 ?_
      rw [nI_1]
      refine r_putL C hl0 hS (Or.inl rfl) 2 (by decide) rfl rfl rfl rfl dJx4a65c_add_7a177_61 t_82 (fun x h => h) (fun H locs hl0 oq hz hS => ?_)
      replace hl0 : va_at (gD Γ) clX (liC a m9 b' (xs.length + 1)) H := hl0
      replace ha0 := ha0.kept (oq _ (fun h => hab h.symm))
      exact r_vret C hr hS dJx4a65c_add_7a177_64 hc hs ⟨rfl, b', by rcases hb' with h | h; exact Or.inl h.1; exact Or.inr h, m9, cap', _, by rw [el]; exact hl0, by rw [el]; exact hcap, hc2, ⟨fun h => by omega, fun h => by rcases hb' with z | z; exact absurd (z.1.symm.trans h) z.2; omega⟩, ArAt.of ha0 (by omega), fun j hj => by
        rw [el] at hj
        unfold insA
        rcases Nat.lt_trichotomy j q with h | h | h
        · rw [va_up_ne _ _ (by omega), pk_cpy_out (Or.inl (by omega)), hfx j (by omega), List.getElem?_append_left (by rw [List.length_take]; omega), List.getElem?_take, if_pos h]
        · subst h; rw [va_up_self, List.getElem?_append_right (by rw [List.length_take]; omega), List.length_take, Nat.min_eq_left (by omega), Nat.sub_self]; rfl
        · rw [va_up_ne _ _ (by omega), pk_cpy_in (by omega) (by omega), hfx _ (by omega), List.getElem?_append_right (by rw [List.length_take]; omega), List.length_take, Nat.min_eq_left (by omega), show j - q = (j - q - 1) + 1 by omega, List.getElem?_cons_succ, List.getElem?_drop]
          congr 1⟩
  have hLs1 := hLs
  obtain ⟨m9, cap, f, hl0, hcap, hc2, hE0, ha0, hfx⟩ := hLs
  refine lv_aload_n hx hb dJx4a65c_add_7a177_0 rfl (lv_at hl 0 rfl) ?_
  refine lv_iload_n hx hb dJx4a65c_add_7a177_1 rfl (lv_at hl 1 rfl) ?_
  refine g_rV C hS hA hLs1 hl (fun _ h => h.elim) (r_rca hfl Γ a b c9 q xs hq) kJx4a65c_rangeCheckForAdd_d00df t_373 (va_recv hK (va_P.one hl0) rfl (q0 := 0) rfl) dJx4a65c_add_7a177_2 rfl rfl (Nat.le_of_ble_eq_true rfl) (by decide) rfl ⟨by decide, by decide⟩ (fun v H locs hv hS hz0 hk0 => ?_)
  subst hv
  replace hl0 := hl0.kept (hk0 _ hl0.lt (fun h => h))
  replace ha0 := ha0.kept (hk0 _ ha0.lt (fun h => h))
  replace hxe := hxe.kept (hk0 _ hxl (fun h => h))
  replace hLE : LE Γ a b xs H := hLE.kept rfl (fun _ _ z => z.elim) hk0
  dsimp only [Option.toList, List.nil_append]
  refine lv_aload_n hx hb dJx4a65c_add_7a177_5 rfl (lv_at hl 0 rfl) ?_
  refine lv_dup hx hb dJx4a65c_add_7a177_6 rfl ?_
  refine va_get (ref := "java/util/ArrayList") hx hb hts lin C.2.2.2.1 hK (va_P.one hl0) 0 rfl rfl 0 (by decide) (hts _ t_84) (fun x h => u_same (hts _ t_85) x h) (v := .int m9) rfl dJx4a65c_add_7a177_7 ?_
  refine lv_iconst (v := 1) hx hb dJx4a65c_add_7a177_10 (by decide) ?_
  refine lv_iadd hx hb dJx4a65c_add_7a177_11 ?_
  refine r_putL C hl0 hS (Or.inl rfl) 0 (by decide) rfl rfl rfl rfl dJx4a65c_add_7a177_12 t_84 (fun x h => u_same (hts _ t_85) x h) (fun H locs hl0 oq hz hS => ?_)
  replace hl0 : va_at (gD Γ) clX (liC a (m9 + 1) b xs.length) H := hl0
  replace ha0 := ha0.kept (oq _ (fun h => hne h.symm))
  replace hxe := hxe.kept (oq _ hxa)
  replace hLE : LE Γ a b xs H := fun y hy => ⟨(hLE y hy).1, (hLE y hy).2.1, (hLE y hy).2.2.kept (oq _ (hLE y hy).1)⟩
  refine lv_aload_n hx hb dJx4a65c_add_7a177_15 rfl (lv_at hl 0 rfl) ?_
  refine va_get (ref := "java/util/ArrayList") hx hb hts lin C.2.2.2.1 hK (va_P.one hl0) 0 rfl rfl 2 (by decide) (hts _ t_82) (fun x h => h) (v := .int (nI xs.length)) rfl dJx4a65c_add_7a177_16 ?_
  refine lv_dup hx hb dJx4a65c_add_7a177_19 rfl ?_
  refine lv_istore_n (lv' := [(3, _), (0, _), (1, _), (2, _)]) hx hb dJx4a65c_add_7a177_20 rfl hl (by decide) rfl (fun ls hl => ?_)
  refine lv_aload_n hx hb dJx4a65c_add_7a177_21 rfl (lv_at hl 1 rfl) ?_
  refine va_get (ref := "java/util/ArrayList") hx hb hts lin C.2.2.2.1 hK (va_P.one hl0) 0 rfl rfl 1 (by decide) (hts _ t_81) (fun x h => h) (v := .ref b) rfl dJx4a65c_add_7a177_22 ?_
  refine lv_dup hx hb dJx4a65c_add_7a177_25 rfl ?_
  refine lv_astore (lv' := [(4, _), (3, _), (0, _), (1, _), (2, _)]) hx hb dJx4a65c_add_7a177_26 hl (by decide) rfl (fun ls hl => ?_)
  refine r_alenA C ha0 dJx4a65c_add_7a177_28 ?_
  refine lv_icmp_ne (tgt := 38) hx hb dJx4a65c_add_7a177_29 (by decide) (fun c_29 => ?_) (fun c_29 => ?_)
  · have hne2 : xs.length ≠ cap := fun h => c_29 (by rw [h])
    exact tail (m9 + 1) b cap f _ _ ls 0 0 (by decide) (by decide) (Or.inl ⟨rfl, fun h => by have := hE0.mpr h; omega⟩) (by omega) hc2 hl0 (ha0.va (by omega)) hfx hxe hLE (fun y hy => (hLE y hy).2.1) hxb hS (lv_sub hl [2, 3, 4, 1, 0] rfl)
  · have hce : cap = xs.length := by
      rcases Nat.lt_or_ge xs.length cap with h | h
      · exact absurd c_29 (fun z => by have := (nI_eq (by omega) (by omega)).mp z; omega)
      · omega
    subst hce
    refine lv_aload_n hx hb dJx4a65c_add_7a177_32 rfl (lv_at hl 2 rfl) ?_
    refine g_rV C hS hA (P := fun H' => LB Γ H.size a b H' ∧ va_at (gD Γ) clX (liC a (m9 + 1) b xs.length) H' ∧ ArAt Γ b xs.length f H' ∧ (xs.length = 0 ↔ b = gE Γ) ∧ (∀ j, j < xs.length → f j = xs[j]?) ∧ LE Γ a b xs H') ⟨⟨rfl, hB1, by omega, hne, hB3, by omega, by omega⟩, hl0, ha0, hE0, hfx, hLE⟩ hl (fun q h => by rcases h with h | h | h; exact Or.inl h; exact Or.inr (Or.inl h); exact Or.inr (Or.inr (by omega))) (r_grow0 hfl Γ H.size a b (m9 + 1) xs f hx80) kJx4a65c_grow_d5877 t_640 (va_recv hK (va_P.one hl0) rfl (q0 := 0) rfl) dJx4a65c_add_7a177_33 rfl rfl (Nat.le_of_ble_eq_true rfl) (by decide) rfl ⟨by decide, by decide⟩ (fun v H4 locs4 hv hS hz4 hk4 => ?_)
    obtain ⟨b', rfl, k1, m8, cap', f', g1, g2, g3, g4, g5, g6⟩ := hv
    dsimp only [Option.toList, List.cons_append, List.nil_append]
    refine lv_astore (lv' := [(4, _), (3, _), (0, _), (1, _), (2, _)]) hx hb dJx4a65c_add_7a177_36 hl (by decide) rfl (fun ls hl => ?_)
    have kz : ∀ z, z ≠ a → z ≠ b → z < H.size → H4[z]? = H[z]? := fun z z1 z2 z3 => hk4 z z3 (fun w => by rcases AL.two z3 w with e | e; exact z1 e; exact z2 e)
    exact tail m8 b' cap' f' H4 locs4 ls _ _ (by decide) (by decide) (Or.inr (by omega)) (by omega) g3 g1 (g5.va (by omega)) g6 (hxe.kept (kz x hxa hxb hxe.lt)) (fun y hy => ⟨(hLE y hy).1, (hLE y hy).2.1, (hLE y hy).2.2.kept (kz y (hLE y hy).1 (hLE y hy).2.1 (hLE y hy).2.2.lt)⟩) (fun y hy => by have := (hLE y hy).2.2.lt; omega) (by have := hxe.lt; omega) hS (lv_sub hl [2, 3, 4, 1, 0] rfl)

set_option maxHeartbeats 1500000 in
set_option maxRecDepth 100000 in
theorem r_ins0 {l : Launch} (hfl : l.stackTraces = false) (Γ : Gm) (N a b c9 q x : Nat) (xs : List Nat) (hx80 : xs.length < 80) (hq : q ≤ xs.length) (hc9 : 1 ≤ c9) : RTc l Γ (AL Γ a b N) yJx4a65c_add_7a177 (wsO yJx4a65c_add_7a177 cJx4a65c_add_7a177 5 none) 6 [.ref a, .int (nI q), .ref x] (fun H => LPr Γ N a b c9 xs H ∧ x ≠ a ∧ x ≠ b ∧ Elt Γ x H) (fun v H => v = none ∧ ∃ b' : Nat, (b' = b ∨ N ≤ b') ∧ LsAt Γ a b' 0 (insA xs q x) H) 0 0 := by
  refine rt_intro hfl (by decide) (Nat.le_of_ble_eq_true rfl) ?_
  intro p e s m args below meth c C hr hnm hP0 ls hl
  have hx := C.1
  have hb := C.2.1
  have hts := C.2.2.2.2.1
  have hK := C.2.2.2.2.2.2.1.2.1.1
  have hS : va_S (AL Γ a b N) s.heap s.heap [] := va_S.rf
  have hl : lv_has ls 5 [(0, .ref a), (1, .int (nI q)), (2, .ref x)] := hl
  obtain ⟨⟨hLB, hLs, hLE⟩, hxa, hxb, hxe⟩ := hP0
  have hA := AL.ge hLB
  have hLB0 := hLB
  obtain ⟨hN, hB1, hB2, hne, hB3, haN, hbN⟩ := hLB
  have hxl := hxe.lt
  have hxe0 := hxe
  have hgE := C.2.2.2.2.2.2.1.2.2.2.2.2.2
  have el : (insA xs q x).length = xs.length + 1 := by unfold insA; rw [List.length_append, List.length_cons, List.length_take, List.length_drop]; omega
  have tail : ∀ (m9 : Int32) (b' cap' : Nat) (f' : Nat → Option Nat) (H : Heap) (locs : List Loc) (ls : Array Slot) (cells slots : Nat), cells ≤ 0 → slots ≤ 0 → (b' = b ∧ b ≠ gE Γ ∨ N ≤ b') → xs.length + 1 ≤ cap' → cap' ≤ 200 → va_at (gD Γ) clX (liC a m9 b' xs.length) H → va_at (gD Γ) clX (arC Γ b' cap' f') H → (∀ j, j < xs.length → f' j = xs[j]?) → Elt Γ x H → LE Γ a b xs H → (∀ y ∈ xs, y ≠ b') → x ≠ b' → va_S (AL Γ a b N) s.heap H locs → lv_has ls 5 [(0, .ref a), (1, .int (nI q)), (2, .ref x), (3, .int (nI xs.length)), (4, .ref b')] →
      W p l e (rmL 6 0 0) s m args below meth c H locs cells slots (MQ below (RQ (AL Γ a b N) (fun v H => v = none ∧ ∃ b' : Nat, (b' = b ∨ N ≤ b') ∧ LsAt Γ a b' 0 (insA xs q x) H)) args s 0 0 (AL Γ a b N)) (F0 m 38 ls []) := by
    intro m9 b' cap' f' H locs ls cells slots hc hs hb' hcap hc2 hl0 ha0 hfx hxe hLE hyb hxb2 hS hl
    have hab : a ≠ b' := by rcases hb' with h | h; rw [h.1]; exact hne; omega
    have hP := va_P.two hl0 ha0
    have hAb : AL Γ a b N b' := by rcases hb' with h | h; exact Or.inr (Or.inl ⟨h.1, h.2⟩); exact Or.inr (Or.inr h)
    have hD : va_D (AL Γ a b N) [liC a m9 b' xs.length, arC Γ b' cap' f'] := va_D.two (Or.inl rfl) hAb hab
    refine lv_aload hx hb dJx4a65c_add_7a177_38 (lv_at hl 4 rfl) ?_
    refine lv_iload_n hx hb dJx4a65c_add_7a177_40 rfl (lv_at hl 1 rfl) ?_
    refine lv_aload hx hb dJx4a65c_add_7a177_41 (lv_at hl 4 rfl) ?_
    refine lv_iload_n hx hb dJx4a65c_add_7a177_43 rfl (lv_at hl 1 rfl) ?_
    refine lv_iconst (v := 1) hx hb dJx4a65c_add_7a177_44 (by decide) ?_
    refine lv_iadd hx hb dJx4a65c_add_7a177_45 ?_
    refine lv_iload_n hx hb dJx4a65c_add_7a177_46 rfl (lv_at hl 3 rfl) ?_
    refine lv_iload_n hx hb dJx4a65c_add_7a177_47 rfl (lv_at hl 1 rfl) ?_
    refine lv_isub hx hb dJx4a65c_add_7a177_48 ?_
    rw [nI_1, pk_sub (a := xs.length) (b := q) (by omega)]
    refine va_copyM hx hb (C.2.2.1.trans hl.1.symm) C.2.2.2.1 (hts _ t_361) (hts _ t_363) (hts _ t_362) (hts _ t_14) hK hP hD hS 1 1 5 5 rfl rfl rfl rfl (nI_pos (by omega)) (nI_pos (by omega)) (nI_pos (by omega)) (by rw [nI_clamp (by omega), nI_clamp (by omega)]; omega) (by rw [nI_clamp (by omega), nI_clamp (by omega)]; omega) (fun i hi y hy => ?_) (by show 1 ≤ 6 + 10; omega) (by show _ + (nativeFrameWords "java/lang/System" "arraycopy" 5 + 11) ≤ 40 * 6 + 200; decide) dJx4a65c_add_7a177_49 (fun H2 locs2 hP2 hD2 hS2 => ?_)
    · rw [nI_clamp (by omega)] at hi hy
      rw [hfx _ (by omega)] at hy
      exact (hLE y (List.mem_of_getElem? hy)).2.2.any C
    · rw [nI_clamp (by omega), nI_clamp (by omega), nI_clamp (by omega)] at hP2 hD2
      refine lv_aload hx hb dJx4a65c_add_7a177_52 (lv_at hl 4 rfl) ?_
      refine lv_iload_n hx hb dJx4a65c_add_7a177_54 rfl (lv_at hl 1 rfl) ?_
      refine lv_aload_n hx hb dJx4a65c_add_7a177_55 rfl (lv_at hl 2 rfl) ?_
      have hxe9 : Elt Γ x H2 := hxe0.kept (hS2.2.1 x hxl (fun w => by rcases AL.two (by omega) w with e | e; exact hxa e; exact hxb e))
      refine va_astqM hx hb hK hP2 hD2 hS2 1 5 rfl rfl (hxe9.any C) (vp_in_nI (by omega) (by omega)) dJx4a65c_add_7a177_56 (fun H3 locs3 hP hD hS => ?_)
      rw [nI_clamp (by omega)] at hP
      have hl0 := hP.fst
      have ha0 := hP.snd
      refine lv_aload_n hx hb dJx4a65c_add_7a177_57 rfl (lv_at hl 0 rfl) ?_
      refine lv_iload_n hx hb dJx4a65c_add_7a177_58 rfl (lv_at hl 3 rfl) ?_
      refine lv_iconst (v := 1) hx hb dJx4a65c_add_7a177_59 (by decide) ?_
      refine lv_iadd hx hb dJx4a65c_add_7a177_60 ?_
      rw [nI_1]
      refine r_putL C hl0 hS (Or.inl rfl) 2 (by decide) rfl rfl rfl rfl dJx4a65c_add_7a177_61 t_82 (fun x h => h) (fun H locs hl0 oq hz hS => ?_)
      replace hl0 : va_at (gD Γ) clX (liC a m9 b' (xs.length + 1)) H := hl0
      replace ha0 := ha0.kept (oq _ (fun h => hab h.symm))
      exact r_vret C hr hS dJx4a65c_add_7a177_64 hc hs ⟨rfl, b', by rcases hb' with h | h; exact Or.inl h.1; exact Or.inr h, m9, cap', _, by rw [el]; exact hl0, by rw [el]; exact hcap, hc2, ⟨fun h => by omega, fun h => by rcases hb' with z | z; exact absurd (z.1.symm.trans h) z.2; omega⟩, ArAt.of ha0 (by omega), fun j hj => by
        rw [el] at hj
        unfold insA
        rcases Nat.lt_trichotomy j q with h | h | h
        · rw [va_up_ne _ _ (by omega), pk_cpy_out (Or.inl (by omega)), hfx j (by omega), List.getElem?_append_left (by rw [List.length_take]; omega), List.getElem?_take, if_pos h]
        · subst h; rw [va_up_self, List.getElem?_append_right (by rw [List.length_take]; omega), List.length_take, Nat.min_eq_left (by omega), Nat.sub_self]; rfl
        · rw [va_up_ne _ _ (by omega), pk_cpy_in (by omega) (by omega), hfx _ (by omega), List.getElem?_append_right (by rw [List.length_take]; omega), List.length_take, Nat.min_eq_left (by omega), show j - q = (j - q - 1) + 1 by omega, List.getElem?_cons_succ, List.getElem?_drop]
          congr 1⟩
  have hLs1 := hLs
  obtain ⟨m9, cap, f, hl0, hcap, hc2, hE0, ha0, hfx⟩ := hLs
  refine lv_aload_n hx hb dJx4a65c_add_7a177_0 rfl (lv_at hl 0 rfl) ?_
  refine lv_iload_n hx hb dJx4a65c_add_7a177_1 rfl (lv_at hl 1 rfl) ?_
  refine g_rV C hS hA hLs1 hl (fun _ h => h.elim) (r_rca hfl Γ a b c9 q xs hq) kJx4a65c_rangeCheckForAdd_d00df t_373 (va_recv hK (va_P.one hl0) rfl (q0 := 0) rfl) dJx4a65c_add_7a177_2 rfl rfl (Nat.le_of_ble_eq_true rfl) (by decide) rfl ⟨by decide, by decide⟩ (fun v H locs hv hS hz0 hk0 => ?_)
  subst hv
  replace hl0 := hl0.kept (hk0 _ hl0.lt (fun h => h))
  replace ha0 := ha0.kept (hk0 _ ha0.lt (fun h => h))
  replace hxe := hxe.kept (hk0 _ hxl (fun h => h))
  replace hLE : LE Γ a b xs H := hLE.kept rfl (fun _ _ z => z.elim) hk0
  dsimp only [Option.toList, List.nil_append]
  refine lv_aload_n hx hb dJx4a65c_add_7a177_5 rfl (lv_at hl 0 rfl) ?_
  refine lv_dup hx hb dJx4a65c_add_7a177_6 rfl ?_
  refine va_get (ref := "java/util/ArrayList") hx hb hts lin C.2.2.2.1 hK (va_P.one hl0) 0 rfl rfl 0 (by decide) (hts _ t_84) (fun x h => u_same (hts _ t_85) x h) (v := .int m9) rfl dJx4a65c_add_7a177_7 ?_
  refine lv_iconst (v := 1) hx hb dJx4a65c_add_7a177_10 (by decide) ?_
  refine lv_iadd hx hb dJx4a65c_add_7a177_11 ?_
  refine r_putL C hl0 hS (Or.inl rfl) 0 (by decide) rfl rfl rfl rfl dJx4a65c_add_7a177_12 t_84 (fun x h => u_same (hts _ t_85) x h) (fun H locs hl0 oq hz hS => ?_)
  replace hl0 : va_at (gD Γ) clX (liC a (m9 + 1) b xs.length) H := hl0
  replace ha0 := ha0.kept (oq _ (fun h => hne h.symm))
  replace hxe := hxe.kept (oq _ hxa)
  replace hLE : LE Γ a b xs H := fun y hy => ⟨(hLE y hy).1, (hLE y hy).2.1, (hLE y hy).2.2.kept (oq _ (hLE y hy).1)⟩
  refine lv_aload_n hx hb dJx4a65c_add_7a177_15 rfl (lv_at hl 0 rfl) ?_
  refine va_get (ref := "java/util/ArrayList") hx hb hts lin C.2.2.2.1 hK (va_P.one hl0) 0 rfl rfl 2 (by decide) (hts _ t_82) (fun x h => h) (v := .int (nI xs.length)) rfl dJx4a65c_add_7a177_16 ?_
  refine lv_dup hx hb dJx4a65c_add_7a177_19 rfl ?_
  refine lv_istore_n (lv' := [(3, _), (0, _), (1, _), (2, _)]) hx hb dJx4a65c_add_7a177_20 rfl hl (by decide) rfl (fun ls hl => ?_)
  refine lv_aload_n hx hb dJx4a65c_add_7a177_21 rfl (lv_at hl 1 rfl) ?_
  refine va_get (ref := "java/util/ArrayList") hx hb hts lin C.2.2.2.1 hK (va_P.one hl0) 0 rfl rfl 1 (by decide) (hts _ t_81) (fun x h => h) (v := .ref b) rfl dJx4a65c_add_7a177_22 ?_
  refine lv_dup hx hb dJx4a65c_add_7a177_25 rfl ?_
  refine lv_astore (lv' := [(4, _), (3, _), (0, _), (1, _), (2, _)]) hx hb dJx4a65c_add_7a177_26 hl (by decide) rfl (fun ls hl => ?_)
  refine r_alenA C ha0 dJx4a65c_add_7a177_28 ?_
  refine lv_icmp_ne (tgt := 38) hx hb dJx4a65c_add_7a177_29 (by decide) (fun c_29 => ?_) (fun c_29 => ?_)
  · have hne2 : xs.length ≠ cap := fun h => c_29 (by rw [h])
    exact tail (m9 + 1) b cap f _ _ ls 0 0 (by decide) (by decide) (Or.inl ⟨rfl, fun h => by have := hE0.mpr h; omega⟩) (by omega) hc2 hl0 (ha0.va (by omega)) hfx hxe hLE (fun y hy => (hLE y hy).2.1) hxb hS (lv_sub hl [2, 3, 4, 1, 0] rfl)
  · have hce : cap = xs.length := by
      rcases Nat.lt_or_ge xs.length cap with h | h
      · exact absurd c_29 (fun z => by have := (nI_eq (by omega) (by omega)).mp z; omega)
      · omega
    omega

set_option maxHeartbeats 1500000 in
set_option maxRecDepth 100000 in
theorem r_remove {l : Launch} (hfl : l.stackTraces = false) (Γ : Gm) (N a b c9 q : Nat) (xs : List Nat) (hq : q < xs.length) : RTc l Γ (AL Γ a b N) yJx4a65c_remove_915e3 (wsO yJx4a65c_remove_915e3 cJx4a65c_remove_915e3 4 (some (.object "java/lang/Object"))) 3 [.ref a, .int (nI q)] (LPr Γ N a b c9 xs) (fun v H => v = some (.ref (xs.getD q 0)) ∧ ∃ b' : Nat, (b' = b ∨ N ≤ b') ∧ LsAt Γ a b' 1 (xs.eraseIdx q) H) 0 0 := by
  refine rt_intro hfl (by decide) (Nat.le_of_ble_eq_true rfl) ?_
  intro p e s m args below meth c C hr hnm hP0 ls hl
  have hx := C.1
  have hb := C.2.1
  have hts := C.2.2.2.2.1
  have hK := C.2.2.2.2.2.2.1.2.1.1
  have hS : va_S (AL Γ a b N) s.heap s.heap [] := va_S.rf
  have hl : lv_has ls 4 [(0, .ref a), (1, .int (nI q))] := hl
  obtain ⟨hLB, hLs, hLE⟩ := hP0
  have hLP := hLs
  have hA := AL.ge hLB
  obtain ⟨hN, hB1, hB2, hne, hB3, haN, hbN⟩ := hLB
  obtain ⟨m9, cap, f, hl0, hcap, hc2, hE0, ha0, hfx⟩ := hLs
  replace ha0 := ha0.va (by omega)
  refine lv_iload_n hx hb dJx4a65c_remove_915e3_0 rfl (lv_at hl 1 rfl) ?_
  refine lv_aload_n hx hb dJx4a65c_remove_915e3_1 rfl (lv_at hl 0 rfl) ?_
  refine va_get (ref := "java/util/ArrayList") hx hb hts lin C.2.2.2.1 hK (va_P.one hl0) 0 rfl rfl 2 (by decide) (hts _ t_82) (fun x h => h) (v := .int (nI xs.length)) rfl dJx4a65c_remove_915e3_2 ?_
  refine g_rS C hS hA trivial hl (fun _ h => h.elim) (r_oci hfl Γ q xs.length hq (by omega)) kJ15_checkIndex_7cf53 t_185 dJx4a65c_remove_915e3_5 rfl rfl (Nat.le_of_ble_eq_true rfl) (by decide) rfl ⟨by decide, by decide⟩ (fun v H locs hv hS hz hk => ?_)
  subst hv
  replace hLP : LsAt Γ a b c9 xs H := hLP.kept (hk _ hLP.lt.1 (fun h => h)) (hk _ hLP.lt.2 (fun h => h))
  replace hl0 := hl0.kept (hk _ hl0.lt (fun h => h))
  replace ha0 := ha0.kept (hk _ ha0.lt (fun h => h))
  replace hLE : LE Γ a b xs H := hLE.kept rfl (fun _ _ z => z.elim) hk
  dsimp only [Option.toList, List.cons_append, List.nil_append]
  refine lv_pop hx hb dJx4a65c_remove_915e3_8 rfl ?_
  refine lv_aload_n hx hb dJx4a65c_remove_915e3_9 rfl (lv_at hl 0 rfl) ?_
  refine va_get (ref := "java/util/ArrayList") hx hb hts lin C.2.2.2.1 hK (va_P.one hl0) 0 rfl rfl 1 (by decide) (hts _ t_81) (fun x h => h) (v := .ref b) rfl dJx4a65c_remove_915e3_10 ?_
  refine lv_astore_n (lv' := [(2, _), (0, _), (1, _)]) hx hb dJx4a65c_remove_915e3_13 rfl hl (by decide) rfl (fun ls hl => ?_)
  refine lv_aload_n hx hb dJx4a65c_remove_915e3_14 rfl (lv_at hl 0 rfl) ?_
  refine lv_iload_n hx hb dJx4a65c_remove_915e3_15 rfl (lv_at hl 2 rfl) ?_
  refine va_aldq hx hb hK (va_P.one ha0) 0 5 rfl rfl (vp_in_nI (by omega) (by omega)) dJx4a65c_remove_915e3_16 ?_
  rw [nI_clamp (by omega), hfx q hq, show xs[q]? = some (xs.getD q 0) from by rw [List.getD_eq_getElem?_getD, List.getElem?_eq_getElem hq]; rfl]
  refine W.eq (g2 := F0 m 17 ls [.ref (xs.getD q 0)]) rfl ?_
  refine lv_astore_n (lv' := [(3, _), (2, _), (0, _), (1, _)]) hx hb dJx4a65c_remove_915e3_17 rfl hl (by decide) rfl (fun ls hl => ?_)
  refine lv_aload_n hx hb dJx4a65c_remove_915e3_18 rfl (lv_at hl 2 rfl) ?_
  refine lv_aload_n hx hb dJx4a65c_remove_915e3_19 rfl (lv_at hl 1 rfl) ?_
  refine lv_iload_n hx hb dJx4a65c_remove_915e3_20 rfl (lv_at hl 3 rfl) ?_
  refine g_rV C hS hA (P := LPr Γ H.size a b c9 xs) ⟨⟨rfl, hB1, by omega, hne, hB3, by omega, by omega⟩, hLP, hLE⟩ hl (fun q h => by rcases h with h | h | h; exact Or.inl h; exact Or.inr (Or.inl h); exact Or.inr (Or.inr (by omega))) (r_fastRemove hfl Γ H.size a b c9 q xs hq) kJx4a65c_fastRemove_b59b0 t_357 (va_recv hK (va_P.one hl0) rfl (q0 := 0) rfl) dJx4a65c_remove_915e3_21 rfl rfl (Nat.le_of_ble_eq_true rfl) (by decide) rfl ⟨by decide, by decide⟩ (fun v H2 locs2 hv hS2 _ _ => ?_)
  obtain ⟨rfl, g1⟩ := hv
  dsimp only [Option.toList, List.nil_append]
  refine lv_aload_n hx hb dJx4a65c_remove_915e3_24 rfl (lv_at hl 0 rfl) ?_
  exact r_aret C hr hS2 (Or.inl ⟨_, rfl⟩) dJx4a65c_remove_915e3_25 (by decide) (by decide) ⟨rfl, b, Or.inl rfl, g1⟩

set_option maxHeartbeats 1500000 in
set_option maxRecDepth 100000 in
theorem r_clear {l : Launch} (hfl : l.stackTraces = false) (Γ : Gm) (N a b c9 : Nat) (xs : List Nat) : RTc l Γ (AL Γ a b N) yJx4a65c_clear_da8c8 (wsO yJx4a65c_clear_da8c8 cJx4a65c_clear_da8c8 4 none) 1 [.ref a] (LPr Γ N a b c9 xs) (fun v H => v = none ∧ ∃ b' : Nat, (b' = b ∨ N ≤ b') ∧ LsAt Γ a b' 0 [] H) 0 0 := by
  refine rt_intro hfl (by decide) (Nat.le_of_ble_eq_true rfl) ?_
  intro p e s m args below meth c C hr hnm hP0 ls hl
  have hx := C.1
  have hb := C.2.1
  have hts := C.2.2.2.2.1
  have hK := C.2.2.2.2.2.2.1.2.1.1
  have hS : va_S (AL Γ a b N) s.heap s.heap [] := va_S.rf
  have hl : lv_has ls 4 [(0, .ref a)] := hl
  obtain ⟨hLB, ⟨m9, cap, f, hl0, hcap, hc2, hE0, ha0, hfx⟩, hLE⟩ := hP0
  have hA := AL.ge hLB
  obtain ⟨hN, hB1, hB2, hne, hB3, haN, hbN⟩ := hLB
  refine lv_aload_n hx hb dJx4a65c_clear_da8c8_0 rfl (lv_at hl 0 rfl) ?_
  refine lv_dup hx hb dJx4a65c_clear_da8c8_1 rfl ?_
  refine va_get (ref := "java/util/ArrayList") hx hb hts lin C.2.2.2.1 hK (va_P.one hl0) 0 rfl rfl 0 (by decide) (hts _ t_84) (fun x h => u_same (hts _ t_85) x h) (v := .int m9) rfl dJx4a65c_clear_da8c8_2 ?_
  refine lv_iconst (v := 1) hx hb dJx4a65c_clear_da8c8_5 (by decide) ?_
  refine lv_iadd hx hb dJx4a65c_clear_da8c8_6 ?_
  refine r_putL C hl0 hS (Or.inl rfl) 0 (by decide) rfl rfl rfl rfl dJx4a65c_clear_da8c8_7 t_84 (fun x h => u_same (hts _ t_85) x h) (fun H locs hl0 oq hz hS => ?_)
  replace hl0 : va_at (gD Γ) clX (liC a (m9 + 1) b xs.length) H := hl0
  replace ha0 := ha0.kept (oq _ (fun h => hne h.symm))
  refine lv_aload_n hx hb dJx4a65c_clear_da8c8_10 rfl (lv_at hl 0 rfl) ?_
  refine va_get (ref := "java/util/ArrayList") hx hb hts lin C.2.2.2.1 hK (va_P.one hl0) 0 rfl rfl 1 (by decide) (hts _ t_81) (fun x h => h) (v := .ref b) rfl dJx4a65c_clear_da8c8_11 ?_
  refine lv_astore_n (lv' := [(1, _), (0, _)]) hx hb dJx4a65c_clear_da8c8_14 rfl hl (by decide) rfl (fun ls hl => ?_)
  refine lv_aload_n hx hb dJx4a65c_clear_da8c8_15 rfl (lv_at hl 1 rfl) ?_
  refine va_get (ref := "java/util/ArrayList") hx hb hts lin C.2.2.2.1 hK (va_P.one hl0) 0 rfl rfl 2 (by decide) (hts _ t_82) (fun x h => h) (v := .int (nI xs.length)) rfl dJx4a65c_clear_da8c8_16 ?_
  refine lv_istore_n (lv' := [(2, _), (1, _), (0, _)]) hx hb dJx4a65c_clear_da8c8_19 rfl hl (by decide) rfl (fun ls hl => ?_)
  refine lv_aload_n hx hb dJx4a65c_clear_da8c8_20 rfl (lv_at hl 2 rfl) ?_
  refine lv_iconst (v := 0) hx hb dJx4a65c_clear_da8c8_21 (by decide) ?_
  refine lv_dup_x1 hx hb dJx4a65c_clear_da8c8_22 rfl rfl ?_
  refine r_putL C hl0 hS (Or.inl rfl) 2 (by decide) rfl rfl rfl rfl dJx4a65c_clear_da8c8_23 t_82 (fun x h => h) (fun H locs hl0 oq hz hS => ?_)
  replace hl0 : va_at (gD Γ) clX (liC a (m9 + 1) b 0) H := hl0
  replace ha0 := ha0.kept (oq _ (fun h => hne h.symm))
  refine lv_istore_n (lv' := [(3, _), (2, _), (1, _), (0, _)]) hx hb dJx4a65c_clear_da8c8_26 rfl hl (by decide) rfl (fun ls hl => ?_)
  suffices K27 : ∀ (n9 j : Nat), xs.length - j < n9 → j ≤ xs.length → ∀ (f' : Nat → Option Nat) (H : Heap) (locs : List Loc) (ls : Array Slot), va_at (gD Γ) clX (liC a (m9 + 1) b 0) H → ArAt Γ b cap f' H → va_S (AL Γ a b N) s.heap H locs → lv_has ls 4 [(0, .ref a), (1, .ref b), (2, .int (nI xs.length)), (3, .int (nI j))] → W p l e (rmL 1 0 0) s m args below meth c H locs 0 0 (MQ below (RQ (AL Γ a b N) (fun v H => v = none ∧ ∃ b' : Nat, (b' = b ∨ N ≤ b') ∧ LsAt Γ a b' 0 [] H)) args s 0 0 (AL Γ a b N)) (F0 m 27 ls []) by
    exact K27 _ 0 (Nat.lt_succ_self _) (Nat.zero_le _) f _ _ _ hl0 ha0 hS (lv_sub hl [3, 2, 1, 0] rfl)
  clear hl hS hl0 ha0 oq hz hfx
  intro n9
  induction n9 with
  | zero => intro j h9; exact absurd h9 (Nat.not_lt_zero _)
  | succ n9 ih =>
    intro j h9 hj f' H locs ls hl0 ha0 hS hl
    refine lv_iload_n hx hb dJx4a65c_clear_da8c8_27 rfl (lv_at hl 3 rfl) ?_
    refine lv_iload_n hx hb dJx4a65c_clear_da8c8_28 rfl (lv_at hl 2 rfl) ?_
    refine lv_icmp_ge (tgt := 42) hx hb dJx4a65c_clear_da8c8_29 (by decide) (fun c_29 => ?_) (fun c_29 => ?_)
    · exact r_vret C hr hS dJx4a65c_clear_da8c8_42 (by decide) (by decide) ⟨rfl, b, Or.inl rfl, m9 + 1, cap, f', hl0, Nat.zero_le _, hc2, hE0, ha0, fun j hj => absurd hj (Nat.not_lt_zero _)⟩
    · have hjl : j < xs.length := by
        rcases Nat.lt_or_ge j xs.length with h | h
        · exact h
        · exact absurd (nI_le (a := xs.length) (b := j) h (by omega)) c_29
      have hbE : b ≠ gE Γ := fun h => by have := hE0.mpr h; omega
      refine lv_aload_n hx hb dJx4a65c_clear_da8c8_32 rfl (lv_at hl 1 rfl) ?_
      refine lv_iload_n hx hb dJx4a65c_clear_da8c8_33 rfl (lv_at hl 3 rfl) ?_
      refine lv_null hx hb dJx4a65c_clear_da8c8_34 ?_
      refine va_astqN hx hb hK (va_P.two hl0 (ha0.va (by omega))) (va_D.two (Or.inl rfl) (Or.inr (Or.inl ⟨rfl, hbE⟩)) hne) hS 1 5 rfl rfl (vp_in_nI (by omega) (by omega)) dJx4a65c_clear_da8c8_35 (fun H locs hP hD hS => ?_)
      refine lv_iinc (k := 3) (v := nI (j + 1)) (lv' := [(3, _), (0, _), (1, _), (2, _)]) hx hb dJx4a65c_clear_da8c8_36 hl rfl (nI_1 j) (by decide) rfl (fun ls hl => ?_)
      refine lv_goto (tgt := 27) hx hb dJx4a65c_clear_da8c8_39 (by decide) ?_
      exact ih (j + 1) (by omega) (by omega) _ _ _ _ hP.fst (ArAt.of hP.snd (by omega)) hS (lv_sub hl [1, 2, 3, 0] rfl)
