/-! the law's begin: desk, model, the two rows, and what holds then -/
def M0 : Mem := sN (sN (mini N2) 39 1) 40 1
theorem vp_2 : VP (mini N2) := vp_of wf_2 ⟨rfl, fun k h1 h2 => if_pos (Or.inr ⟨h1, h2⟩)⟩
theorem wf_3 : Wf (sN (mini N2) 39 1) := wf_2
theorem vp_3 : VP (sN (mini N2) 39 1) := vp_of wf_3 ⟨rfl, fun k h1 h2 => (if_neg (by omega)).trans (if_pos (Or.inr ⟨h1, h2⟩))⟩
theorem wf_4 : Wf M0 := wf_3
theorem inv_0 : INV 0 M0 := by
  have n7 : ∀ k, 20 ≤ k → k ≤ 38 → mN M0 k = 1 := fun k h1 h2 => (if_neg (by omega)).trans ((if_neg (by omega)).trans (if_pos (Or.inr ⟨h1, h2⟩)))
  have z0 : ∀ k j i, k ≠ 15 → k ≠ 21 → mT M0 k j i = 0 := fun k j i h1 h2 => by
    show iT k j i = 0
    unfold iT
    split
    · exact absurd rfl h1
    · exact absurd rfl h2
    · rfl
  refine ⟨wf_4, ⟨⟨rfl, n7⟩, ⟨rfl, rfl, rfl, rfl, rfl, rfl, rfl, rfl, rfl, rfl⟩, fun c hc => rfl, fun c hc => rfl, fun k hk => absurd hk (Nat.not_lt_zero _), fun t ht => absurd ht (Nat.not_lt_zero _), fun t h1 h2 => ⟨rfl, rfl, rfl, rfl⟩, fun a ha => absurd ha (Nat.not_lt_zero _), fun a h1 h2 => rfl, fun q hq => absurd hq (Nat.not_lt_zero _), fun j h1 h2 => rfl⟩, ⟨rfl, rfl⟩,
    ⟨fun i hi => absurd hi (Nat.not_lt_zero _), fun i hi => absurd hi (Nat.not_lt_zero _), fun i hi => absurd hi (Nat.not_lt_zero _)⟩, fun q hq => ⟨fun x => ⟨fun z => (nomatch (show x ∈ ([] : List Nat) from z)), fun z => absurd z.1 (Nat.not_lt_zero _)⟩, List.Pairwise.nil⟩, fun i hi => absurd hi (Nat.not_lt_zero _),
    ⟨fun i => ⟨Or.inl rfl, Or.inl rfl, fun z => rfl, fun z => absurd rfl z, fun hi => absurd hi (Nat.not_lt_zero _)⟩, fun a => ⟨Or.inl rfl, 0, by omega, rfl⟩, fun a ha => absurd ha (Nat.not_lt_zero _), fun k hk => absurd hk (Nat.not_lt_zero _), fun a ha => absurd ha (Nat.not_lt_zero _), fun a ha => absurd ha (Nat.not_lt_zero _)⟩,
    ⟨fun _ => 0, fun u v h => (nomatch (show (none : Option Nat) = some v from h))⟩, fun a ha => absurd ha (Nat.not_lt_zero _), ⟨fun i hi => absurd hi (Nat.not_lt_zero _), fun v a hv ha => ⟨fun z => ?_, fun z => absurd z.1 (Nat.not_lt_zero _)⟩⟩, ⟨0, Nat.zero_le _, rfl⟩, fun i hi => absurd hi (Nat.not_lt_zero _), fun c hc => ?_, ⟨0, Nat.zero_le _, rfl⟩, ⟨0, Nat.zero_le _, rfl⟩⟩
  · rw [z0 16 v 0 (by decide) (by decide), Int32.zero_shiftRight] at z
    exact absurd z (by decide)
  · match c, hc with
    | 0, _ => exact ⟨240, by omega, rfl⟩
    | 1, _ => exact ⟨120, by omega, rfl⟩
    | 2, _ => exact ⟨30, by omega, rfl⟩
    | c + 3, h => exact absurd h (by omega)
section BEGIN
variable {p : Program} {l : Launch} {e : Env} {R : Room} {s : State} {m : MethodId} {args : Array Value} {below : List Frame} {meth : Method} {c : Code} {H : Heap} {locs : List Loc} {cells slots : Nat} {Q : State → Prop}
variable {cc : ByteArray} {nL : Nat} {own : String} {Γ : Gm} {A : Nat → Prop} {pc : Nat} {ls : Array Slot} {rest : List Value}
variable {A' : Nat → Prop} {y : MethodName} {bytes : ByteArray} {maxL na n' idx mc ms b : Nat} {As st : List Value} {lvs : List (Nat × Value)} {P : Heap → Prop} {post : Option Value → Heap → Prop}
theorem g_rIL (C : Cx Γ p l s m args meth c cc nL own) (hS : va_S A s.heap H locs) (hA : ∀ q, A q → gB Γ ≤ q) (hP : P H) (hl : lv_has ls nL lvs) (hA' : ∀ q, A' q → A q)
    (callee : RTc l Γ A' y (wsO y bytes maxL none) n' (.ref b :: As) P post mc ms) (hk : CeeI y bytes maxL na) (hlk : Cond.methodLink own idx y ∈ lw_good)
    (hdg : decode cc pc = .ok (.invokespecial idx, 3))
    (hn : As.length = na) (hst : st = As.reverse ++ .ref b :: rest) (hW : (rest.map fun v => v.category).sum ≤ 8) (hlev : n' ≤ 30) (hR : RmL R) (hf : cells + mc ≤ R.cells ∧ slots + ms ≤ R.slots)
    (kk : GoesR p l e R s m args below meth c H (cells + mc) (slots + ms) Q A A' pc ls rest post) : W p l e R s m args below meth c H locs cells slots Q (F0 m pc ls st) := by
  obtain ⟨g1, g3, g4, g2, g5, g6⟩ := hk
  have hts := C.2.2.2.2.1
  exact r_goes (Qa := (Value.ref b :: As).toArray) hS hA' (va_runI (Ts := lw_good) (As := As) (rest := rest) ⟨C.1, C.2.1, C.2.2.1, C.2.2.2.1, C.2.2.2.2.1⟩ callee (cwI na hts (good_in (wsO_in g4)) rfl rfl rfl (hts _ g3) (hts _ hlk) (hts _ g1) g2 g5 (rm_okL hlev g6 hR)) ⟨RP_blind, fun U hU hW => ⟨rfl, C.move hS hA hU hW, by rw [hU]; exact hP⟩⟩ rfl hn hl.1 hst (lv_room hW) hdg hf) kk
end BEGIN
set_option maxHeartbeats 8000000 in
set_option maxRecDepth 100000 in
theorem law_body {l : Launch} (hfl : l.stackTraces = false) {Γ : Gm} {p : Program} {e : Env} {R : Room} {s : State} {m : MethodId} {args : Array Value} {below : List Frame} {meth : Method} {c : Code} {Q : State → Prop} {a0 n : Nat} {f : Nat → Int32}
    (C : Cx Γ p l s m args meth c cL_law 9 RL) (hB : gB Γ = s.heap.size) (hRm : RmL R) (hRc : 570000 ≤ R.cells) (hRs : 7170000 ≤ R.slots) (hin : InA s a0 n f) (ha0 : a0 < gB Γ) (hn : n ≤ 3072)
    (hend : ∀ (H : Heap) (locs : List Loc) (cells slots : Nat) (ls : Array Slot), va_S (gFree Γ) s.heap H locs → cells ≤ R.cells → slots ≤ R.slots → ls.size = 9 → W p l e R s m args below meth c H locs cells slots Q (F0 m 2503 ls []))
    (ls : Array Slot) (hl : lv_has ls 9 [(0, .ref a0)]) : W p l e R s m args below meth c s.heap [] 0 0 Q (F0 m 0 ls []) := by
  have hx := C.1
  have hb := C.2.1
  have hXS := C.2.2.2.2.2.2.1.2.2
  have hgE : gE Γ < gB Γ := hXS.2.2.2.2
  have hEm : EmpAt Γ (gE Γ) s.heap := hXS.2.2.2.1
  have hA : ∀ q, gFree Γ q → gB Γ ≤ q := fun _ h => h
  have hS : va_S (gFree Γ) s.heap s.heap [] := va_S.rf
  -- the desk
  refine r_newO (fs := [.null, .null, .null, .null, .null, .null, .null, .null, .null, .int 0, .int 0, .int 0, .int 0, .long 0, .long 0]) C ck_6 hS t_35 t_36 t_1 (fun j hj => ?_) (by omega) (by omega) dL_law_0 (fun H1 z1 o1 v1 hS1 => ?_)
  · match j, hj with
    | 0, _ => rfl
    | 1, _ => rfl
    | 2, _ => rfl
    | 3, _ => rfl
    | 4, _ => rfl
    | 5, _ => rfl
    | 6, _ => rfl
    | 7, _ => rfl
    | 8, _ => rfl
    | 9, _ => rfl
    | 10, _ => rfl
    | 11, _ => rfl
    | 12, _ => rfl
    | 13, _ => rfl
    | 14, _ => rfl
    | j + 15, h => exact absurd h (by omega)
  refine lv_dup hx hb dL_law_3 rfl ?_
  refine g_rIL (P := _) C hS1 hA (hP := ⟨z1.trans rfl, by omega, by omega, by omega, v1⟩) hl (fun z hz => by show gB Γ ≤ z; rcases hz with hz | hz <;> omega) (r_i6 hfl Γ (s.heap.size + 1) s.heap.size) kX6_init t_37 dL_law_4 rfl rfl (Nat.le_of_ble_eq_true rfl) (by decide) hRm ⟨by omega, by omega⟩ ?_
  intro v2 H2 locs2 hp2 hS2 z2 o2
  obtain ⟨rfl, hd2⟩ := hp2
  have ho2 : ∀ x : Nat, x < s.heap.size → H2[x]? = s.heap[x]? := fun x h => hS2.2.1 x h (fun z => by have z : gB Γ ≤ x := z; omega)
  obtain ⟨K, k6, hM2⟩ := HM.desk (H0 := s.heap) hgE (by omega) (Nat.le_refl _) (by omega) (hEm.kept (ho2 _ (by omega))) hd2 ho2
  have w2 : s.heap.size < H2.size := by omega
  refine lv_astore_n (lv' := [(1, .ref s.heap.size), (0, .ref a0)]) hx hb dL_law_7 rfl hl (by decide) rfl (fun ls hl => ?_)
  -- the model
  refine r_newO (fs := [.null, .null, .null, .null, .null, .null, .null, .null, .null, .null, .null, .null, .null, .null, .null, .null, .null, .null, .null, .int 0, .int 0, .int 0, .int 0, .int 0, .int 0, .int 0, .int 0, .int 0, .int 0, .long 0]) C ck_7 hS2 t_1292 t_1293 t_7 (fun j hj => ?_) (by omega) (by omega) dL_law_8 (fun H3 z3 o3 v3 hS3 => ?_)
  · match j, hj with
    | 0, _ => rfl
    | 1, _ => rfl
    | 2, _ => rfl
    | 3, _ => rfl
    | 4, _ => rfl
    | 5, _ => rfl
    | 6, _ => rfl
    | 7, _ => rfl
    | 8, _ => rfl
    | 9, _ => rfl
    | 10, _ => rfl
    | 11, _ => rfl
    | 12, _ => rfl
    | 13, _ => rfl
    | 14, _ => rfl
    | 15, _ => rfl
    | 16, _ => rfl
    | 17, _ => rfl
    | 18, _ => rfl
    | 19, _ => rfl
    | 20, _ => rfl
    | 21, _ => rfl
    | 22, _ => rfl
    | 23, _ => rfl
    | 24, _ => rfl
    | 25, _ => rfl
    | 26, _ => rfl
    | 27, _ => rfl
    | 28, _ => rfl
    | 29, _ => rfl
    | j + 30, h => exact absurd h (by omega)
  refine lv_dup hx hb dL_law_11 rfl ?_
  refine g_rIL (P := _) C hS3 hA (hP := ⟨z3.trans rfl, by omega, by omega, by omega, v3⟩) hl (fun z hz => by show gB Γ ≤ z; rcases hz with hz | hz <;> omega) (r_i7 hfl Γ (H2.size + 1) H2.size) kX7_init t_1294 dL_law_12 rfl rfl (Nat.le_of_ble_eq_true rfl) (by decide) hRm ⟨by omega, by omega⟩ ?_
  intro v4 H4 locs4 hp4 hS4 z4 o4
  obtain ⟨rfl, as, has, hm4, h74⟩ := hp4
  have ho4 : ∀ x : Nat, x < H2.size → H4[x]? = H2[x]? := fun x h => (o4 x (by omega) (fun z => by rcases z with z | z <;> omega)).trans (o3 x h)
  have hM4 := HM.model hM2 (by omega) (Nat.le_refl _) (by omega) has hm4 h74 ho4
  refine lv_astore_n (lv' := [(2, .ref H2.size), (1, .ref s.heap.size), (0, .ref a0)]) hx hb dL_law_15 rfl hl (by decide) rfl (fun ls hl => ?_)
  -- the two rows
  refine lv_iconst (v := 1) hx hb dL_law_16 (by decide) ?_
  refine r_newA (atype := .long) (t := 3) (n := 1) (a0 := (1, .inr (.inl fun _ => 0))) C hS4 t_1663 rfl (fun Z z => by cases z) (fun cA => ?_) rfl (by omega) (by omega) (by omega) dL_law_17 (fun H5 z5 o5 v5 hS5 => ?_)
  · first | rfl | exact vp_cell_l _ _ _
  have hM5 := HM.one (k := 39) hM4 vp_2 (by omega) rfl (by omega) o5 (Nat.le_refl _) (fun K' => v5)
  refine lv_astore_n (lv' := [(3, .ref H4.size), (2, .ref H2.size), (1, .ref s.heap.size), (0, .ref a0)]) hx hb dL_law_19 rfl hl (by decide) rfl (fun ls hl => ?_)
  refine lv_iconst (v := 1) hx hb dL_law_20 (by decide) ?_
  refine r_newA (atype := .double) (t := 4) (n := 1) (a0 := (1, .inr (.inr (.inr (.inl fun _ => 0))))) C hS5 t_1664 rfl (fun Z z => by cases z) (fun cA => ?_) rfl (by omega) (by omega) (by omega) dL_law_21 (fun H6 z6 o6 v6 hS6 => ?_)
  · first | rfl | exact vp_cell_d _ _ _
  have hM6 := HM.one (k := 40) hM5 vp_3 (by omega) rfl (by omega) o6 (Nat.le_refl _) (fun K' => v6)
  refine lv_astore (lv' := [(4, .ref H5.size), (3, .ref H4.size), (2, .ref H2.size), (1, .ref s.heap.size), (0, .ref a0)]) hx hb dL_law_23 hl (by decide) rfl (fun ls hl => ?_)
  refine lv_iconst (v := 0) hx hb dL_law_25 (by decide) ?_
  refine lv_istore (lv' := [(5, .int 0), (4, .ref H5.size), (3, .ref H4.size), (2, .ref H2.size), (1, .ref s.heap.size), (0, .ref a0)]) hx hb dL_law_26 hl (by decide) rfl (fun ls hl => ?_)
  have hl : lv_has ls 9 (LV (upK (upK (kM K H2.size as) 39 0 H4.size) 40 0 H5.size) a0 (6 * 0)) := by
    have hl := lv_sub hl (l' := [(0, .ref a0), (1, .ref s.heap.size), (2, .ref H2.size), (3, .ref H4.size), (4, .ref H5.size), (5, .int 0)]) [5, 4, 3, 2, 1, 0] rfl
    rw [← k6] at hl
    exact hl
  exact law_loop hfl C hRm hin ha0 hn hend 514 0 (by omega) (by omega) (by omega) _ M0 _ _ _ _ _ inv_0 hM6 hS6 hl (by omega) (by omega)
