theorem t_363 : (Cond.native ⟨"java/lang/System", "arraycopy", "(Ljava/lang/Object;ILjava/lang/Object;II)V"⟩) ∈ lw_good := t_of (i := 363) (by decide +kernel) (by decide +kernel)
theorem t_673 : (Cond.native ⟨"java/lang/Object", "getClass", "()Ljava/lang/Class;"⟩) ∈ lw_good := t_of (i := 673) (by decide +kernel) (by decide +kernel)
theorem t_1695 : (Cond.selects "[Ljava/lang/Object;" ⟨"java/lang/Object", "getClass", "()Ljava/lang/Class;"⟩ ⟨"java/lang/Object", "getClass", "()Ljava/lang/Class;"⟩) ∈ lw_good := t_of (i := 1695) (by decide +kernel) (by decide +kernel)
theorem n_1696 : (Cond.declares ⟨"java/lang/Object", "getClass", "()Ljava/lang/Class;"⟩) ∈ lw_nst := List.mem_filter.mpr ⟨List.mem_of_getElem? (i := 1696) (by decide +kernel), rfl⟩
theorem lin : ∀ w ∈ u_ws RJx4a65c TJx4a65c 3, w ∈ lw_good := by decide +kernel
abbrev liC (a : Nat) (m : Int32) (b n : Nat) : Nat × va_E := (a, .inr (8, [.int m, .ref b, .int (nI n)]))
abbrev arC (Γ : Gm) (b cap : Nat) (f : Nat → Option Nat) : Nat × va_E := (b, .inl (gA Γ 5, cap, rE f))
theorem r_alenA {p : Program} {l : Launch} {e : Env} {R : Room} {s : State} {m : MethodId} {args : Array Value} {below : List Frame} {meth : Method} {c : Code} {H : Heap} {locs : List Loc} {cells slots : Nat} {Q : State → Prop} {cc : ByteArray} {nL : Nat} {own : String} {Γ : Gm} {pc : Nat} {ls : Array Slot} {rest : List Value} {b cap : Nat} {f : Nat → Option Nat} (C : Cx Γ p l s m args meth c cc nL own) (h : ArAt Γ b cap f H) (hdg : decode cc pc = .ok (.arraylength, 1))
    (kk : W p l e R s m args below meth c H locs cells slots Q (F0 m (pc + 1) ls (.int (nI cap) :: rest))) : W p l e R s m args below meth c H locs cells slots Q (F0 m pc ls (.ref b :: rest)) := by
  have hK := C.2.2.2.2.2.2.1.2.1.1
  by_cases z : cap = 0
  · subst z
    obtain ⟨cell, h1, h2, h3, h4, h5⟩ := h.1 rfl
    obtain ⟨-, k, k1, k2⟩ := (hK.2 5 _ rfl).1 0 (fun _ => .null)
    exact W.alen (n := Int32.ofNat 0) C.1 C.2.1 h1 ⟨h5, k, by rw [h2]; exact k1, k2⟩ (by rw [h3] <;> rfl) rfl rfl hdg kk
  · exact va_alen C.1 C.2.1 hK (va_P.one (h.va z)) 0 5 rfl rfl rfl hdg kk
/-- which cells a list's method writes -/
def AL (Γ : Gm) (a b N : Nat) : Nat → Prop := fun q => q = a ∨ (q = b ∧ b ≠ gE Γ) ∨ N ≤ q
def LE (Γ : Gm) (a b : Nat) (xs : List Nat) (H : Heap) : Prop := ∀ x ∈ xs, x ≠ a ∧ x ≠ b ∧ Elt Γ x H
def LB (Γ : Gm) (N a b : Nat) (H : Heap) : Prop := H.size = N ∧ gB Γ ≤ a ∧ gB Γ ≤ N ∧ a ≠ b ∧ (b ≠ gE Γ → gB Γ ≤ b) ∧ a < N ∧ b < N
def LPr (Γ : Gm) (N a b c : Nat) (xs : List Nat) (H : Heap) : Prop := LB Γ N a b H ∧ LsAt Γ a b c xs H ∧ LE Γ a b xs H
theorem AL.ge {Γ : Gm} {N a b : Nat} {H : Heap} (h : LB Γ N a b H) : ∀ q, AL Γ a b N q → gB Γ ≤ q := by
  obtain ⟨h1, h2, h3, h4, h5, h6, h7⟩ := h
  intro q hq
  rcases hq with rfl | ⟨rfl, hne⟩ | hq
  · exact h2
  · exact h5 hne
  · omega
theorem LE.kept {Γ : Gm} {N a b : Nat} {xs : List Nat} {H H1 : Heap} {A : Nat → Prop} (h : LE Γ a b xs H) (hN : N = H.size) (hA : ∀ q, q < N → A q → q = a ∨ q = b) (hq : ∀ q : Nat, q < H.size → ¬ A q → H1[q]? = H[q]?) : LE Γ a b xs H1 := by
  intro x hx
  obtain ⟨h1, h2, h3⟩ := h x hx
  have hlt := h3.lt
  exact ⟨h1, h2, h3.kept (hq x hlt (fun z => by rcases hA x (by omega) z with e | e; exact h1 e; exact h2 e))⟩
theorem AL.two {Γ : Gm} {N a b q : Nat} (hq : q < N) (h : AL Γ a b N q) : q = a ∨ q = b := by
  rcases h with h | h | h
  · exact Or.inl h
  · exact Or.inr h.1
  · omega
theorem HMB.lp {Γ : Gm} {K : Nat → Nat → Nat} {M : Mem} {B : Nat → Nat → Nat} {H : Heap} (h : HMB Γ K M B H) {k i : Nat} (hk : isLs k = true) (hi : i < mN M k) (hv : ∀ x ∈ mL M k i, x < mN M (eK k)) (hs : gB Γ ≤ H.size) : LPr Γ H.size (K k i) (B k i) (mC M k i) ((mL M k i).map (K (eK k))) H := by
  have hM := h.hm
  obtain ⟨h1, h2, h3, h4, h5, h6⟩ := h
  have hLs := h2 k i hk hi
  have hk8 : 8 ≤ k := by unfold isLs at hk; simp at hk; exact hk.1
  have he5 : eK k < 5 := by unfold eK; split <;> omega
  have hbK : ∀ k' i', i' < mN M k' → K k' i' ≠ B k i := fun k' i' hi' => by
    by_cases e : B k i = gE Γ
    · have := h5 k' i' hi'; omega
    · exact (h3 k i hk hi e).2.1 k' i' hi'
  refine ⟨⟨rfl, h5 k i hi, hs, hbK k i hi, fun e => (h3 k i hk hi e).1, hM.lt hi, hLs.lt.2⟩, hLs, fun x hx => ?_⟩
  obtain ⟨y, hy, rfl⟩ := List.mem_map.mp hx
  have hy2 := hv y hy
  exact ⟨fun z => by have := (h4 _ _ _ _ hy2 hi z).1; omega, hbK _ _ hy2, hM.elt he5 hy2⟩
theorem arr_cls {D : va_G} {cl : List vw_C} {tys : List (ClassId × FieldType)} {s : State} {C : String} {cA cB : ClassId} (h1 : va_K D cl (tys ++ [(cA, .object C)]) s) {t : Nat} (h2 : tys[t]? = some (cB, .object C)) : cA = cB := by
  have k1 := (h1.2 tys.length (cA, .object C) (by rw [List.getElem?_append_right (Nat.le_refl _), Nat.sub_self]; rfl)).2
  have k2 := (h1.2 t (cB, .object C) (by rw [List.getElem?_append_left (List.getElem?_eq_some_iff.mp h2).1]; exact h2)).2
  exact Option.some.inj ((va_nmO k1 rfl).symm.trans (va_nmO k2 rfl))
section RPUT
variable {p : Program} {l : Launch} {e : Env} {R : Room} {s : State} {m : MethodId} {args : Array Value} {below : List Frame} {meth : Method} {c : Code} {H : Heap} {locs : List Loc} {cells slots : Nat} {Q : State → Prop}
variable {cc : ByteArray} {nL : Nat} {own : String} {Γ : Gm} {A : Nat → Prop} {pc : Nat} {ls : Array Slot} {rest : List Value}
/-- a field of a list's own cell is written; no other cell is -/
theorem r_putL {a idx : Nat} {fs : List Value} {v : Value} (C : Cx Γ p l s m args meth c cc nL own) (h : va_at (gD Γ) clX (a, .inr (8, fs)) H) (hS : va_S A s.heap H locs) (hAa : A a) (j : Nat) (hj : j < 3) (hl : fs.length = 3) (hfin : (TJx4a65c j).2.2.2 = false) (hn : narrow (tyJx4a65c j) v = v) (hfit : fits (tyJx4a65c j) v = true) (hdg : decode cc pc = .ok (.putfield idx, 3))
    (hlk : Cond.fieldLink own idx "java/util/ArrayList" (TJx4a65c j).2.1 (TJx4a65c j).2.2.1 ∈ lw_good) (hsame : ∀ x, s.fieldFound? (TJx4a65c j).1 (TJx4a65c j).2.1 (TJx4a65c j).2.2.1 = some x → s.fieldFound? "java/util/ArrayList" (TJx4a65c j).2.1 (TJx4a65c j).2.2.1 = some x)
    (kk : ∀ (H1 : Heap) (locs1 : List Loc), va_at (gD Γ) clX (a, .inr (8, fs.set j v)) H1 → (∀ q : Nat, q ≠ a → H1[q]? = H[q]?) → H1.size = H.size → va_S A s.heap H1 locs1 → W p l e R s m args below meth c H1 locs1 cells slots Q (F0 m (pc + 3) ls rest)) : W p l e R s m args below meth c H locs cells slots Q (F0 m pc ls (v :: .ref a :: rest)) := by
  obtain ⟨hx, hb, hml, hown, hts, hlocks, hCX, -⟩ := C
  have hK := hCX.2.1.1
  have hc : clX[8]? = some (RJx4a65c, TJx4a65c, 3) := rfl
  have hap := va_apart (own := own) hts lin tyJx4a65c tyJx4a65c_ok nmJx4a65c hK hc
  obtain ⟨r, h1, cell, q1, q2, q3, q4⟩ := h
  have hr : r = (RJx4a65c, TJx4a65c, 3) := Option.some.inj (h1.symm.trans hc)
  subst hr
  obtain ⟨hSl, hfc, kC, hkC, hkind⟩ := hK.1 8 _ hc
  obtain ⟨cf, kf, fi, f, hf, hsl⟩ := hSl j hj
  have hlay := hts _ (lin _ (u_in_lay hj))
  unfold u_lay at hlay
  rw [if_neg (by rw [hfin]; decide)] at hlay
  have hst := (u_facts hfc hkC (u_lays hts lin hj) hf).1
  have h6 := u_store hfc hkC hkind hlay hf (tyJx4a65c_ok j hj) hn hfit
  refine W.putK hx hb (f := f) ⟨hown, hts _ hlk, ⟨_, _, _, hsame _ hf⟩, hst⟩ (by rw [q2]; exact h6) q1 q3 (by rw [hsl]; exact k2_hasslot (q4 j hj)) rfl rfl hdg fun H' e1 e2 e3 => ?_
  rw [hsl] at e1 ⊢
  exact kk H' _ ⟨_, hc, t_OB.to (V := updV (vp_V fs) j v) ⟨_, e1, q2, q3, t_set q4 hap hj v⟩ (fun b _ => vp_updV_set (by omega) v b)⟩ e3 e2 (hS.put e2 e3 hAa)
end RPUT
theorem cl0 : (0 : Int32).toNatClampNeg = 0 := by decide

set_option maxHeartbeats 1500000 in
set_option maxRecDepth 100000 in
theorem r_newLength {l : Launch} (hfl : l.stackTraces = false) (Γ : Gm) (n mg pg : Nat) (h0 : 0 < n + max mg pg) (h1 : n + max mg pg < 1000) : RTc l Γ (pF) yJ8_newLength_cabcc (wsO yJ8_newLength_cabcc cJ8_newLength_cabcc 4 (some .int)) 1 [.int (nI n), .int (nI mg), .int (nI pg)] (fun _ => True) (fun v _ => v = some (.int (nI (n + max mg pg)))) 0 0 := by
  refine rt_intro hfl (by decide) (Nat.le_of_ble_eq_true rfl) ?_
  intro p e s m args below meth c C hr hnm hP0 ls hl
  have hx := C.1
  have hb := C.2.1
  have hts := C.2.2.2.2.1
  have hK := C.2.2.2.2.2.2.1.2.1.1
  have hS : va_S (pF) s.heap s.heap [] := va_S.rf
  have hl : lv_has ls 4 [(0, .int (nI n)), (1, .int (nI mg)), (2, .int (nI pg))] := hl
  have e9 : nI n + (if nI mg < nI pg then nI pg else nI mg) = nI (n + max mg pg) := by
    by_cases h : mg < pg
    · rw [if_pos (nI_lt h (by omega)), nI_add, Nat.max_eq_right (by omega)]
    · rw [if_neg (nI_nlt (by omega) (by omega)), nI_add, Nat.max_eq_left (by omega)]
  refine lv_iload_n hx hb dJ8_newLength_cabcc_0 rfl (lv_at hl 0 rfl) ?_
  refine lv_iload_n hx hb dJ8_newLength_cabcc_1 rfl (lv_at hl 1 rfl) ?_
  refine lv_iload_n hx hb dJ8_newLength_cabcc_2 rfl (lv_at hl 2 rfl) ?_
  refine g_mmax C hl t_444 rfl (Nat.le_of_ble_eq_true rfl) (by decide) (by decide) dJ8_newLength_cabcc_3 ?_
  refine lv_iadd hx hb dJ8_newLength_cabcc_6 ?_
  refine lv_istore_n (lv' := [(3, _), (0, _), (1, _), (2, _)]) hx hb dJ8_newLength_cabcc_7 rfl hl (by decide) rfl (fun ls hl => ?_)
  refine lv_iconst (v := 0) hx hb dJ8_newLength_cabcc_8 (by decide) ?_
  refine lv_iload_n hx hb dJ8_newLength_cabcc_9 rfl (lv_at hl 0 rfl) ?_
  refine lv_icmp_ge (tgt := 21) hx hb dJ8_newLength_cabcc_10 (by decide) (fun c_10 => ?_) (fun c_10 => ?_)
  · exact absurd c_10 (by rw [e9]; exact nI_nle (by omega) (by omega))
  · skip
    refine lv_iload_n hx hb dJ8_newLength_cabcc_13 rfl (lv_at hl 0 rfl) ?_
    refine lv_ldc hx hb C.2.2.2.1 (hts _ t_447) dJ8_newLength_cabcc_14 ?_
    refine lv_icmp_gt (tgt := 21) hx hb dJ8_newLength_cabcc_16 (by decide) (fun c_16 => ?_) (fun c_16 => ?_)
    · exact absurd c_16 (by rw [e9]; exact nI_nlt (a := 2147483639) (by omega) (by decide))
    · skip
      refine lv_iload_n hx hb dJ8_newLength_cabcc_19 rfl (lv_at hl 0 rfl) ?_
      exact r_iret C hr hS dJ8_newLength_cabcc_20 (by decide) (by decide) (by rw [e9])

theorem kJ8_newLength_cabcc : CeeS yJ8_newLength_cabcc cJ8_newLength_cabcc 4 (some .int) 3 := ⟨t_of (i := 442) (by decide +kernel) (by decide +kernel), t_20, t_of (i := 443) (by decide +kernel) (by decide +kernel), by decide +kernel, by decide⟩

set_option maxHeartbeats 1500000 in
set_option maxRecDepth 100000 in
theorem r_pci {l : Launch} (hfl : l.stackTraces = false) (Γ : Gm) (q n : Nat) (hq : q < n) (hn : n < 2 ^ 31) : RTc l Γ (pF) yJ3_checkIndex_8e157 (wsO yJ3_checkIndex_8e157 cJ3_checkIndex_8e157 3 (some .int)) 0 [.int (nI q), .int (nI n), .null] (fun _ => True) (fun v _ => v = some (.int (nI q))) 0 0 := by
  refine rt_intro hfl (by decide) (Nat.le_of_ble_eq_true rfl) ?_
  intro p e s m args below meth c C hr hnm hP0 ls hl
  have hx := C.1
  have hb := C.2.1
  have hts := C.2.2.2.2.1
  have hK := C.2.2.2.2.2.2.1.2.1.1
  have hS : va_S (pF) s.heap s.heap [] := va_S.rf
  have hl : lv_has ls 3 [(0, .int (nI q)), (1, .int (nI n)), (2, .null)] := hl
  refine lv_iload_n hx hb dJ3_checkIndex_8e157_0 rfl (lv_at hl 0 rfl) ?_
  refine lv_if_lt (tgt := 9) hx hb dJ3_checkIndex_8e157_1 (by decide) (fun c_1 => ?_) (fun c_1 => ?_)
  · exact absurd c_1 (nI_pos (by omega))
  · skip
    refine lv_iload_n hx hb dJ3_checkIndex_8e157_4 rfl (lv_at hl 0 rfl) ?_
    refine lv_iload_n hx hb dJ3_checkIndex_8e157_5 rfl (lv_at hl 1 rfl) ?_
    refine lv_icmp_lt (tgt := 16) hx hb dJ3_checkIndex_8e157_6 (by decide) (fun c_6 => ?_) (fun c_6 => ?_)
    · skip
      refine lv_iload_n hx hb dJ3_checkIndex_8e157_16 rfl (lv_at hl 0 rfl) ?_
      exact r_iret C hr hS dJ3_checkIndex_8e157_17 (by decide) (by decide) rfl
    · exact absurd (nI_lt hq hn) c_6

theorem kJ3_checkIndex_8e157 : CeeS yJ3_checkIndex_8e157 cJ3_checkIndex_8e157 3 (some .int) 3 := ⟨t_of (i := 189) (by decide +kernel) (by decide +kernel), t_13, t_of (i := 190) (by decide +kernel) (by decide +kernel), by decide +kernel, by decide⟩

set_option maxHeartbeats 1500000 in
set_option maxRecDepth 100000 in
theorem r_oci {l : Launch} (hfl : l.stackTraces = false) (Γ : Gm) (q n : Nat) (hq : q < n) (hn : n < 2 ^ 31) : RTc l Γ (pF) yJ15_checkIndex_7cf53 (wsO yJ15_checkIndex_7cf53 cJ15_checkIndex_7cf53 2 (some .int)) 1 [.int (nI q), .int (nI n)] (fun _ => True) (fun v _ => v = some (.int (nI q))) 0 0 := by
  refine rt_intro hfl (by decide) (Nat.le_of_ble_eq_true rfl) ?_
  intro p e s m args below meth c C hr hnm hP0 ls hl
  have hx := C.1
  have hb := C.2.1
  have hts := C.2.2.2.2.1
  have hK := C.2.2.2.2.2.2.1.2.1.1
  have hS : va_S (pF) s.heap s.heap [] := va_S.rf
  have hl : lv_has ls 2 [(0, .int (nI q)), (1, .int (nI n))] := hl
  refine lv_iload_n hx hb dJ15_checkIndex_7cf53_0 rfl (lv_at hl 0 rfl) ?_
  refine lv_iload_n hx hb dJ15_checkIndex_7cf53_1 rfl (lv_at hl 1 rfl) ?_
  refine lv_null hx hb dJ15_checkIndex_7cf53_2 ?_
  refine g_rS C hS (fun _ h => h.elim) trivial hl (fun _ h => h) (r_pci hfl Γ q n hq hn) kJ3_checkIndex_8e157 t_188 dJ15_checkIndex_7cf53_3 rfl rfl (Nat.le_of_ble_eq_true rfl) (by decide) rfl ⟨by decide, by decide⟩ (fun v H locs hv hS _ _ => ?_)
  subst hv
  exact r_iret C hr hS dJ15_checkIndex_7cf53_6 (by decide) (by decide) rfl

theorem kJ15_checkIndex_7cf53 : CeeS yJ15_checkIndex_7cf53 cJ15_checkIndex_7cf53 2 (some .int) 2 := ⟨t_of (i := 186) (by decide +kernel) (by decide +kernel), t_12, t_of (i := 187) (by decide +kernel) (by decide +kernel), by decide +kernel, by decide⟩

set_option maxHeartbeats 1500000 in
set_option maxRecDepth 100000 in
theorem r_copyOf3 {l : Launch} (hfl : l.stackTraces = false) (Γ : Gm) (N b n cap : Nat) (f : Nat → Option Nat) (hcap : n ≤ cap) (hc9 : cap < 1000) : RTc l Γ (fun q => q = b ∨ N ≤ q) yJ7_copyOf_6403c (wsO yJ7_copyOf_6403c cJ7_copyOf_6403c 4 (some (.array (.object "java/lang/Object")))) 1 [.ref b, .int (nI cap), .ref (gS Γ 1000)] (fun H => H.size = N ∧ gB Γ ≤ N ∧ gB Γ ≤ b ∧ va_at (gD Γ) clX (arC Γ b n f) H ∧ ∀ j, j < n → ∀ y, f j = some y → Elt Γ y H) (fun v H => ∃ (b' : Nat) (f' : Nat → Option Nat), v = some (.ref b') ∧ N ≤ b' ∧ va_at (gD Γ) clX (arC Γ b' cap f') H ∧ ∀ j, j < n → f' j = f j) 1 cap := by
  refine rt_intro hfl (by decide) (Nat.le_of_ble_eq_true rfl) ?_
  intro p e s m args below meth c C hr hnm hP0 ls hl
  have hx := C.1
  have hb := C.2.1
  have hts := C.2.2.2.2.1
  have hK := C.2.2.2.2.2.2.1.2.1.1
  have hS : va_S (fun q => q = b ∨ N ≤ q) s.heap s.heap [] := va_S.rf
  have hl : lv_has ls 4 [(0, .ref b), (1, .int (nI cap)), (2, .ref (gS Γ 1000))] := hl
  obtain ⟨hN, hB1, hB2, hA0, hE⟩ := hP0
  have hbl : b < s.heap.size := hA0.lt
  have hP := va_P.one hA0
  have hD : va_D (fun q => q = b ∨ N ≤ q) [arC Γ b n f] := va_D.one (Or.inl rfl)
  refine lv_aload_n hx hb dJ7_copyOf_6403c_0 rfl (lv_at hl 2 rfl) ?_
  refine va_ldcM hx hb C.2.2.2.1 (hts _ t_677) C.2.2.2.2.2.2.1.2.1.2.2.2.2.2.2.1 dJ7_copyOf_6403c_1 ?_
  refine g_acmp_neR (tgt := 13) hx hb dJ7_copyOf_6403c_3 (by decide) (fun c_3 => absurd rfl c_3) (fun c_3 => ?_)
  refine lv_iload_n hx hb dJ7_copyOf_6403c_6 rfl (lv_at hl 1 rfl) ?_
  refine va_newq hx hb C.2.2.2.1 (hts _ t_679) C.2.2.2.2.2.2.1.2.1.2.2.2.1 hK hP hD hS (fun q h => Or.inr (by omega)) (nI_pos (by omega)) (nI_clamp (by omega)) (by omega) (by show 0 + 1 ≤ 1; omega) (by show 0 + cap ≤ cap; omega) dJ7_copyOf_6403c_7 (fun q cA H hK2 hP hD hS => ?_)
  cases arr_cls hK2 (t := 5) rfl
  have hq2 : N ≤ q := by
    rcases hD.2 1 _ rfl with h | h
    · exact absurd (hD.1 1 0 _ _ rfl rfl h) (by decide)
    · exact h
  refine lv_goto (tgt := 24) hx hb dJ7_copyOf_6403c_10 (by decide) ?_
  refine lv_astore_n (lv' := [(3, _), (0, _), (1, _), (2, _)]) hx hb dJ7_copyOf_6403c_24 rfl hl (by decide) rfl (fun ls hl => ?_)
  refine lv_aload_n hx hb dJ7_copyOf_6403c_25 rfl (lv_at hl 1 rfl) ?_
  refine lv_iconst (v := 0) hx hb dJ7_copyOf_6403c_26 (by decide) ?_
  refine lv_aload_n hx hb dJ7_copyOf_6403c_27 rfl (lv_at hl 0 rfl) ?_
  refine lv_iconst (v := 0) hx hb dJ7_copyOf_6403c_28 (by decide) ?_
  refine lv_aload_n hx hb dJ7_copyOf_6403c_29 rfl (lv_at hl 1 rfl) ?_
  refine va_alen hx hb hK hP 0 5 rfl rfl (v := nI n) rfl dJ7_copyOf_6403c_30 ?_
  refine lv_iload_n hx hb dJ7_copyOf_6403c_31 rfl (lv_at hl 2 rfl) ?_
  refine g_mmin C hl t_462 rfl (Nat.le_of_ble_eq_true rfl) (by show 0 + 1 ≤ 1; omega) (by show 0 + cap ≤ cap; omega) dJ7_copyOf_6403c_32 ?_
  rw [if_neg (nI_nlt hcap (by omega))]
  refine va_copyM hx hb (C.2.2.1.trans hl.1.symm) C.2.2.2.1 (hts _ t_465) (hts _ t_363) (hts _ t_362) (hts _ t_14) hK hP hD hS 0 1 5 5 rfl rfl rfl rfl (by decide) (by decide) (nI_pos (by omega)) (by rw [cl0, nI_clamp (by omega)]; omega) (by rw [cl0, nI_clamp (by omega)]; omega) (fun i hi y hy => ?_) (by show 1 ≤ 1 + 10; omega) (by show _ + (nativeFrameWords "java/lang/System" "arraycopy" 5 + 11) ≤ 40 * 1 + 200; decide) dJ7_copyOf_6403c_35 (fun H locs hP hD hS => ?_)
  · rw [nI_clamp (by omega)] at hi
    rw [cl0, Nat.zero_add] at hy
    have hy2 := hE i hi y hy
    have hyl := hy2.lt
    by_cases e : y = b
    · subst e
      exact (hy2.kept (by rw [hP.fst, hA0])).any C
    · exact (hy2.kept (hS.2.1 y hyl (fun z => by rcases z with z | z; exact e z; omega))).any C
  · rw [cl0, nI_clamp (by omega)] at hP
    refine lv_aload_n hx hb dJ7_copyOf_6403c_38 rfl (lv_at hl 0 rfl) ?_
    exact r_aret C hr hS (Or.inr ⟨_, rfl⟩) dJ7_copyOf_6403c_39 (by decide) (by omega) ⟨q, _, rfl, hq2, hP.snd, fun j hj => by show va_cpy _ _ _ _ _ _ = _; rw [pk_cpy_in (by omega) (by omega), Nat.zero_add, Nat.sub_zero]⟩

theorem kJ7_copyOf_6403c : CeeS yJ7_copyOf_6403c cJ7_copyOf_6403c 4 (some (.array (.object "java/lang/Object"))) 3 := ⟨t_of (i := 675) (by decide +kernel) (by decide +kernel), t_22, t_of (i := 676) (by decide +kernel) (by decide +kernel), by decide +kernel, by decide⟩

set_option maxHeartbeats 1500000 in
set_option maxRecDepth 100000 in
theorem r_copyOf2 {l : Launch} (hfl : l.stackTraces = false) (Γ : Gm) (N b n cap : Nat) (f : Nat → Option Nat) (hcap : n ≤ cap) (hc9 : cap < 1000) : RTc l Γ (fun q => q = b ∨ N ≤ q) yJ7_copyOf_1904c (wsO yJ7_copyOf_1904c cJ7_copyOf_1904c 2 (some (.array (.object "java/lang/Object")))) 2 [.ref b, .int (nI cap)] (fun H => H.size = N ∧ gB Γ ≤ N ∧ gB Γ ≤ b ∧ va_at (gD Γ) clX (arC Γ b n f) H ∧ ∀ j, j < n → ∀ y, f j = some y → Elt Γ y H) (fun v H => ∃ (b' : Nat) (f' : Nat → Option Nat), v = some (.ref b') ∧ N ≤ b' ∧ va_at (gD Γ) clX (arC Γ b' cap f') H ∧ ∀ j, j < n → f' j = f j) 1 cap := by
  refine rt_intro hfl (by decide) (Nat.le_of_ble_eq_true rfl) ?_
  intro p e s m args below meth c C hr hnm hP0 ls hl
  have hx := C.1
  have hb := C.2.1
  have hts := C.2.2.2.2.1
  have hK := C.2.2.2.2.2.2.1.2.1.1
  have hS : va_S (fun q => q = b ∨ N ≤ q) s.heap s.heap [] := va_S.rf
  have hl : lv_has ls 2 [(0, .ref b), (1, .int (nI cap))] := hl
  have hP0c := hP0
  obtain ⟨hN, hB1, hB2, hA0, hE⟩ := hP0
  refine lv_aload_n hx hb dJ7_copyOf_1904c_0 rfl (lv_at hl 0 rfl) ?_
  refine lv_iload_n hx hb dJ7_copyOf_1904c_1 rfl (lv_at hl 1 rfl) ?_
  refine lv_aload_n hx hb dJ7_copyOf_1904c_2 rfl (lv_at hl 0 rfl) ?_
  refine va_getC hx hb (C.2.2.1.trans hl.1.symm) C.2.2.2.1 (hts _ t_652) (va_Nw.use rfl (C.2.2.2.2.2.2.1.2.1.2.1 _ n_1696)) (hts _ t_1695) (hts _ t_653) (hts _ t_673) C.2.2.2.2.2.2.1.2.1.2.2.2.2.2.2.1 ⟨_, hA0, rfl, va_nmO (hK.2 5 _ rfl).2 rfl⟩ (by show 1 ≤ 2 + 10; omega) (Nat.le_of_ble_eq_true rfl) dJ7_copyOf_1904c_3 ?_
  refine g_rS C hS (fun q h => by rcases h with rfl | h; exact hB2; omega) hP0c hl (fun _ h => h) (r_copyOf3 hfl Γ N b n cap f hcap hc9) kJ7_copyOf_6403c t_674 dJ7_copyOf_1904c_6 rfl rfl (Nat.le_of_ble_eq_true rfl) (by decide) rfl ⟨by omega, by omega⟩ (fun v H locs hv hS _ _ => ?_)
  obtain ⟨b', f', rfl, k1, k2, k3⟩ := hv
  exact r_aret C hr hS (Or.inr ⟨_, rfl⟩) dJ7_copyOf_1904c_9 (by omega) (by omega) ⟨b', f', rfl, k1, k2, k3⟩

theorem kJ7_copyOf_1904c : CeeS yJ7_copyOf_1904c cJ7_copyOf_1904c 2 (some (.array (.object "java/lang/Object"))) 2 := ⟨t_of (i := 650) (by decide +kernel) (by decide +kernel), t_22, t_of (i := 651) (by decide +kernel) (by decide +kernel), by decide +kernel, by decide⟩
