/-! what is owed of the lists, and of the throw of java.util.NoSuchElementException -/
def insL (l : List Nat) (q x : Nat) : List Nat := l.take q ++ x :: l.drop q
theorem c_lsize {l : Launch} (hfl : l.stackTraces = false) (Γ : Gm) (K : Nat → Nat → Nat) (M : Mem) (k i : Nat) (hk : isLs k = true) (hi : i < mN M k) : CT l Γ pF yJx4a65c_size_8abf5 (wsO yJx4a65c_size_8abf5 cJx4a65c_size_8abf5 1 (some .int)) 0 [.ref (K k i)] K M (DD True (some (.int (nI (mL M k i).length))) K M) xNo 0 0 := sorry
theorem c_lempty {l : Launch} (hfl : l.stackTraces = false) (Γ : Gm) (K : Nat → Nat → Nat) (M : Mem) (k i : Nat) (hk : isLs k = true) (hi : i < mN M k) : CT l Γ pF yJx4a65c_isEmpty_aae02 (wsO yJx4a65c_isEmpty_aae02 cJx4a65c_isEmpty_aae02 1 (some .boolean)) 0 [.ref (K k i)] K M (DD True (some (.int (bI (mL M k i).isEmpty))) K M) xNo 0 0 := sorry
theorem c_lget {l : Launch} (hfl : l.stackTraces = false) (Γ : Gm) (K : Nat → Nat → Nat) (M : Mem) (k i : Nat) (q : Nat) (hk : isLs k = true) (hi : i < mN M k) (hq : q < (mL M k i).length) : CT l Γ pF yJx4a65c_get_915e3 (wsO yJx4a65c_get_915e3 cJx4a65c_get_915e3 2 (some (.object "java/lang/Object"))) 3 [.ref (K k i), .int (nI q)] K M (DD True (some (.ref (K (eK k) ((mL M k i).getD q 0)))) K M) xNo 0 0 := sorry
theorem c_ladd {l : Launch} (hfl : l.stackTraces = false) (Γ : Gm) (K : Nat → Nat → Nat) (M : Mem) (k i : Nat) (x : Nat) (hk : isLs k = true) (hi : i < mN M k) (hx : x < mN M (eK k)) (hl : (mL M k i).length < 80) : CT l Γ (gFree Γ) yJx4a65c_add_9ea2d (wsO yJx4a65c_add_9ea2d cJx4a65c_add_9ea2d 2 (some .boolean)) 6 [.ref (K k i), .ref (K (eK k) x)] K M (DD True (some (.int 1)) K (sC (sL M k i (mL M k i ++ [x])) k i 0)) xNo 1 120 := sorry
theorem c_lins {l : Launch} (hfl : l.stackTraces = false) (Γ : Gm) (K : Nat → Nat → Nat) (M : Mem) (k i : Nat) (q x : Nat) (hk : isLs k = true) (hi : i < mN M k) (hx : x < mN M (eK k)) (hl : (mL M k i).length < 80) (hq : q ≤ (mL M k i).length) : CT l Γ (gFree Γ) yJx4a65c_add_7a177 (wsO yJx4a65c_add_7a177 cJx4a65c_add_7a177 5 none) 6 [.ref (K k i), .int (nI q), .ref (K (eK k) x)] K M (DD True none K (sC (sL M k i (insL (mL M k i) q x)) k i 0)) xNo 1 120 := sorry
theorem c_lins0 {l : Launch} (hfl : l.stackTraces = false) (Γ : Gm) (K : Nat → Nat → Nat) (M : Mem) (k i : Nat) (q x : Nat) (hk : isLs k = true) (hi : i < mN M k) (hx : x < mN M (eK k)) (hl : (mL M k i).length < 80) (hc : 1 ≤ mC M k i) (hq : q ≤ (mL M k i).length) : CT l Γ (gFree Γ) yJx4a65c_add_7a177 (wsO yJx4a65c_add_7a177 cJx4a65c_add_7a177 5 none) 6 [.ref (K k i), .int (nI q), .ref (K (eK k) x)] K M (DD True none K (sC (sL M k i (insL (mL M k i) q x)) k i 0)) xNo 0 0 := sorry
theorem c_lremove {l : Launch} (hfl : l.stackTraces = false) (Γ : Gm) (K : Nat → Nat → Nat) (M : Mem) (k i : Nat) (q : Nat) (hk : isLs k = true) (hi : i < mN M k) (hq : q < (mL M k i).length) : CT l Γ (gFree Γ) yJx4a65c_remove_915e3 (wsO yJx4a65c_remove_915e3 cJx4a65c_remove_915e3 4 (some (.object "java/lang/Object"))) 3 [.ref (K k i), .int (nI q)] K M (DD True (some (.ref (K (eK k) ((mL M k i).getD q 0)))) K (sC (sL M k i ((mL M k i).eraseIdx q)) k i 1)) xNo 0 0 := sorry
theorem c_lclear {l : Launch} (hfl : l.stackTraces = false) (Γ : Gm) (K : Nat → Nat → Nat) (M : Mem) (k i : Nat) (hk : isLs k = true) (hi : i < mN M k) : CT l Γ (gFree Γ) yJx4a65c_clear_da8c8 (wsO yJx4a65c_clear_da8c8 cJx4a65c_clear_da8c8 4 none) 1 [.ref (K k i)] K M (DD True none K (sC (sL M k i []) k i 0)) xNo 0 0 := sorry
/-- a row of numbers filled -/
def fillM (M : Mem) (k i : Nat) (x : Int32) : Mem := (M.1, (fun a b c => if a = k ∧ b < aLen k ∧ c = i then x else M.2.1 a b c), M.2.2)
theorem c_fill {l : Launch} (hfl : l.stackTraces = false) (Γ : Gm) (K : Nat → Nat → Nat) (M : Mem) (k i : Nat) (x : Int32) (hk : RwOk k 0 (aLen k)) (hi : i < mN M k) : CT l Γ (gFree Γ) yJ7_fill_53178 (wsO yJ7_fill_53178 cJ7_fill_53178 4 none) 1 [.ref (K k i), .int x] K M (DD True none K (fillM M k i x)) xNo 0 0 := sorry
theorem kJx4a65c_size_8abf5 : CeeV yJx4a65c_size_8abf5 RJx4a65c cJx4a65c_size_8abf5 1 (some .int) 0 := ⟨t_154, t_155, t_6, t_156, by decide +kernel, by decide⟩
theorem kJx4a65c_isEmpty_aae02 : CeeV yJx4a65c_isEmpty_aae02 RJx4a65c cJx4a65c_isEmpty_aae02 1 (some .boolean) 0 := ⟨t_225, t_226, t_6, t_227, by decide +kernel, by decide⟩
theorem kJx4a65c_get_915e3 : CeeV yJx4a65c_get_915e3 RJx4a65c cJx4a65c_get_915e3 2 (some (.object "java/lang/Object")) 1 := ⟨t_182, t_183, t_6, t_184, by decide +kernel, by decide⟩
theorem kJx4a65c_add_9ea2d : CeeV yJx4a65c_add_9ea2d RJx4a65c cJx4a65c_add_9ea2d 2 (some .boolean) 1 := ⟨t_820, t_821, t_6, t_822, by decide +kernel, by decide⟩
theorem kJx4a65c_add_7a177 : CeeV yJx4a65c_add_7a177 RJx4a65c cJx4a65c_add_7a177 5 none 2 := ⟨t_370, t_371, t_6, t_372, by decide +kernel, by decide⟩
theorem kJx4a65c_remove_915e3 : CeeV yJx4a65c_remove_915e3 RJx4a65c cJx4a65c_remove_915e3 4 (some (.object "java/lang/Object")) 1 := ⟨t_354, t_355, t_6, t_356, by decide +kernel, by decide⟩
theorem kJx4a65c_clear_da8c8 : CeeV yJx4a65c_clear_da8c8 RJx4a65c cJx4a65c_clear_da8c8 4 none 0 := ⟨t_1194, t_1195, t_6, t_1196, by decide +kernel, by decide⟩
theorem kJ7_fill_53178 : CeeS yJ7_fill_53178 cJ7_fill_53178 4 none 2 := ⟨t_1255, t_22, t_1256, by decide +kernel, by decide⟩
section RECV
variable {p : Program} {l : Launch} {e : Env} {R : Room} {s : State} {m : MethodId} {args : Array Value} {below : List Frame} {meth : Method} {c : Code} {H : Heap} {locs : List Loc} {cells slots : Nat} {Q : State → Prop}
variable {cc : ByteArray} {nL : Nat} {own : String} {Γ : Gm} {A : Nat → Prop} {K : Nat → Nat → Nat} {M : Mem} {pc : Nat} {ls : Array Slot} {rest : List Value} {lvs : List (Nat × Value)} {n mc0 ms0 mc ms : Nat} {xp : String → Prop}
theorem HM.recvL {k i : Nat} (C : Cx Γ p l s m args meth c cc nL own) (h : HM Γ K M H) (hk : isLs k = true) (hi : i < mN M k) : ∃ cell : Cell, H[K k i]? = some cell ∧ cell.vm.isStatics = false ∧ s.vm.findClass RJx4a65c = some cell.cls := by
  obtain ⟨-, ⟨B, h2, -⟩, -⟩ := h
  obtain ⟨m0, cap, f, h1, -⟩ := h2 k i hk hi
  exact va_recv (q := (RJx4a65c, TJx4a65c, 3)) (C.2.2.2.2.2.2.1.2.1.1) (va_P.one h1) rfl (q0 := 0) rfl
theorem g_throwE {text : String} {is sa : Nat} {post : Option Value → (Nat → Nat → Nat) → Mem → Prop} (C : Cx Γ p l s m args meth c cc nL RX6) (ht : ∀ x ∈ c.exceptionTable.toList, False) (hxp : xp "java/util/NoSuchElementException") (hM : HM Γ K M H) (hS : va_S A s.heap H locs) (hA : ∀ q, A q → gB Γ ≤ q) (hl : lv_has ls nL lvs) (hstr : (RX6, is, text, sa) ∈ strX)
    (d0 : decode cc pc = .ok (.new 109, 3)) (d3 : decode cc (pc + 3) = .ok (.dup, 1)) (d4 : decode cc (pc + 4) = .ok (.ldc is, 2)) (d6 : decode cc (pc + 6) = .ok (.invokespecial 113, 3)) (d9 : decode cc (pc + 9) = .ok (.athrow, 1))
    (hR : R = rmL n mc0 ms0) (hcat : (rest.map fun v => v.category).sum ≤ 8) (hR2 : cells + 1 ≤ mc0 ∧ slots + 6 ≤ ms0) (hc : cells + 1 ≤ mc) (hs : slots + 6 ≤ ms) :
    W p l e R s m args below meth c H locs cells slots (vx_MQ below (cQ Γ A post) (cX Γ A K M xp) args s mc ms A) (F0 m pc ls rest) := sorry
theorem g_throwEW {text : String} {is sa : Nat} {post : Option Value → (Nat → Nat → Nat) → Mem → Prop} (C : Cx Γ p l s m args meth c cc nL RX6) (ht : ∀ x ∈ c.exceptionTable.toList, False) (hxp : xp "java/util/NoSuchElementException") (hM : HM Γ K M H) (hS : va_S A s.heap H locs) (hA : ∀ q, A q → gB Γ ≤ q) (hl : lv_has ls nL lvs) (hstr : (RX6, is, text, sa) ∈ strX)
    (d0 : decode cc pc = .ok (.new 109, 3)) (d3 : decode cc (pc + 3) = .ok (.dup, 1)) (d4 : decode cc (pc + 4) = .ok (.ldc_w is, 3)) (d6 : decode cc (pc + 7) = .ok (.invokespecial 113, 3)) (d9 : decode cc (pc + 10) = .ok (.athrow, 1))
    (hR : R = rmL n mc0 ms0) (hcat : (rest.map fun v => v.category).sum ≤ 8) (hR2 : cells + 1 ≤ mc0 ∧ slots + 6 ≤ ms0) (hc : cells + 1 ≤ mc) (hs : slots + 6 ≤ ms) :
    W p l e R s m args below meth c H locs cells slots (vx_MQ below (cQ Γ A post) (cX Γ A K M xp) args s mc ms A) (F0 m pc ls rest) := sorry
end RECV
theorem wn0 {M : Mem} (w : Wf M) : mN M 0 ≤ 6 := w.1.1
theorem wn1 {M : Mem} (w : Wf M) : mN M 1 = 8 := w.1.2.1
theorem wn2 {M : Mem} (w : Wf M) : mN M 2 ≤ 80 := w.1.2.2.1
theorem wn3 {M : Mem} (w : Wf M) : mN M 3 ≤ 8 := w.1.2.2.2.1
theorem wn4 {M : Mem} (w : Wf M) : mN M 4 ≤ 40 := w.1.2.2.2.2.1
theorem wn5 {M : Mem} (w : Wf M) : mN M 5 = 6 := w.1.2.2.2.2.2.1
theorem wn6 {M : Mem} (w : Wf M) : 0 < mN M 6 := by rw [w.1.2.2.2.2.2.2.1]; decide
theorem wn8 {M : Mem} {i : Nat} (w : Wf M) (h : i < mN M 4) : i < mN M 8 := by rw [w.1.2.2.2.2.2.2.2.1]; exact h
theorem wn9 {M : Mem} {i : Nat} (w : Wf M) (h : i < 6) : i < mN M 9 := by rw [w.1.2.2.2.2.2.2.2.2.1]; exact h
theorem wn10 {M : Mem} (w : Wf M) : 0 < mN M 10 := by rw [w.1.2.2.2.2.2.2.2.2.2.1]; decide
theorem wn11 {M : Mem} (w : Wf M) : 0 < mN M 11 := by rw [w.1.2.2.2.2.2.2.2.2.2.2.1]; decide
theorem wn12 {M : Mem} (w : Wf M) : 0 < mN M 12 := by rw [w.1.2.2.2.2.2.2.2.2.2.2.2.1]; decide
theorem wn13 {M : Mem} (w : Wf M) : 0 < mN M 13 := by rw [w.1.2.2.2.2.2.2.2.2.2.2.2.2.1]; decide
theorem wn14 {M : Mem} {i : Nat} (w : Wf M) (h : i < mN M 3) : i < mN M 14 := by rw [w.1.2.2.2.2.2.2.2.2.2.2.2.2.2.1]; exact h
theorem wn15 {M : Mem} (w : Wf M) : 0 < mN M 15 := by rw [w.1.2.2.2.2.2.2.2.2.2.2.2.2.2.2.1]; decide
theorem wn16 {M : Mem} (w : Wf M) : 0 < mN M 16 := by rw [w.1.2.2.2.2.2.2.2.2.2.2.2.2.2.2.2.1]; decide
theorem wn17 {M : Mem} (w : Wf M) : 0 < mN M 17 := by rw [w.1.2.2.2.2.2.2.2.2.2.2.2.2.2.2.2.2.1]; decide
theorem wn18 {M : Mem} (w : Wf M) : 0 < mN M 18 := by rw [w.1.2.2.2.2.2.2.2.2.2.2.2.2.2.2.2.2.2.1]; decide
theorem wn19 {M : Mem} (w : Wf M) : 0 < mN M 19 := by rw [w.1.2.2.2.2.2.2.2.2.2.2.2.2.2.2.2.2.2.2]; decide
/-- a number of an object, given as an int -/
def ix (x : Int32) : Nat := x.toNatClampNeg
theorem ix_nI {q : Nat} (h : q < 2 ^ 31) : ix (nI q) = q := nI_clamp h
def inN (x : Int32) (n : Nat) : Bool := inB x 0 (nI n - 1)
theorem inN_of {x : Int32} {n : Nat} (h : inN x n = true) (hn : n < 2 ^ 31) : ∃ q : Nat, q < n ∧ x = nI q := by
  unfold inN inB at h
  rw [Bool.and_eq_true] at h
  obtain ⟨h1, h2⟩ := h
  have h1 : ¬ x < 0 := by simpa using h1
  have h2 : ¬ nI n - 1 < x := by simpa using h2
  obtain ⟨j, hj, rfl⟩ := nI_of h1
  refine ⟨j, ?_, rfl⟩
  rcases Nat.lt_or_ge j n with q | q
  · exact q
  · exfalso
    refine h2 ?_
    rw [Int32.lt_iff_toInt_lt, nI_toInt hj]
    cases n with
    | zero => rw [show nI 0 - 1 = (-1 : Int32) by decide, show (-1 : Int32).toInt = -1 by decide]; omega
    | succ n => rw [nI_pred, nI_toInt (by omega)]; omega
theorem inN_nI {q n : Nat} (h : q < n) (hn : n < 2 ^ 31) : inN (nI q) n = true := by
  unfold inN inB
  cases n with
  | zero => omega
  | succ n =>
    rw [nI_pred, decide_eq_false (nI_pos (n := q) (by omega)), decide_eq_false (nI_nlt (by omega) (by omega))]
    rfl
theorem inN_ix {x : Int32} {n : Nat} (h : inN x n = true) (hn : n < 2 ^ 31) : ix x < n ∧ x = nI (ix x) := by
  obtain ⟨q, hq, rfl⟩ := inN_of h hn
  rw [ix_nI (by omega)]
  exact ⟨hq, rfl⟩
section DESKLISTS
variable {l : Launch}
theorem c_size10 (hfl : l.stackTraces = false) (Γ : Gm) (K : Nat → Nat → Nat) (M : Mem) (w : Wf M) : CT l Γ pF yJx4a65c_size_8abf5 (wsO yJx4a65c_size_8abf5 cJx4a65c_size_8abf5 1 (some .int)) 0 [.ref (K 10 0)] K M (DD True (some (.int (nI (mN M 2)))) K M) xNo 0 0 := by
  have h := c_lsize hfl Γ K M 10 0 rfl (wn10 w)
  rwa [w.2.2.2.1.1, List.length_range] at h
theorem c_get10 (hfl : l.stackTraces = false) (Γ : Gm) (K : Nat → Nat → Nat) (M : Mem) (x : Int32) (w : Wf M) (hx : inN x (mN M 2) = true) : CT l Γ pF yJx4a65c_get_915e3 (wsO yJx4a65c_get_915e3 cJx4a65c_get_915e3 2 (some (.object "java/lang/Object"))) 3 [.ref (K 10 0), .int x] K M (DD True (some (.ref (K 2 (ix x)))) K M) xNo 0 0 := by
  obtain ⟨h1, h2⟩ := inN_ix hx (by have := wn2 w; omega)
  have h := c_lget hfl Γ K M 10 0 (ix x) rfl (wn10 w) (by rw [w.2.2.2.1.1, List.length_range]; exact h1)
  have e : (List.range (mN M 2)).getD (ix x) 0 = ix x := by rw [List.getD_eq_getElem?_getD, List.getElem?_range h1]; rfl
  rw [w.2.2.2.1.1, e] at h
  rw [h2, ix_nI (by have := wn2 w; omega)]
  exact h
theorem c_size11 (hfl : l.stackTraces = false) (Γ : Gm) (K : Nat → Nat → Nat) (M : Mem) (w : Wf M) : CT l Γ pF yJx4a65c_size_8abf5 (wsO yJx4a65c_size_8abf5 cJx4a65c_size_8abf5 1 (some .int)) 0 [.ref (K 11 0)] K M (DD True (some (.int (nI (mN M 4)))) K M) xNo 0 0 := by
  have h := c_lsize hfl Γ K M 11 0 rfl (wn11 w)
  rwa [w.2.2.2.1.2.1, List.length_range] at h
theorem c_get11 (hfl : l.stackTraces = false) (Γ : Gm) (K : Nat → Nat → Nat) (M : Mem) (x : Int32) (w : Wf M) (hx : inN x (mN M 4) = true) : CT l Γ pF yJx4a65c_get_915e3 (wsO yJx4a65c_get_915e3 cJx4a65c_get_915e3 2 (some (.object "java/lang/Object"))) 3 [.ref (K 11 0), .int x] K M (DD True (some (.ref (K 4 (ix x)))) K M) xNo 0 0 := by
  obtain ⟨h1, h2⟩ := inN_ix hx (by have := wn4 w; omega)
  have h := c_lget hfl Γ K M 11 0 (ix x) rfl (wn11 w) (by rw [w.2.2.2.1.2.1, List.length_range]; exact h1)
  have e : (List.range (mN M 4)).getD (ix x) 0 = ix x := by rw [List.getD_eq_getElem?_getD, List.getElem?_range h1]; rfl
  rw [w.2.2.2.1.2.1, e] at h
  rw [h2, ix_nI (by have := wn4 w; omega)]
  exact h
theorem c_size12 (hfl : l.stackTraces = false) (Γ : Gm) (K : Nat → Nat → Nat) (M : Mem) (w : Wf M) : CT l Γ pF yJx4a65c_size_8abf5 (wsO yJx4a65c_size_8abf5 cJx4a65c_size_8abf5 1 (some .int)) 0 [.ref (K 12 0)] K M (DD True (some (.int (nI (mN M 0)))) K M) xNo 0 0 := by
  have h := c_lsize hfl Γ K M 12 0 rfl (wn12 w)
  rwa [w.2.2.2.1.2.2.1, List.length_range] at h
theorem c_get12 (hfl : l.stackTraces = false) (Γ : Gm) (K : Nat → Nat → Nat) (M : Mem) (x : Int32) (w : Wf M) (hx : inN x (mN M 0) = true) : CT l Γ pF yJx4a65c_get_915e3 (wsO yJx4a65c_get_915e3 cJx4a65c_get_915e3 2 (some (.object "java/lang/Object"))) 3 [.ref (K 12 0), .int x] K M (DD True (some (.ref (K 0 (ix x)))) K M) xNo 0 0 := by
  obtain ⟨h1, h2⟩ := inN_ix hx (by have := wn0 w; omega)
  have h := c_lget hfl Γ K M 12 0 (ix x) rfl (wn12 w) (by rw [w.2.2.2.1.2.2.1, List.length_range]; exact h1)
  have e : (List.range (mN M 0)).getD (ix x) 0 = ix x := by rw [List.getD_eq_getElem?_getD, List.getElem?_range h1]; rfl
  rw [w.2.2.2.1.2.2.1, e] at h
  rw [h2, ix_nI (by have := wn0 w; omega)]
  exact h
theorem c_size13 (hfl : l.stackTraces = false) (Γ : Gm) (K : Nat → Nat → Nat) (M : Mem) (w : Wf M) : CT l Γ pF yJx4a65c_size_8abf5 (wsO yJx4a65c_size_8abf5 cJx4a65c_size_8abf5 1 (some .int)) 0 [.ref (K 13 0)] K M (DD True (some (.int (nI (mN M 3)))) K M) xNo 0 0 := by
  have h := c_lsize hfl Γ K M 13 0 rfl (wn13 w)
  rwa [w.2.2.2.1.2.2.2, List.length_range] at h
theorem c_get13 (hfl : l.stackTraces = false) (Γ : Gm) (K : Nat → Nat → Nat) (M : Mem) (x : Int32) (w : Wf M) (hx : inN x (mN M 3) = true) : CT l Γ pF yJx4a65c_get_915e3 (wsO yJx4a65c_get_915e3 cJx4a65c_get_915e3 2 (some (.object "java/lang/Object"))) 3 [.ref (K 13 0), .int x] K M (DD True (some (.ref (K 3 (ix x)))) K M) xNo 0 0 := by
  obtain ⟨h1, h2⟩ := inN_ix hx (by have := wn3 w; omega)
  have h := c_lget hfl Γ K M 13 0 (ix x) rfl (wn13 w) (by rw [w.2.2.2.1.2.2.2, List.length_range]; exact h1)
  have e : (List.range (mN M 3)).getD (ix x) 0 = ix x := by rw [List.getD_eq_getElem?_getD, List.getElem?_range h1]; rfl
  rw [w.2.2.2.1.2.2.2, e] at h
  rw [h2, ix_nI (by have := wn3 w; omega)]
  exact h
end DESKLISTS
