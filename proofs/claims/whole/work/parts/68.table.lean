/-! the law's helpers: contracts of methods with a table -/
/-- as CT; what is thrown leaves ME -/
def CTE (l : Launch) (Γ : Gm) (A : Nat → Prop) (y : MethodName) (ws : List Cond) (n : Nat) (av : List Value) (K : Nat → Nat → Nat) (M : Mem) (post : Option Value → (Nat → Nat → Nat) → Mem → Prop) (xp : String → Prop) (ME : Mem) (mc ms : Nat) : Prop :=
  vx_Met l y ws (rmL n mc ms) (aPc Γ K M av) (cQ Γ A post) (cX Γ A K ME xp) mc ms A
def wsH (y : MethodName) (bytes : ByteArray) (maxL : Nat) (ret : Option FieldType) (hh : List (Nat × Nat × Nat × Nat)) : List Cond := .codeWith y bytes maxL ret hh :: lw_good
section INTROH
variable {l : Launch} {Γ : Gm} {A : Nat → Prop} {y : MethodName} {cc : ByteArray} {maxL : Nat} {ret : Option FieldType} {hh : List (Nat × Nat × Nat × Nat)} {n : Nat} {av : List Value} {K : Nat → Nat → Nat} {M ME : Mem} {post : Option Value → (Nat → Nat → Nat) → Mem → Prop} {xp : String → Prop} {mc ms : Nat}
theorem ct_introE (hfl : l.stackTraces = false) (hy : plainName y.cls = true) (hlen : (lg_sl av).length ≤ maxL)
    (body : ∀ p e s m args below meth c, Cx Γ p l s m args meth c cc maxL y.cls → (∀ x ∈ c.exceptionTable.toList, False) → meth.sig.returnType = ret → meth.name = y.name → HM Γ K M s.heap → ∀ ls, lv_has ls maxL (lv_args 0 av) →
      W p l e (rmL n mc ms) s m args below meth c s.heap [] 0 0 (vx_MQ below (cQ Γ A post) (cX Γ A K ME xp) args s mc ms A) (F0 m 0 ls [])) : CTE l Γ A y (wsO y cc maxL ret) n av K M post xp ME mc ms := by
  refine vx_ofW (cc := cc) (maxL := maxL) (ret := ret) hy rfl ?_
  intro p e s m args below meth c s₁ B hml htab hv
  obtain ⟨rfl, hCX, hM⟩ := hv
  have hts : ∀ w ∈ lw_good, w.before av.toArray s = true := fun w hw => atoms_spec (ws := wsO y cc maxL ret) B.pre w (List.mem_cons_of_mem _ hw)
  have hown : s.vm.findClass y.cls = some m.cls := findClass_of_methodNamed B.named
  have hl := lv_entry av (n := maxL) hlen
  rw [lg_entry_eq]
  exact body p e s m _ below meth c ⟨B.exec, B.bytes, hml, hown, hts, B.notSynchronized, hCX, hfl⟩ htab B.returns (name_of_methodNamed B.named B.method).1 hM _ hl
theorem ct_introH (hfl : l.stackTraces = false) (hy : plainName y.cls = true) (hlen : (lg_sl av).length ≤ maxL)
    (body : ∀ p e s m args below meth c, Cx Γ p l s m args meth c cc maxL y.cls → c.exceptionTable.toList = tableOf hh → meth.sig.returnType = ret → HM Γ K M s.heap → ∀ ls, lv_has ls maxL (lv_args 0 av) →
      W p l e (rmL n mc ms) s m args below meth c s.heap [] 0 0 (vx_MQ below (cQ Γ A post) (cX Γ A K M xp) args s mc ms A) (F0 m 0 ls [])) : CT l Γ A y (wsH y cc maxL ret hh) n av K M post xp mc ms := by
  refine vx_ofWH (cc := cc) (maxL := maxL) (ret := ret) (hh := hh) hy rfl ?_
  intro p e s m args below meth c s₁ B hml hv
  obtain ⟨rfl, hCX, hM⟩ := hv
  have hall := atoms_spec (ws := wsH y cc maxL ret hh) B.pre
  have hts : ∀ w ∈ lw_good, w.before av.toArray s = true := fun w hw => hall w (List.mem_cons_of_mem _ hw)
  have htab := vx_table (x := y) B (hall _ List.mem_cons_self)
  have hown : s.vm.findClass y.cls = some m.cls := findClass_of_methodNamed B.named
  have hl := lv_entry av (n := maxL) hlen
  rw [lg_entry_eq]
  exact body p e s m _ below meth c ⟨B.exec, B.bytes, hml, hown, hts, B.notSynchronized, hCX, hfl⟩ htab B.returns hM _ hl
end INTROH
section HROWS
variable {p : Program} {l : Launch} {e : Env} {R : Room} {s : State} {m : MethodId} {args : Array Value} {below : List Frame} {meth : Method} {c : Code} {H : Heap} {locs : List Loc} {cells slots : Nat} {Q : State → Prop}
variable {cc : ByteArray} {nL : Nat} {own : String} {Γ : Gm} {A : Nat → Prop} {K : Nat → Nat → Nat} {M ME : Mem} {pc : Nat} {ls : Array Slot} {rest : List Value}
variable {A' : Nat → Prop} {y : MethodName} {Cn : String} {bytes : ByteArray} {maxL n na n' idx mc ms b : Nat} {ret : Option FieldType} {As st : List Value} {lvs : List (Nat × Value)} {post : Option Value → (Nat → Nat → Nat) → Mem → Prop} {xp : String → Prop} {mc0 ms0 : Nat}
theorem g_callE (C : Cx Γ p l s m args meth c cc nL own) (hS : va_S A s.heap H locs) (hA : ∀ q, A q → gB Γ ≤ q) (hM : HM Γ K M H) (hl : lv_has ls nL lvs) (hA' : ∀ q, A' q → A q)
    (callee : CTE l Γ A' y (wsO y bytes maxL ret) n' (.ref b :: As) K M post xp ME mc ms) (hk : CeeV y Cn bytes maxL ret na) (hlk : Cond.methodLink own idx y ∈ lw_good)
    (hrecv : ∃ cell : Cell, H[b]? = some cell ∧ cell.vm.isStatics = false ∧ s.vm.findClass Cn = some cell.cls) (hdg : decode cc pc = .ok (.invokevirtual idx, 3))
    (hn : As.length = na) (hst : st = As.reverse ++ .ref b :: rest) (hW : (rest.map fun v => v.category).sum ≤ 8) (hlev : n' + 1 ≤ n) (hR : R = rmL n mc0 ms0) (hf : cells + mc ≤ mc0 ∧ slots + ms ≤ ms0)
    (kx : GoesX p l e R s m args below meth c H (cells + mc) (slots + ms) Q Γ A K ME pc ls rest xp)
    (kk : Goes2 p l e R s m args below meth c H (cells + mc) (slots + ms) Q Γ A A' pc ls rest post) : W p l e R s m args below meth c H locs cells slots Q (F0 m pc ls st) := by
  obtain ⟨g1, g2, g3, g4, g5, g6⟩ := hk
  subst hR
  refine run_goes (Qa := .ref b :: As) hS hA' (vx_runV (Ts := lw_good) (As := As) (rest := rest) ⟨C.1, C.2.1, C.2.2.1, C.2.2.2.1, C.2.2.2.2.1⟩ callee (cwV na C.2.2.2.2.1 (good_in fun w hw => ?_) rfl rfl rfl g5 (rm_ok hlev g6)) ⟨aPc_blind, hrecv, fun U hU hW => ⟨rfl, C.move hS hA hU hW, by rw [hU]; exact hM⟩⟩ rfl hn hl.1 hst (lv_room hW) hdg hf) kx kk
  simp only [wsV, List.mem_append, List.mem_cons, List.not_mem_nil, or_false] at hw
  rcases hw with (rfl | rfl | rfl | rfl) | hw
  · exact hlk
  · exact g1
  · exact g2
  · exact g3
  · exact wsO_in g4 w hw
/-- what is said of a helper -/
def CeeH (y : MethodName) (bytes : ByteArray) (maxL : Nat) (ret : Option FieldType) (hh : List (Nat × Nat × Nat × Nat)) (n : Nat) : Prop :=
  Cond.static y ∈ lw_good ∧ Cond.initialized y.cls ∈ lw_good ∧ Cond.codeWith y bytes maxL ret hh ∈ lw_good ∧ (y.cls ≠ "java/lang/invoke/MethodHandle" ∧ y.cls ≠ "java/lang/invoke/VarHandle" ∧ (parseMethodDescriptor y.desc).map (fun d => d.parameters.length) = some n) ∧ maxL ≤ 21
theorem wsH_in {hh : List (Nat × Nat × Nat × Nat)} (h : Cond.codeWith y bytes maxL ret hh ∈ lw_good) : ∀ w ∈ wsH y bytes maxL ret hh, w ∈ lw_good := fun w hw => (List.mem_cons.mp hw).elim (fun e => by rw [e]; exact h) id
theorem g_callH {hh : List (Nat × Nat × Nat × Nat)} (C : Cx Γ p l s m args meth c cc nL own) (hS : va_S A s.heap H locs) (hA : ∀ q, A q → gB Γ ≤ q) (hM : HM Γ K M H) (hl : lv_has ls nL lvs) (hA' : ∀ q, A' q → A q)
    (callee : CT l Γ A' y (wsH y bytes maxL ret hh) n' As K M post xp mc ms) (hk : CeeH y bytes maxL ret hh na) (hlk : Cond.methodLink own idx y ∈ lw_good)
    (hdg : decode cc pc = .ok (.invokestatic idx, 3))
    (hn : As.length = na) (hst : st = As.reverse ++ rest) (hW : (rest.map fun v => v.category).sum ≤ 8) (hlev : n' + 1 ≤ n) (hR : R = rmL n mc0 ms0) (hf : cells + mc ≤ mc0 ∧ slots + ms ≤ ms0)
    (kx : GoesX p l e R s m args below meth c H (cells + mc) (slots + ms) Q Γ A K M pc ls rest xp)
    (kk : Goes2 p l e R s m args below meth c H (cells + mc) (slots + ms) Q Γ A A' pc ls rest post) : W p l e R s m args below meth c H locs cells slots Q (F0 m pc ls st) := by
  obtain ⟨g1, g3, g4, g5, g6⟩ := hk
  subst hR
  refine run_goes (Qa := As) hS hA' (vx_runSX (Ts := lw_good) (As := As) (rest := rest) ⟨C.1, C.2.1, C.2.2.1, C.2.2.2.1, C.2.2.2.2.1⟩ callee (vx_cwSW na C.2.2.2.2.1 (good_in fun w hw => ?_) rfl rfl rfl g5 (rm_ok hlev g6)) ⟨aPc_blind, fun U hU hW => ⟨rfl, C.move hS hA hU hW, by rw [hU]; exact hM⟩⟩ rfl hn hl.1 hst (lv_room hW) hdg hf) kx kk
  simp only [va_wsS, List.mem_append, List.mem_cons, List.not_mem_nil, or_false] at hw
  rcases hw with (rfl | rfl | rfl) | hw
  · exact hlk
  · exact g1
  · exact g3
  · exact wsH_in g4 w hw
/-- caught -/
theorem g_catch {E : String} {q9 : Nat} {ce : Cell} {hh : List (Nat × Nat × Nat × Nat)} (C : Cx Γ p l s m args meth c cc nL RL) (htab : c.exceptionTable.toList = tableOf hh) (pre suf : List ExceptionTableEntry) (x : ExceptionTableEntry) (hsplit : tableOf hh = pre ++ x :: suf)
    (hpass : ∀ z ∈ pre, z.catchType ≠ 0 ∧ ∃ nm : String, Cond.classLink RL z.catchType nm ∈ lw_good ∧ (E, nm) ∈ ncX) (hx : covers x pc = true) (h0 : x.catchType ≠ 0) (hlink : Cond.classLink RL x.catchType E ∈ lw_good) (hcast : Cond.castable E E ∈ lw_nst)
    (hcell : H[q9]? = some ce) (hv : ce.vm = .none) (hcl : s.vm.findClass E = some ce.cls)
    (kk : W p l e R s m args below meth c H locs cells slots Q (F0 m x.handlerPc ls [.ref q9])) : vx_W p l e R s m args below meth c H locs cells slots Q (F0 m pc ls rest) q9 := by
  refine vx_catch C.2.2.2.1 pre x suf (by rw [htab]; exact hsplit) (fun z hz => ?_) hx h0 (C.2.2.2.2.1 _ hlink) (va_Nw.use rfl (C.2.2.2.2.2.2.1.2.1.2.1 _ hcast)) hcell hv hcl kk
  obtain ⟨h1, nm, h2, h3⟩ := hpass z hz
  exact Or.inr ⟨h1, nm, C.2.2.2.2.1 _ h2, C.2.2.2.2.2.2.1.2.1.2.2.2.2.2.2.2 _ h3⟩
/-- a long is put down in the law's row -/
theorem HM.rowJ {H1 : Heap} {i p9 n9 k t : Nat} {x : Int64} (h : HM Γ K M H) (hk : isLs k = false) (hi : i < mN M k)
    (hs : ∀ M', celE (gA Γ) K M' k i = .inl (gA Γ t, n9, .inr (.inl (fun j => mJ M' k j i))))
    (hc : va_at (gD Γ) clX (K k i, .inl (gA Γ t, n9, .inr (.inl (vp_updL (fun j => mJ M k j i) p9 x)))) H1) (oq : ∀ q : Nat, q ≠ K k i → H1[q]? = H[q]?) : HM Γ K (sJ M k p9 i x) H1 := by
  refine h.chg hi hk ?_ oq rfl rfl rfl (fun k' i' e => celE_sJ e)
  rw [hs]
  have e : (fun j => mJ (sJ M k p9 i x) k j i) = vp_updL (fun j => mJ M k j i) p9 x := by
    funext j
    show u3 _ _ _ _ _ _ _ _ = _
    unfold u3 vp_updL
    by_cases z : j = p9
    · simp [z, mJ]
    · simp [z, mJ]
  rw [e]
  exact hc
theorem g_last {x : Int64} (C : Cx Γ p l s m args meth c cc nL own) (hM : HM Γ K M H) (hS : va_S (gFree Γ) s.heap H locs) (hi : 0 < mN M 39) (hdg : decode cc pc = .ok (.lastore, 1))
    (kk : ∀ (H1 : Heap) (locs1 : List Loc), HM Γ K (sJ M 39 0 0 x) H1 → va_S (gFree Γ) s.heap H1 locs1 → W p l e R s m args below meth c H1 locs1 cells slots Q (F0 m (pc + 1) ls rest)) : W p l e R s m args below meth c H locs cells slots Q (F0 m pc ls (.long x :: .int 0 :: .ref (K 39 0) :: rest)) := by
  have hK := C.2.2.2.2.2.2.1.2.1.1
  have h : va_at (gD Γ) clX (K 39 0, .inl (gA Γ 3, 1, .inr (.inl (fun j => mJ M 39 j 0)))) H := hM.1 39 0 hi rfl
  refine W.last C.1 C.2.1 h ((hK.2 3 _ rfl).1 1 (fun j => .long (mJ M 39 j 0))) (fun q => by cases q) (by show ¬ ((0 : Int32) < 0 ∨ (arrV _ _ _).slots.size ≤ _); rw [arrV_size]; show ¬ ((0 : Int32) < 0 ∨ 1 ≤ Int32.toNatClampNeg 0); decide) rfl rfl hdg fun H1 e z oq => ?_
  refine kk H1 _ (hM.rowJ (t := 3) (n9 := 1) (p9 := 0) rfl hi (fun _ => rfl) ?_ oq) (hS.put z oq (hM.2.2.2.1 39 0 hi))
  show H1[K 39 0]? = some (vp_cell _ _)
  rw [e]
  show some ((vp_cell (gA Γ 3) (1, .inr (.inl (fun j => mJ M 39 j 0)))).setSlot _ _) = _
  rw [vp_cell_l, vp_cell_l, arrV_store]
  congr 2
  funext q
  by_cases hq : q = 0
  · subst hq
    simp [updV, vp_updL]
  · simp [updV, vp_updL, hq]
theorem HM.chg2 {M' : Mem} {H1 : Heap} (h : HM Γ K M H) {k i : Nat} (hi : i < mN M k) (hk : isLs k = false)
    (hc : va_at (gD Γ) clX (K k i, celE (gA Γ) K M' k i) H1) (oq : ∀ q : Nat, q ≠ K k i → H1[q]? = H[q]?)
    (hN : mN M' = mN M) (hL : mL M' = mL M) (hC : mC M' = mC M) (he : ∀ k' i', i' < mN M k' → ¬ (k' = k ∧ i' = i) → celE (gA Γ) K M' k' i' = celE (gA Γ) K M k' i') : HM Γ K M' H1 := by
  obtain ⟨h1, ⟨B, h2, h3⟩, h4, h5, h6⟩ := h
  have hE : gE Γ ≠ K k i := fun e => by have := h5 k i hi; omega
  refine ⟨fun k' i' hi' hk' => ?_, ⟨B, fun k' i' hk' hi' => ?_, by rw [hN]; exact h3⟩, by rw [hN]; exact h4, by rw [hN]; exact h5, h6⟩
  · rw [hN] at hi'
    by_cases e : k' = k ∧ i' = i
    · obtain ⟨rfl, rfl⟩ := e
      exact hc
    · rw [he k' i' hi' e]
      exact (h1 k' i' hi' hk').kept (oq _ (fun z => e (h4 k' i' k i hi' hi z)))
  · rw [hN] at hi'
    rw [hL, hC]
    have hB : B k' i' ≠ K k i := by
      by_cases e : B k' i' = gE Γ
      · rw [e]; exact hE
      · exact fun z => (h3 k' i' hk' hi' e).2.1 k i hi z.symm
    refine (h2 k' i' hk' hi').kept (oq _ (fun z => ?_)) (oq _ hB)
    obtain ⟨rfl, -⟩ := h4 k' i' k i hi' hi z
    rw [hk] at hk'
    cases hk'
theorem HM.rowF {H1 : Heap} {x : UInt64} (h : HM Γ K M H) (hi : 0 < mN M 40)
    (hc : va_at (gD Γ) clX (K 40 0, .inl (gA Γ 4, 1, .inr (.inr (.inr (.inl (vf_upd (mF M) 0 x)))))) H1) (oq : ∀ q : Nat, q ≠ K 40 0 → H1[q]? = H[q]?) (h1 : mN M 40 = 1) : HM Γ K (sF M 0 x) H1 := by
  refine h.chg2 (M' := sF M 0 x) (k := 40) (i := 0) hi rfl ?_ oq rfl rfl rfl (fun k' i' hi' e => ?_)
  · show va_at (gD Γ) clX (K 40 0, .inl (gA Γ 4, 1, .inr (.inr (.inr (.inl (mF (sF M 0 x))))))) H1
    have e : mF (sF M 0 x) = vf_upd (mF M) 0 x := by
      funext j
      rw [mF_sF]
      unfold vf_upd
      by_cases z : j = 0 <;> simp [z]
    rw [e]
    exact hc
  · have hk : k' ≠ 40 := fun z => by subst z; exact e ⟨rfl, by omega⟩
    unfold celE
    split
    · rfl
    · congr 3
      unfold cntE
      split <;> first | exact absurd rfl hk | rfl
theorem g_dast {x : UInt64} (C : Cx Γ p l s m args meth c cc nL own) (hM : HM Γ K M H) (hS : va_S (gFree Γ) s.heap H locs) (hi : mN M 40 = 1) (hdg : decode cc pc = .ok (.dastore, 1))
    (kk : ∀ (H1 : Heap) (locs1 : List Loc), HM Γ K (sF M 0 x) H1 → va_S (gFree Γ) s.heap H1 locs1 → W p l e R s m args below meth c H1 locs1 cells slots Q (F0 m (pc + 1) ls rest)) : W p l e R s m args below meth c H locs cells slots Q (F0 m pc ls (.double x :: .int 0 :: .ref (K 40 0) :: rest)) := by
  have hK := C.2.2.2.2.2.2.1.2.1.1
  have hi0 : 0 < mN M 40 := by omega
  have h : va_at (gD Γ) clX (K 40 0, .inl (gA Γ 4, 1, .inr (.inr (.inr (.inl (mF M)))))) H := hM.1 40 0 hi0 rfl
  refine W.dast C.1 C.2.1 h ((hK.2 4 _ rfl).1 1 (fun j => .double (mF M j))) (fun q => by cases q) (by show ¬ ((0 : Int32) < 0 ∨ (arrV _ _ _).slots.size ≤ _); rw [arrV_size]; show ¬ ((0 : Int32) < 0 ∨ 1 ≤ Int32.toNatClampNeg 0); decide) rfl rfl hdg fun H1 e z oq => ?_
  refine kk H1 _ (hM.rowF hi0 ?_ oq hi) (hS.put z oq (hM.2.2.2.1 40 0 hi0))
  show H1[K 40 0]? = some (vp_cell _ _)
  rw [e]
  show some ((vp_cell (gA Γ 4) (1, .inr (.inr (.inr (.inl (mF M)))))).setSlot _ _) = _
  rw [vp_cell_d, vp_cell_d, arrV_store]
  congr 2
  funext q
  by_cases hq : q = 0
  · subst hq
    simp [updV, vf_upd]
  · simp [updV, vf_upd, hq]
end HROWS
/-- what a helper answers: the refusal's number, the value in the law's row -/
def HP (r : Nat) (v : Int64) (K : Nat → Nat → Nat) (M M1 ME : Mem) : Option Value → (Nat → Nat → Nat) → Mem → Prop := fun v' K' M' => v' = some (.int (nI r)) ∧ (∀ k i, i < mN M k → K' k i = K k i) ∧ M' = if r = 0 then sJ M1 39 0 0 v else ME
def HPF (r : Nat) (v : UInt64) (K : Nat → Nat → Nat) (M M1 ME : Mem) : Option Value → (Nat → Nat → Nat) → Mem → Prop := fun v' K' M' => v' = some (.int (nI r)) ∧ (∀ k i, i < mN M k → K' k i = K k i) ∧ M' = if r = 0 then sF M1 0 v else ME
