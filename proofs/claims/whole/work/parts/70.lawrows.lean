/-! the law's own rows: the room is the law's -/
def RmL (R : Room) : Prop := 60 ≤ R.frames ∧ 3000 ≤ R.locals
/-- the law's input -/
def InA (s : State) (a0 n : Nat) (f : Nat → Int32) : Prop := va_X a0 n f s s.heap ∧ a0 < s.heap.size
section LROWS
variable {p : Program} {l : Launch} {e : Env} {R : Room} {s : State} {m : MethodId} {args : Array Value} {below : List Frame} {meth : Method} {c : Code} {H : Heap} {locs : List Loc} {cells slots : Nat} {Q : State → Prop}
variable {cc : ByteArray} {nL : Nat} {own : String} {Γ : Gm} {A : Nat → Prop} {K : Nat → Nat → Nat} {M : Mem} {pc : Nat} {ls : Array Slot} {rest : List Value}
variable {A' : Nat → Prop} {y : MethodName} {Cn : String} {bytes : ByteArray} {maxL n na n' idx mc ms b : Nat} {ret : Option FieldType} {As st : List Value} {lvs : List (Nat × Value)} {post : Option Value → (Nat → Nat → Nat) → Mem → Prop} {xp : String → Prop}
variable {cnd : Prop} {v1 : Option Value} {K1 : Nat → Nat → Nat} {M1 : Mem}
theorem rm_okL {n' maxL mc' ms' : Nat} (hn : n' ≤ 30) (hm : maxL ≤ 21) (hR : RmL R) : (rmL n' mc' ms').frames + 1 ≤ R.frames ∧ 8 + (maxL + 11) + (rmL n' mc' ms').locals ≤ R.locals := by
  obtain ⟨h1, h2⟩ := hR
  unfold rmL
  dsimp only
  omega
theorem g_callHL {hh : List (Nat × Nat × Nat × Nat)} (C : Cx Γ p l s m args meth c cc nL own) (hS : va_S A s.heap H locs) (hA : ∀ q, A q → gB Γ ≤ q) (hM : HM Γ K M H) (hl : lv_has ls nL lvs) (hA' : ∀ q, A' q → A q)
    (callee : CT l Γ A' y (wsH y bytes maxL ret hh) n' As K M post xNo mc ms) (hk : CeeH y bytes maxL ret hh na) (hlk : Cond.methodLink own idx y ∈ lw_good)
    (hdg : decode cc pc = .ok (.invokestatic idx, 3))
    (hn : As.length = na) (hst : st = As.reverse ++ rest) (hW : (rest.map fun v => v.category).sum ≤ 8) (hlev : n' ≤ 30) (hR : RmL R) (hf : cells + mc ≤ R.cells ∧ slots + ms ≤ R.slots)
    (kk : Goes2 p l e R s m args below meth c H (cells + mc) (slots + ms) Q Γ A A' pc ls rest post) : W p l e R s m args below meth c H locs cells slots Q (F0 m pc ls st) := by
  obtain ⟨g1, g3, g4, g5, g6⟩ := hk
  refine run_goes (Qa := As) hS hA' (vx_runSX (Ts := lw_good) (As := As) (rest := rest) ⟨C.1, C.2.1, C.2.2.1, C.2.2.2.1, C.2.2.2.2.1⟩ callee (vx_cwSW na C.2.2.2.2.1 (good_in fun w hw => ?_) rfl rfl rfl g5 (rm_okL hlev g6 hR)) ⟨aPc_blind, fun U hU hW => ⟨rfl, C.move hS hA hU hW, by rw [hU]; exact hM⟩⟩ rfl hn hl.1 hst (lv_room hW) hdg hf) xNo_goes kk
  simp only [va_wsS, List.mem_append, List.mem_cons, List.not_mem_nil, or_false] at hw
  rcases hw with (rfl | rfl | rfl) | hw
  · exact hlk
  · exact g1
  · exact g3
  · exact wsH_in g4 w hw
theorem g_cVL (C : Cx Γ p l s m args meth c cc nL own) (hS : va_S A s.heap H locs) (hA : ∀ q, A q → gB Γ ≤ q) (hM : HM Γ K M H) (hl : lv_has ls nL lvs) (hA' : ∀ q, A' q → A q)
    (callee : CT l Γ A' y (wsO y bytes maxL ret) n' (.ref b :: As) K M (DD cnd v1 K1 M1) xNo mc ms) (hk : CeeV y Cn bytes maxL ret na) (hlk : Cond.methodLink own idx y ∈ lw_good)
    (hrecv : ∃ cell : Cell, H[b]? = some cell ∧ cell.vm.isStatics = false ∧ s.vm.findClass Cn = some cell.cls) (hdg : decode cc pc = .ok (.invokevirtual idx, 3))
    (hn : As.length = na) (hst : st = As.reverse ++ .ref b :: rest) (hW : (rest.map fun v => v.category).sum ≤ 8) (hlev : n' ≤ 30) (hR : RmL R) (hf : cells + mc ≤ R.cells ∧ slots + ms ≤ R.slots)
    (kk : ∀ (H1 : Heap) (locs1 : List Loc), HM Γ K1 M1 H1 → va_S A s.heap H1 locs1 → W p l e R s m args below meth c H1 locs1 (cells + mc) (slots + ms) Q (F0 m (pc + 3) ls (psh v1 rest))) : W p l e R s m args below meth c H locs cells slots Q (F0 m pc ls st) := by
  obtain ⟨g1, g2, g3, g4, g5, g6⟩ := hk
  refine run_goes (Qa := .ref b :: As) hS hA' (vx_runV (Ts := lw_good) (As := As) (rest := rest) ⟨C.1, C.2.1, C.2.2.1, C.2.2.2.1, C.2.2.2.2.1⟩ callee (cwV na C.2.2.2.2.1 (good_in fun w hw => ?_) rfl rfl rfl g5 (rm_okL hlev g6 hR)) ⟨aPc_blind, hrecv, fun U hU hW => ⟨rfl, C.move hS hA hU hW, by rw [hU]; exact hM⟩⟩ rfl hn hl.1 hst (lv_room hW) hdg hf) xNo_goes ?_
  · simp only [wsV, List.mem_append, List.mem_cons, List.not_mem_nil, or_false] at hw
    rcases hw with (rfl | rfl | rfl | rfl) | hw
    · exact hlk
    · exact g1
    · exact g2
    · exact g3
    · exact wsO_in g4 w hw
  · intro v K' M' H1 locs1 hp hm hs _ _
    obtain ⟨h0, rfl, rfl, rfl⟩ := hp
    rw [psh_eq]
    exact kk H1 locs1 hm hs
theorem g_lcmp0 {x y : Int64} (hexec : p.tables.exec = Jvm.exec) (hb : c.code = cc) (hdg : decode cc pc = .ok (.lcmp, 1)) (h : x = y)
    (k : W p l e R s m args below meth c H locs cells slots Q (F0 m (pc + 1) ls (.int 0 :: rest))) : W p l e R s m args below meth c H locs cells slots Q (F0 m pc ls (.long y :: .long x :: rest)) := by
  subst h
  intro T hT X
  obtain ⟨t, a, b⟩ := k T hT X
  refine ⟨t, ?_, b⟩
  jvm_step X.here [X.here.top, hexec, hb, hdg, Op.lcmp.sem, Int64.lt_irrefl]
  exact a
/-- a number of the input -/
theorem g_inp {f : Nat → Int32} {a0 n i j : Nat} {x : Int32} (C : Cx Γ p l s m args meth c cc nL own) (hin : InA s a0 n f) (ha : a0 < gB Γ) (hS : va_S (gFree Γ) s.heap H locs) (hx : x = nI (i + j)) (hj : i + j < n) (hn : n ≤ 3072) (hdg : decode cc pc = .ok (.iaload, 1))
    (kk : W p l e R s m args below meth c H locs cells slots Q (F0 m (pc + 1) ls (.int (f (i + j)) :: rest))) : W p l e R s m args below meth c H locs cells slots Q (F0 m pc ls (.int x :: .ref a0 :: rest)) := by
  subst hx
  refine va_sld C.1 C.2.1 hin.1 hin.2 (Nat.not_le.mpr ha) hS (vp_in_nI hj (by omega)) hdg ?_
  rw [nI_clamp (by omega)]
  exact kk
theorem g_lald (C : Cx Γ p l s m args meth c cc nL own) (hM : HM Γ K M H) (hi : 0 < mN M 39) (hdg : decode cc pc = .ok (.laload, 1))
    (kk : W p l e R s m args below meth c H locs cells slots Q (F0 m (pc + 1) ls (.long (mJ M 39 0 0) :: rest))) : W p l e R s m args below meth c H locs cells slots Q (F0 m pc ls (.int 0 :: .ref (K 39 0) :: rest)) :=
  va_lald C.1 C.2.1 C.2.2.2.2.2.2.1.2.1.1 (va_P.one (q := (K 39 0, .inl (gA Γ 3, 1, .inr (.inl (fun j => mJ M 39 j 0))))) (hM.1 39 0 hi rfl)) 0 3 rfl rfl (by unfold vp_in; decide) hdg kk
theorem g_dald (C : Cx Γ p l s m args meth c cc nL own) (hM : HM Γ K M H) (hi : 0 < mN M 40) (hdg : decode cc pc = .ok (.daload, 1))
    (kk : W p l e R s m args below meth c H locs cells slots Q (F0 m (pc + 1) ls (.double (mF M 0) :: rest))) : W p l e R s m args below meth c H locs cells slots Q (F0 m pc ls (.int 0 :: .ref (K 40 0) :: rest)) :=
  va_dald C.1 C.2.1 C.2.2.2.2.2.2.1.2.1.1 (va_P.one (q := (K 40 0, .inl (gA Γ 4, 1, .inr (.inr (.inr (.inl (mF M))))))) (hM.1 40 0 hi rfl)) 0 4 rfl rfl (by unfold vp_in; decide) hdg kk
/-- a number told as a boolean -/
theorem g_tobool {x : Int32} {off off2 : Int} (hexec : p.tables.exec = Jvm.exec) (hb : c.code = cc) (d0 : decode cc pc = .ok (.ifCond .eq off, 3)) (d1 : decode cc (pc + 3) = .ok (.iconst 1, 1)) (d2 : decode cc (pc + 4) = .ok (.goto off2, 3)) (d3 : decode cc (pc + 7) = .ok (.iconst 0, 1))
    (h1 : (pc : Int) + off = ((pc + 7 : Nat) : Int)) (h2 : ((pc + 4 : Nat) : Int) + off2 = ((pc + 8 : Nat) : Int))
    (kk : W p l e R s m args below meth c H locs cells slots Q (F0 m (pc + 8) ls (.int (bI (!decide (x = 0))) :: rest))) : W p l e R s m args below meth c H locs cells slots Q (F0 m pc ls (.int x :: rest)) := by
  refine lv_if_eq (tgt := pc + 7) hexec hb d0 h1 (fun z => ?_) (fun z => ?_)
  · refine lv_iconst (v := 0) hexec hb d3 (by decide) ?_
    rw [show (0 : Int32) = bI (!decide (x = 0)) from by rw [decide_eq_true z]; rfl]
    exact kk
  · refine lv_iconst (v := 1) hexec hb d1 (by decide) ?_
    refine lv_goto (tgt := pc + 8) hexec hb d2 h2 ?_
    rw [show (1 : Int32) = bI (!decide (x = 0)) from by rw [decide_eq_false z]; rfl]
    exact kk
end LROWS
/-- the law's locals -/
abbrev LV (K : Nat → Nat → Nat) (a0 i : Nat) : List (Nat × Value) := [(0, .ref a0), (1, .ref (K 6 0)), (2, .ref (K 7 0)), (3, .ref (K 39 0)), (4, .ref (K 40 0)), (5, .int (nI i))]
