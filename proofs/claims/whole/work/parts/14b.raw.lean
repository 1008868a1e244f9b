/-! raw contracts: told by cells, for the methods that make objects and for those of java.util.ArrayList -/
def RQ (A : Nat → Prop) (post : Option Value → Heap → Prop) : Array Value → State → Outcome → State → Prop := fun _ st o t => (∃ v : Option Value, o = .returned v ∧ post v t.heap) ∧ va_F A st t
def RP (Γ : Gm) (P : Heap → Prop) (av : List Value) : Array Value → State → Prop := va_Pc av (fun U => CX Γ U ∧ P U.heap)
def RTc (l : Launch) (Γ : Gm) (A : Nat → Prop) (y : MethodName) (ws : List Cond) (n : Nat) (av : List Value) (P : Heap → Prop) (post : Option Value → Heap → Prop) (mc ms : Nat) : Prop :=
  Met l y ws (rmL n mc ms) (RP Γ P av) (RQ A post) mc ms A
theorem RP_blind {Γ : Gm} {P : Heap → Prop} {av : List Value} : FrameBlind (RP Γ P av) := by
  intro a U g mk hv
  obtain ⟨h0, ⟨h1, h2, h3⟩, h4⟩ := hv
  exact ⟨h0, ⟨h1, XK.same (s := U) (U := U.calling g mk a) rfl h2, XS.go (s := U) (U := U.calling g mk a) (Vm.Alike.refl U.vm) h3 (fun _ _ _ => rfl)⟩, h4⟩
section RINTRO
variable {l : Launch} {Γ : Gm} {A : Nat → Prop} {y : MethodName} {cc : ByteArray} {maxL : Nat} {ret : Option FieldType} {n : Nat} {av : List Value} {P : Heap → Prop} {post : Option Value → Heap → Prop} {mc ms : Nat}
theorem rt_intro (hfl : l.stackTraces = false) (hy : plainName y.cls = true) (hlen : (lg_sl av).length ≤ maxL)
    (body : ∀ p e s m args below meth c, Cx Γ p l s m args meth c cc maxL y.cls → meth.sig.returnType = ret → meth.name = y.name → P s.heap → ∀ ls, lv_has ls maxL (lv_args 0 av) →
      W p l e (rmL n mc ms) s m args below meth c s.heap [] 0 0 (MQ below (RQ A post) args s mc ms A) (F0 m 0 ls [])) : RTc l Γ A y (wsO y cc maxL ret) n av P post mc ms := by
  refine Met.ofW (cc := cc) (maxL := maxL) (ret := ret) hy rfl ?_
  intro p e s m args below meth c s₁ B hml hv
  obtain ⟨rfl, hCX, hM⟩ := hv
  have hts : ∀ w ∈ lw_good, w.before av.toArray s = true := fun w hw => atoms_spec (ws := wsO y cc maxL ret) B.pre w (List.mem_cons_of_mem _ hw)
  have hown : s.vm.findClass y.cls = some m.cls := findClass_of_methodNamed B.named
  have hl := lv_entry av (n := maxL) hlen
  rw [lg_entry_eq]
  exact body p e s m _ below meth c ⟨B.exec, B.bytes, hml, hown, hts, B.notSynchronized, hCX, hfl⟩ B.returns (name_of_methodNamed B.named B.method).1 hM _ hl
end RINTRO
/-- what is said of a constructor that is called -/
def CeeI (y : MethodName) (bytes : ByteArray) (maxL n : Nat) : Prop :=
  Cond.instanceMethod y ∈ lw_good ∧ Cond.initialized y.cls ∈ lw_good ∧ Cond.code y bytes maxL none ∈ lw_good ∧ y.name = "<init>" ∧ (y.cls ≠ "java/lang/invoke/MethodHandle" ∧ y.cls ≠ "java/lang/invoke/VarHandle" ∧ (parseMethodDescriptor y.desc).map (fun d => d.parameters.length) = some n) ∧ maxL ≤ 21
section RROWS
variable {p : Program} {l : Launch} {e : Env} {R : Room} {s : State} {m : MethodId} {args : Array Value} {below : List Frame} {meth : Method} {c : Code} {H : Heap} {locs : List Loc} {cells slots : Nat} {Q : State → Prop}
variable {cc : ByteArray} {nL : Nat} {own : String} {Γ : Gm} {A : Nat → Prop} {pc : Nat} {ls : Array Slot} {rest : List Value}
variable {A' : Nat → Prop} {y : MethodName} {Cn : String} {bytes : ByteArray} {maxL n na n' idx mc ms b : Nat} {ret : Option FieldType} {As st : List Value} {lvs : List (Nat × Value)} {P : Heap → Prop} {post : Option Value → Heap → Prop} {mc0 ms0 : Nat}
/-- what comes of a raw call -/
def GoesR (p : Program) (l : Launch) (e : Env) (R : Room) (s : State) (m : MethodId) (args : Array Value) (below : List Frame) (meth : Method) (c : Code) (H : Heap) (cells slots : Nat) (Q : State → Prop) (A A' : Nat → Prop) (pc : Nat) (ls : Array Slot) (rest : List Value) (post : Option Value → Heap → Prop) : Prop :=
  ∀ (v : Option Value) (H1 : Heap) (locs1 : List Loc), post v H1 → va_S A s.heap H1 locs1 → H.size ≤ H1.size → (∀ q : Nat, q < H.size → ¬ A' q → H1[q]? = H[q]?) → W p l e R s m args below meth c H1 locs1 cells slots Q (F0 m (pc + 3) ls (v.toList ++ rest))
theorem r_goes {Qa : Array Value} (hS : va_S A s.heap H locs) (hA' : ∀ q, A' q → A q)
    (hr : va_Run p l e R s m args below meth c H locs cells slots mc ms (F0 m pc ls st) rest (RQ A' post Qa) A')
    (kk : GoesR p l e R s m args below meth c H (cells + mc) (slots + ms) Q A A' pc ls rest post) : W p l e R s m args below meth c H locs cells slots Q (F0 m pc ls st) := by
  intro T hT X
  obtain ⟨v, st₀, t, T', L, h0, X', hL, e1, e2, ⟨⟨v', hv, hp⟩, hF⟩, stp⟩ := hr T hT X
  cases hv
  obtain ⟨k1, k2, k3⟩ := vx_keep h0 e1 hS (fun q _ h => hA' q h) hA' hL hF
  obtain ⟨t2, a1, b1⟩ := kk v T'.heap (locs ++ L) (by rw [e1]; exact hp) k3 k1 k2 T' rfl X'
  exact ⟨t2, stp t2 a1, b1⟩
theorem g_rV (C : Cx Γ p l s m args meth c cc nL own) (hS : va_S A s.heap H locs) (hA : ∀ q, A q → gB Γ ≤ q) (hP : P H) (hl : lv_has ls nL lvs) (hA' : ∀ q, A' q → A q)
    (callee : RTc l Γ A' y (wsO y bytes maxL ret) n' (.ref b :: As) P post mc ms) (hk : CeeV y Cn bytes maxL ret na) (hlk : Cond.methodLink own idx y ∈ lw_good)
    (hrecv : ∃ cell : Cell, H[b]? = some cell ∧ cell.vm.isStatics = false ∧ s.vm.findClass Cn = some cell.cls) (hdg : decode cc pc = .ok (.invokevirtual idx, 3))
    (hn : As.length = na) (hst : st = As.reverse ++ .ref b :: rest) (hW : (rest.map fun v => v.category).sum ≤ 8) (hlev : n' + 1 ≤ n) (hR : R = rmL n mc0 ms0) (hf : cells + mc ≤ mc0 ∧ slots + ms ≤ ms0)
    (kk : GoesR p l e R s m args below meth c H (cells + mc) (slots + ms) Q A A' pc ls rest post) : W p l e R s m args below meth c H locs cells slots Q (F0 m pc ls st) := by
  obtain ⟨g1, g2, g3, g4, g5, g6⟩ := hk
  subst hR
  refine r_goes (Qa := (Value.ref b :: As).toArray) hS hA' (va_runV (Ts := lw_good) (As := As) (rest := rest) ⟨C.1, C.2.1, C.2.2.1, C.2.2.2.1, C.2.2.2.2.1⟩ callee (cwV na C.2.2.2.2.1 (good_in fun w hw => ?_) rfl rfl rfl g5 (rm_ok hlev g6)) ⟨RP_blind, hrecv, fun U hU hW => ⟨rfl, C.move hS hA hU hW, by rw [hU]; exact hP⟩⟩ rfl hn hl.1 hst (lv_room hW) hdg hf) kk
  simp only [wsV, List.mem_append, List.mem_cons, List.not_mem_nil, or_false] at hw
  rcases hw with (rfl | rfl | rfl | rfl) | hw
  · exact hlk
  · exact g1
  · exact g2
  · exact g3
  · exact wsO_in g4 w hw
theorem g_rS (C : Cx Γ p l s m args meth c cc nL own) (hS : va_S A s.heap H locs) (hA : ∀ q, A q → gB Γ ≤ q) (hP : P H) (hl : lv_has ls nL lvs) (hA' : ∀ q, A' q → A q)
    (callee : RTc l Γ A' y (wsO y bytes maxL ret) n' As P post mc ms) (hk : CeeS y bytes maxL ret na) (hlk : Cond.methodLink own idx y ∈ lw_good)
    (hdg : decode cc pc = .ok (.invokestatic idx, 3))
    (hn : As.length = na) (hst : st = As.reverse ++ rest) (hW : (rest.map fun v => v.category).sum ≤ 8) (hlev : n' + 1 ≤ n) (hR : R = rmL n mc0 ms0) (hf : cells + mc ≤ mc0 ∧ slots + ms ≤ ms0)
    (kk : GoesR p l e R s m args below meth c H (cells + mc) (slots + ms) Q A A' pc ls rest post) : W p l e R s m args below meth c H locs cells slots Q (F0 m pc ls st) := by
  obtain ⟨g1, g3, g4, g5, g6⟩ := hk
  subst hR
  refine r_goes (Qa := As.toArray) hS hA' (va_runS (Ts := lw_good) (As := As) (rest := rest) ⟨C.1, C.2.1, C.2.2.1, C.2.2.2.1, C.2.2.2.2.1⟩ callee (va_cwS na C.2.2.2.2.1 (good_in fun w hw => ?_) rfl rfl rfl g5 (rm_ok hlev g6)) ⟨RP_blind, fun U hU hW => ⟨rfl, C.move hS hA hU hW, by rw [hU]; exact hP⟩⟩ rfl hn hl.1 hst (lv_room hW) hdg hf) kk
  simp only [va_wsS, List.mem_append, List.mem_cons, List.not_mem_nil, or_false] at hw
  rcases hw with (rfl | rfl | rfl) | hw
  · exact hlk
  · exact g1
  · exact g3
  · exact wsO_in g4 w hw
theorem g_rI (C : Cx Γ p l s m args meth c cc nL own) (hS : va_S A s.heap H locs) (hA : ∀ q, A q → gB Γ ≤ q) (hP : P H) (hl : lv_has ls nL lvs) (hA' : ∀ q, A' q → A q)
    (callee : RTc l Γ A' y (wsO y bytes maxL none) n' (.ref b :: As) P post mc ms) (hk : CeeI y bytes maxL na) (hlk : Cond.methodLink own idx y ∈ lw_good)
    (hdg : decode cc pc = .ok (.invokespecial idx, 3))
    (hn : As.length = na) (hst : st = As.reverse ++ .ref b :: rest) (hW : (rest.map fun v => v.category).sum ≤ 8) (hlev : n' + 1 ≤ n) (hR : R = rmL n mc0 ms0) (hf : cells + mc ≤ mc0 ∧ slots + ms ≤ ms0)
    (kk : GoesR p l e R s m args below meth c H (cells + mc) (slots + ms) Q A A' pc ls rest post) : W p l e R s m args below meth c H locs cells slots Q (F0 m pc ls st) := by
  obtain ⟨g1, g3, g4, g2, g5, g6⟩ := hk
  subst hR
  have hts := C.2.2.2.2.1
  exact r_goes (Qa := (Value.ref b :: As).toArray) hS hA' (va_runI (Ts := lw_good) (As := As) (rest := rest) ⟨C.1, C.2.1, C.2.2.1, C.2.2.2.1, C.2.2.2.2.1⟩ callee (cwI na hts (good_in (wsO_in g4)) rfl rfl rfl (hts _ g3) (hts _ hlk) (hts _ g1) g2 g5 (rm_ok hlev g6)) ⟨RP_blind, fun U hU hW => ⟨rfl, C.move hS hA hU hW, by rw [hU]; exact hP⟩⟩ rfl hn hl.1 hst (lv_room hW) hdg hf) kk
/-- Object's own constructor -/
theorem g_obj (C : Cx Γ p l s m args meth c cc nL own) (hl : lv_has ls nL lvs) (hlk : Cond.methodLink own idx Lib.objectInit ∈ lw_good) (hdg : decode cc pc = .ok (.invokespecial idx, 3)) (hR : R = rmL n mc0 ms0) (hW : (rest.map fun v => v.category).sum ≤ 8)
    (kk : W p l e R s m args below meth c H locs cells slots Q (F0 m (pc + 3) ls rest)) : W p l e R s m args below meth c H locs cells slots Q (F0 m pc ls (.ref b :: rest)) := by
  subst hR
  have hts := C.2.2.2.2.1
  refine W.eq (g2 := F0 m pc ls (.ref b :: rest)) rfl (W.objInit C.1 C.2.1 C.2.2.2.1 (hts _ hlk) (hts _ t_41) (hts _ t_42) rfl (hl.1.trans C.2.2.1.symm) rfl hdg ?_ ?_ (W.eq rfl kk))
  · show 1 ≤ n + 10; omega
  · show 2 * (F0 m pc ls (.ref b :: rest)).monitorRoom + _ + 12 ≤ 40 * n + 200
    have h2 := lv_room (pc := pc) (m := m) (ls := ls) (rest := .ref b :: rest) hW
    omega
-- the ends
theorem r_vret (C : Cx Γ p l s m args meth c cc nL own) (hr : meth.sig.returnType = none) (hS : va_S A s.heap H locs) (hdg : decode cc pc = .ok (.return_, 1)) (hc : cells ≤ mc) (hs : slots ≤ ms) (hp : post none H) :
    W p l e R s m args below meth c H locs cells slots (MQ below (RQ A post) args s mc ms A) (F0 m pc ls []) :=
  W.widen hc hs (W.vret C.1 C.2.1 hr (fun t ht _ => ⟨⟨_, rfl, by rw [ht]; exact hp⟩, hS.F ht⟩) hS.2.2 hdg C.2.2.2.2.2.1)
theorem r_iret {v : Int32} (C : Cx Γ p l s m args meth c cc nL own) (hr : meth.sig.returnType = some .int) (hS : va_S A s.heap H locs) (hdg : decode cc pc = .ok (.ireturn, 1)) (hc : cells ≤ mc) (hs : slots ≤ ms) (hp : post (some (.int v)) H) :
    W p l e R s m args below meth c H locs cells slots (MQ below (RQ A post) args s mc ms A) (F0 m pc ls [.int v]) :=
  W.widen hc hs (W.iret C.1 C.2.1 hr (fun t ht _ => ⟨⟨_, rfl, by rw [ht]; exact hp⟩, hS.F ht⟩) hS.2.2 hdg C.2.2.2.2.2.1)
theorem r_aret {a : Nat} {ty : FieldType} (C : Cx Γ p l s m args meth c cc nL own) (hr : meth.sig.returnType = some ty) (hS : va_S A s.heap H locs) (hrt : (∃ n, ty = .object n) ∨ ∃ t, ty = .array t) (hdg : decode cc pc = .ok (.areturn, 1)) (hc : cells ≤ mc) (hs : slots ≤ ms) (hp : post (some (.ref a)) H) :
    W p l e R s m args below meth c H locs cells slots (MQ below (RQ A post) args s mc ms A) (F0 m pc ls [.ref a]) :=
  W.widen hc hs (W.aret C.1 C.2.1 hr hrt (Or.inr ⟨_, rfl⟩) (fun t ht _ => ⟨⟨_, rfl, by rw [ht]; exact hp⟩, hS.F ht⟩) hS.2.2 hdg C.2.2.2.2.2.1)
end RROWS
theorem va_S.mono {A B : Nat → Prop} {H0 H : Heap} {locs : List Loc} (h : va_S A H0 H locs) (hAB : ∀ q, A q → B q) : va_S B H0 H locs := ⟨h.1, fun q h1 h2 => h.2.1 q h1 (fun z => h2 (hAB q z)), fun z hz => hAB _ (h.2.2 z hz)⟩
theorem va_P.two {D : va_G} {cl : List vw_C} {q1 q2 : Nat × va_E} {H : Heap} (h1 : va_at D cl q1 H) (h2 : va_at D cl q2 H) : va_P D cl [q1, q2] H := by
  intro k x hx
  match k, hx with
  | 0, hx => cases hx; exact h1
  | 1, hx => cases hx; exact h2
theorem va_P.fst {D : va_G} {cl : List vw_C} {ws : va_W} {q : Nat × va_E} {H : Heap} (h : va_P D cl (q :: ws) H) : va_at D cl q H := h 0 q rfl
theorem va_P.snd {D : va_G} {cl : List vw_C} {ws : va_W} {q1 q2 : Nat × va_E} {H : Heap} (h : va_P D cl (q1 :: q2 :: ws) H) : va_at D cl q2 H := h 1 q2 rfl
theorem va_D.two {A : Nat → Prop} {q1 q2 : Nat × va_E} (h1 : A q1.1) (h2 : A q2.1) (hne : q1.1 ≠ q2.1) : va_D A [q1, q2] := by
  refine ⟨fun i j x y hx hy hxy => ?_, fun k x hx => ?_⟩
  · match i, j, hx, hy with
    | 0, 0, _, _ => rfl
    | 1, 1, _, _ => rfl
    | 0, 1, hx, hy => cases hx; cases hy; exact absurd hxy hne
    | 1, 0, hx, hy => cases hx; cases hy; exact absurd hxy.symm hne
  · match k, hx with
    | 0, hx => cases hx; exact h1
    | 1, hx => cases hx; exact h2
/-- an object that a list of ours may hold -/
def Elt (Γ : Gm) (v : Nat) (H : Heap) : Prop := ∃ (ci : Nat) (vs : List Value), ci < 5 ∧ va_at (gD Γ) clX (v, .inr (ci, vs)) H
theorem Elt.kept {Γ : Gm} {v : Nat} {H H1 : Heap} (h : Elt Γ v H) (e : H1[v]? = H[v]?) : Elt Γ v H1 := by
  obtain ⟨ci, vs, h1, h2⟩ := h
  exact ⟨ci, vs, h1, h2.kept e⟩
theorem Elt.lt {Γ : Gm} {v : Nat} {H : Heap} (h : Elt Γ v H) : v < H.size := by
  obtain ⟨ci, vs, h1, h2⟩ := h
  exact h2.lt
theorem cast_asg {s : State} {C T : String} (h : va_Nw (.castable C T) s) (comp c0 : ClassId) (h1 : s.vm.findClass T = some comp) (h2 : s.vm.findClass C = some c0) : s.vm.assignable c0 comp = true := by
  obtain ⟨c3, c4, k1, k2, k3⟩ := Cond.castable_spec (args := #[]) (s := s) h
  rw [k1] at h2
  rw [k2] at h1
  cases h1
  cases h2
  exact k3
theorem Elt.any {p : Program} {l : Launch} {s : State} {m : MethodId} {args : Array Value} {meth : Method} {c : Code} {cc : ByteArray} {nL : Nat} {own : String} {Γ : Gm} {v : Nat} {H : Heap} (C : Cx Γ p l s m args meth c cc nL own) (h : Elt Γ v H) : va_Any "java/lang/Object" s H v := by
  obtain ⟨ci, vs, hci, h⟩ := h
  have hK := C.2.2.2.2.2.2.1.2.1.1
  have hN := C.2.2.2.2.2.2.1.2.1.2.1
  have go : ∀ {r : vw_C}, clX[ci]? = some r → Cond.castable r.1 "java/lang/Object" ∈ lw_nst → va_Any "java/lang/Object" s H v := fun hc hw => va_rAny hK (va_P.one h) (q0 := 0) rfl hc (cast_asg (hN _ hw))
  match ci, hci with
  | 0, _ => exact go rfl (nst_of n_1689)
  | 1, _ => exact go rfl (nst_of n_1675)
  | 2, _ => exact go rfl (nst_of n_1687)
  | 3, _ => exact go rfl (nst_of n_1691)
  | 4, _ => exact go rfl (nst_of n_1686)
/-! the typed memory with the lists' rows named -/
def HMB (Γ : Gm) (K : Nat → Nat → Nat) (M : Mem) (B : Nat → Nat → Nat) (H : Heap) : Prop :=
  (∀ k i, i < mN M k → isLs k = false → va_at (gD Γ) clX (K k i, celE (gA Γ) K M k i) H) ∧
  (∀ k i, isLs k = true → i < mN M k → LsAt Γ (K k i) (B k i) (mC M k i) ((mL M k i).map (K (eK k))) H) ∧ LsB Γ K (mN M) B ∧
  (∀ k i k' i', i < mN M k → i' < mN M k' → K k i = K k' i' → k = k' ∧ i = i') ∧
  (∀ k i, i < mN M k → gB Γ ≤ K k i) ∧ gE Γ < gB Γ
theorem HM.b {Γ : Gm} {K : Nat → Nat → Nat} {M : Mem} {H : Heap} (h : HM Γ K M H) : ∃ B, HMB Γ K M B H := by
  obtain ⟨h1, ⟨B, h2, h3⟩, h4, h5, h6⟩ := h
  exact ⟨B, h1, h2, h3, h4, h5, h6⟩
theorem HMB.hm {Γ : Gm} {K : Nat → Nat → Nat} {M : Mem} {B : Nat → Nat → Nat} {H : Heap} (h : HMB Γ K M B H) : HM Γ K M H := by
  obtain ⟨h1, h2, h3, h4, h5, h6⟩ := h
  exact ⟨h1, ⟨B, h2, h3⟩, h4, h5, h6⟩
theorem HM.elt {Γ : Gm} {K : Nat → Nat → Nat} {M : Mem} {H : Heap} {k i : Nat} (h : HM Γ K M H) (hk : k < 5) (hi : i < mN M k) : Elt Γ (K k i) H := ⟨k, _, hk, h.obj (by omega) hi⟩
/-- a list has changed, and nothing else -/
theorem HMB.lst {Γ : Gm} {K : Nat → Nat → Nat} {M : Mem} {B : Nat → Nat → Nat} {H H1 : Heap} (h : HMB Γ K M B H) {k i b' n' : Nat} {xs' : List Nat} (hk : isLs k = true) (hi : i < mN M k)
    (hls : LsAt Γ (K k i) b' n' (xs'.map (K (eK k))) H1) (hb : b' = B k i ∨ H.size ≤ b') (oq : ∀ q : Nat, q < H.size → q ≠ K k i → (q = B k i → q = gE Γ) → H1[q]? = H[q]?) : HM Γ K (sC (sL M k i xs') k i n') H1 := by
  have hM := h.hm
  obtain ⟨h1, h2, h3, h4, h5, h6⟩ := h
  have hKi : K k i < H.size := hM.lt hi
  have hlt : ∀ k' i', isLs k' = true → i' < mN M k' → B k' i' < H.size := fun k' i' a b => (h2 k' i' a b).lt.2
  refine ⟨fun k' i' hi' hk' => ?_, ⟨fun a c => if a = k ∧ c = i then b' else B a c, fun k' i' hk' hi' => ?_, ?_⟩, h4, h5, h6⟩
  · have e : va_at (gD Γ) clX (K k' i', celE (gA Γ) K M k' i') H := h1 k' i' hi' hk'
    refine va_at.kept (q := (K k' i', celE (gA Γ) K M k' i')) e (oq _ (hM.lt hi') (fun z => ?_) (fun z => ?_))
    · obtain ⟨rfl, -⟩ := h4 k' i' k i hi' hi z
      rw [hk] at hk'
      cases hk'
    · by_cases eE : B k i = gE Γ
      · rw [z, eE]
      · exact absurd z ((h3 k i hk hi eE).2.1 k' i' hi')
  · by_cases e : k' = k ∧ i' = i
    · obtain ⟨rfl, rfl⟩ := e
      have e1 : mL (sC (sL M k' i' xs') k' i' n') k' i' = xs' := if_pos ⟨rfl, rfl⟩
      have e2 : mC (sC (sL M k' i' xs') k' i' n') k' i' = n' := if_pos ⟨rfl, rfl⟩
      rw [e1, e2]
      dsimp only
      rw [if_pos ⟨rfl, rfl⟩]
      exact hls
    · have e1 : mL (sC (sL M k i xs') k i n') k' i' = mL M k' i' := if_neg e
      have e2 : mC (sC (sL M k i xs') k i n') k' i' = mC M k' i' := if_neg e
      rw [e1, e2]
      dsimp only
      rw [if_neg e]
      refine (h2 k' i' hk' hi').kept (oq _ (hM.lt hi') (fun z => e (h4 k' i' k i hi' hi z)) (fun z => ?_)) (oq _ (hlt k' i' hk' hi') (fun z => ?_) (fun z => ?_))
      · by_cases eE : B k i = gE Γ
        · rw [z, eE]
        · exact absurd z ((h3 k i hk hi eE).2.1 k' i' hi')
      · by_cases eE : B k' i' = gE Γ
        · have := h5 k i hi
          omega
        · exact absurd z.symm ((h3 k' i' hk' hi' eE).2.1 k i hi)
      · by_cases eE : B k i = gE Γ
        · rw [z, eE]
        · exact absurd ((h3 k i hk hi eE).2.2 k' i' hk' hi' z) e
  · intro a c ha hc hne
    by_cases e : a = k ∧ c = i
    · obtain ⟨rfl, rfl⟩ := e
      dsimp only at hne ⊢
      rw [if_pos ⟨rfl, rfl⟩] at hne ⊢
      rcases hb with hb | hb
      · subst hb
        obtain ⟨g1, g2, g3⟩ := h3 a c ha hc hne
        refine ⟨g1, g2, fun k' i' hk' hi' z => ?_⟩
        by_cases e2 : k' = a ∧ i' = c
        · exact e2
        · try dsimp only at z
          rw [if_neg e2] at z
          exact g3 k' i' hk' hi' z
      · refine ⟨by have := h5 a c hc; omega, fun k' i' hi' z => by have := hM.lt (k := k') hi'; omega, fun k' i' hk' hi' z => ?_⟩
        by_cases e2 : k' = a ∧ i' = c
        · exact e2
        · try dsimp only at z
          rw [if_neg e2] at z
          have := hlt k' i' hk' hi'
          omega
    · dsimp only at hne ⊢
      rw [if_neg e] at hne ⊢
      obtain ⟨g1, g2, g3⟩ := h3 a c ha hc hne
      refine ⟨g1, g2, fun k' i' hk' hi' z => ?_⟩
      try dsimp only at z
      by_cases e2 : k' = k ∧ i' = i
      · rw [if_pos e2] at z
        obtain ⟨rfl, rfl⟩ := e2
        rcases hb with hb | hb
        · rw [hb] at z
          exact g3 k' i' hk' hi' z
        · have := hlt a c ha hc
          omega
      · rw [if_neg e2] at z
        exact g3 k' i' hk' hi' z
