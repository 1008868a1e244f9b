/-! contexts, contracts, calls and fields over the typed memory -/
abbrev tysX (Γ : Gm) : List (ClassId × FieldType) := [(gA Γ 0, .int), (gA Γ 1, .char), (gA Γ 2, .boolean), (gA Γ 3, .long), (gA Γ 4, .double), (gA Γ 5, .object "java/lang/Object"), (gA Γ 6, .object "TicketWeaver$Customer"), (gA Γ 7, .object "TicketWeaver$TopicQueue")]
/-- the String constants of the desk that its throws load -/
def strX : List (String × Nat × String × Nat) := [(RX6, 57, "the minutes are out of range", 0), (RX6, 91, "no such customer or class", 1), (RX6, 99, "no such class, or the promise is out of range", 2), (RX6, 107, "a number is out of range", 3), (RX6, 111, "no such mail to answer", 4), (RX6, 120, "there is no room for the mail or its ticket", 5), (RX6, 144, "no such mail", 6), (RX6, 347, "no such ticket", 7), (RX6, 157, "the ticket has no such mail", 8), (RX6, 163, "the ticket is not merged", 9), (RX6, 165, "no such topic", 10), (RX6, 352, "the ticket is neither open nor held", 11), (RX6, 199, "the skills are out of range", 12), (RX6, 201, "there is no room for another agent", 13), (RX6, 350, "no such agent", 14), (RX6, 212, "the agent has the skill", 15), (RX6, 234, "the ticket is nobody's", 16), (RX6, 241, "there is no ticket for the agent", 17), (RX6, 252, "the agent is off shift, or has 3 tickets", 18), (RX6, 257, "the ticket is nobody's, or this agent has it, or has 3 tickets", 19), (RX6, 259, "the agent cannot answer the ticket", 20), (RX6, 264, "the ticket is not open", 21), (RX6, 266, "the ticket is not held", 22), (RX6, 268, "the ticket is not open, or it is nobody's", 23), (RX6, 273, "no such prepared answer", 24), (RX6, 284, "the ticket is not answered", 25), (RX6, 296, "both tickets are the same", 26), (RX6, 302, "the tickets are of different customers", 27), (RX6, 307, "the words are out of range", 28), (RX6, 309, "there is no room for another answer", 29), (RX6, 320, "no answer has a word in common with the ticket", 30), (RX6, 330, "no ticket was answered", 31)]
/-- those of them that may be written over by a later resolution: they come along by themselves -/
def nstW : Cond → Bool
  | .declares .. => true
  | w => nestW w
def lw_nst : List Cond := tables_1.filter nstW
theorem nst_of {w : Cond} (h : w ∈ lw_nest) : w ∈ lw_nst := by
  obtain ⟨h1, h2⟩ := List.mem_filter.mp h
  refine List.mem_filter.mpr ⟨h1, ?_⟩
  cases w <;> first | rfl | cases h2
/-- the exceptions that the desk throws: none of them is another -/
def ncX : List (String × String) := [("java/lang/IllegalArgumentException", "java/lang/IndexOutOfBoundsException"), ("java/lang/IllegalArgumentException", "java/util/NoSuchElementException"), ("java/lang/IllegalArgumentException", "java/lang/IllegalStateException"), ("java/lang/IllegalArgumentException", "java/lang/UnsupportedOperationException"), ("java/lang/IllegalArgumentException", "java/lang/ArithmeticException"), ("java/lang/IndexOutOfBoundsException", "java/lang/IllegalArgumentException"), ("java/lang/IndexOutOfBoundsException", "java/util/NoSuchElementException"), ("java/lang/IndexOutOfBoundsException", "java/lang/IllegalStateException"), ("java/lang/IndexOutOfBoundsException", "java/lang/UnsupportedOperationException"), ("java/lang/IndexOutOfBoundsException", "java/lang/ArithmeticException"), ("java/util/NoSuchElementException", "java/lang/IllegalArgumentException"), ("java/util/NoSuchElementException", "java/lang/IndexOutOfBoundsException"), ("java/util/NoSuchElementException", "java/lang/IllegalStateException"), ("java/util/NoSuchElementException", "java/lang/UnsupportedOperationException"), ("java/util/NoSuchElementException", "java/lang/ArithmeticException"), ("java/lang/IllegalStateException", "java/lang/IllegalArgumentException"), ("java/lang/IllegalStateException", "java/lang/IndexOutOfBoundsException"), ("java/lang/IllegalStateException", "java/util/NoSuchElementException"), ("java/lang/IllegalStateException", "java/lang/UnsupportedOperationException"), ("java/lang/IllegalStateException", "java/lang/ArithmeticException"), ("java/lang/UnsupportedOperationException", "java/lang/IllegalArgumentException"), ("java/lang/UnsupportedOperationException", "java/lang/IndexOutOfBoundsException"), ("java/lang/UnsupportedOperationException", "java/util/NoSuchElementException"), ("java/lang/UnsupportedOperationException", "java/lang/IllegalStateException"), ("java/lang/UnsupportedOperationException", "java/lang/ArithmeticException"), ("java/lang/ArithmeticException", "java/lang/IllegalArgumentException"), ("java/lang/ArithmeticException", "java/lang/IndexOutOfBoundsException"), ("java/lang/ArithmeticException", "java/util/NoSuchElementException"), ("java/lang/ArithmeticException", "java/lang/IllegalStateException"), ("java/lang/ArithmeticException", "java/lang/UnsupportedOperationException")]
/-- the classes of rows of objects, and the Class object of a row of Objects -/
def XE (Γ : Gm) (U : State) : Prop := va_AO "java/lang/Object" U ∧ va_AO "TicketWeaver$Customer" U ∧ va_AO "TicketWeaver$TopicQueue" U ∧ va_Mi "[Ljava/lang/Object;" (gS Γ 1000) U ∧ ∀ q ∈ ncX, va_Nc q.1 q.2 U
theorem XE.moved {Γ : Gm} {u U : State} (hvm : u.vm.Alike U.vm) (h : XE Γ u) : XE Γ U := by
  obtain ⟨h1, h2, h3, h4, h5⟩ := h
  exact ⟨h1.moved hvm, h2.moved hvm, h3.moved hvm, h4.moved hvm, fun q hq => (h5 q hq).moved hvm⟩
/-- what the tables say to every method -/
def XK (Γ : Gm) (U : State) : Prop := va_K (gD Γ) clX (tysX Γ) U ∧ (∀ w ∈ lw_nst, va_Nw w U) ∧ (∀ q ∈ strX, vk_R q.1 q.2.1 q.2.2.1 (gS Γ q.2.2.2) U) ∧ XE Γ U
/-- what lies in cells that nobody writes -/
def XS (Γ : Gm) (U : State) (H : Heap) : Prop :=
  vx_Zq Bundle.tN "UNASSIGNED_STACK" Bundle.steD (gFree Γ) U H ∧ vx_Zq Bundle.tN "SUPPRESSED_SENTINEL" Bundle.listD (gFree Γ) U H ∧
  va_Z "java/util/ArrayList" "DEFAULTCAPACITY_EMPTY_ELEMENTDATA" "[Ljava/lang/Object;" (.ref (gE Γ)) (gFree Γ) U H ∧ EmpAt Γ (gE Γ) H ∧ gE Γ < gB Γ
def CX (Γ : Gm) (U : State) : Prop := gB Γ ≤ U.heap.size ∧ XK Γ U ∧ XS Γ U U.heap
theorem nest_warm {w : Cond} (hw : w ∈ lw_nst) {s U : State} (hW : s.WarmedH U.vm) (h : va_Nw w s) : va_Nw w U := by
  have h1 := (List.mem_filter.mp hw).2
  cases w <;> first | exact va_Nw.warmF hW h | exact va_Nw.warmM hW h | exact va_Nw.warmC hW h | exact va_Nw.warmD hW h | cases h1
theorem XK.warm {Γ : Gm} {s U : State} (hW : s.WarmedH U.vm) (h : XK Γ s) : XK Γ U :=
  ⟨va_K.moved hW.alike h.1, fun w hw => nest_warm hw hW (h.2.1 w hw), fun q hq => (h.2.2.1 q hq).warm hW, h.2.2.2.moved hW.alike⟩
theorem XK.same {Γ : Gm} {s U : State} (hv : s.vm = U.vm) (h : XK Γ s) : XK Γ U := by
  refine ⟨va_K.moved (by rw [hv]; exact Vm.Alike.refl _) h.1, fun w hw => ?_, fun q hq => (h.2.2.1 q hq).same hv.symm, h.2.2.2.moved (by rw [hv]; exact Vm.Alike.refl _)⟩
  have h1 := (List.mem_filter.mp hw).2
  have h2 := h.2.1 w hw
  cases w <;> first | exact va_Nw.same rfl hv h2 | cases h1
theorem XS.go {Γ : Gm} {s U : State} {H H1 : Heap} (hv : s.vm.Alike U.vm) (h : XS Γ s H) (hq : ∀ a : Nat, a < H.size → ¬ gFree Γ a → H1[a]? = H[a]?) : XS Γ U H1 := by
  obtain ⟨h1, h2, h3, h4, h5⟩ := h
  exact ⟨(h1.moved hv).kept hq, (h2.moved hv).kept hq, (h3.moved hv).kept hq, h4.kept (hq _ h4.lt (Nat.not_le.mpr h5)), h5⟩
/-- the words that a method of ours stands on: its code, and the tables' -/
def wsO (y : MethodName) (bytes : ByteArray) (maxL : Nat) (ret : Option FieldType) : List Cond := .code y bytes maxL ret :: lw_good
/-- the room of a method of depth n -/
def rmL (n mc ms : Nat) : Room := { frames := n + 10, cells := mc, slots := ms, locals := 40 * n + 200 }
def cQ (Γ : Gm) (A : Nat → Prop) (post : Option Value → (Nat → Nat → Nat) → Mem → Prop) : Array Value → State → Outcome → State → Prop := fun _ st o t =>
  (∃ (v : Option Value) (K' : Nat → Nat → Nat) (M' : Mem), o = .returned v ∧ post v K' M' ∧ HM Γ K' M' t.heap) ∧ va_F A st t
def cX (Γ : Gm) (A : Nat → Prop) (K : Nat → Nat → Nat) (M : Mem) (xp : String → Prop) : String → State → State → Prop := fun E st t => xp E ∧ HM Γ K M t.heap ∧ va_F A st t
def aPc (Γ : Gm) (K : Nat → Nat → Nat) (M : Mem) (av : List Value) : Array Value → State → Prop := va_Pc av (fun U => CX Γ U ∧ HM Γ K M U.heap)
/-- A CONTRACT: called with av in the memory M, it returns what post says, or throws a class that xp allows and leaves M; cells outside A stay -/
def CT (l : Launch) (Γ : Gm) (A : Nat → Prop) (y : MethodName) (ws : List Cond) (n : Nat) (av : List Value) (K : Nat → Nat → Nat) (M : Mem) (post : Option Value → (Nat → Nat → Nat) → Mem → Prop) (xp : String → Prop) (mc ms : Nat) : Prop :=
  vx_Met l y ws (rmL n mc ms) (aPc Γ K M av) (cQ Γ A post) (cX Γ A K M xp) mc ms A
def xNo : String → Prop := fun _ => False
def pF : Nat → Prop := fun _ => False
-- the ends
def Rv (P : (Nat → Nat → Nat) → Mem → Prop) : Option Value → (Nat → Nat → Nat) → Mem → Prop := fun v K M => v = none ∧ P K M
def Ri (P : Int32 → (Nat → Nat → Nat) → Mem → Prop) : Option Value → (Nat → Nat → Nat) → Mem → Prop := fun v K M => ∃ r, v = some (.int r) ∧ P r K M
def Rl (P : Int64 → (Nat → Nat → Nat) → Mem → Prop) : Option Value → (Nat → Nat → Nat) → Mem → Prop := fun v K M => ∃ r, v = some (.long r) ∧ P r K M
def Rq (P : Option Nat → (Nat → Nat → Nat) → Mem → Prop) : Option Value → (Nat → Nat → Nat) → Mem → Prop := fun v K M => ∃ r, v = some (va_rf r) ∧ P r K M
/-- the method's own context -/
def Cx (Γ : Gm) (p : Program) (l : Launch) (s : State) (m : MethodId) (args : Array Value) (meth : Method) (c : Code) (cc : ByteArray) (nL : Nat) (own : String) : Prop :=
  p.tables.exec = Jvm.exec ∧ c.code = cc ∧ c.maxLocals = nL ∧ s.vm.findClass own = some m.cls ∧ (∀ w ∈ lw_good, w.before args s = true) ∧ meth.locks = false ∧ CX Γ s ∧ l.stackTraces = false
section INTRO
variable {l : Launch} {Γ : Gm} {A : Nat → Prop} {y : MethodName} {cc : ByteArray} {maxL : Nat} {ret : Option FieldType} {n : Nat} {av : List Value} {K : Nat → Nat → Nat} {M : Mem} {post : Option Value → (Nat → Nat → Nat) → Mem → Prop} {xp : String → Prop} {mc ms : Nat}
theorem ct_intro (hfl : l.stackTraces = false) (hy : plainName y.cls = true) (hlen : (lg_sl av).length ≤ maxL)
    (body : ∀ p e s m args below meth c, Cx Γ p l s m args meth c cc maxL y.cls → (∀ x ∈ c.exceptionTable.toList, False) → meth.sig.returnType = ret → meth.name = y.name → HM Γ K M s.heap → ∀ ls, lv_has ls maxL (lv_args 0 av) →
      W p l e (rmL n mc ms) s m args below meth c s.heap [] 0 0 (vx_MQ below (cQ Γ A post) (cX Γ A K M xp) args s mc ms A) (F0 m 0 ls [])) : CT l Γ A y (wsO y cc maxL ret) n av K M post xp mc ms := by
  refine vx_ofW (cc := cc) (maxL := maxL) (ret := ret) hy rfl ?_
  intro p e s m args below meth c s₁ B hml htab hv
  obtain ⟨rfl, hCX, hM⟩ := hv
  have hts : ∀ w ∈ lw_good, w.before av.toArray s = true := fun w hw => atoms_spec (ws := wsO y cc maxL ret) B.pre w (List.mem_cons_of_mem _ hw)
  have hown : s.vm.findClass y.cls = some m.cls := findClass_of_methodNamed B.named
  have hl := lv_entry av (n := maxL) hlen
  rw [lg_entry_eq]
  exact body p e s m _ below meth c ⟨B.exec, B.bytes, hml, hown, hts, B.notSynchronized, hCX, hfl⟩ htab B.returns (name_of_methodNamed B.named B.method).1 hM _ hl
end INTRO
section ROWS
variable {p : Program} {l : Launch} {e : Env} {R : Room} {s : State} {m : MethodId} {args : Array Value} {below : List Frame} {meth : Method} {c : Code} {H : Heap} {locs : List Loc} {cells slots : Nat} {Q : State → Prop}
variable {cc : ByteArray} {nL : Nat} {own : String} {Γ : Gm} {A : Nat → Prop} {K : Nat → Nat → Nat} {M : Mem} {pc : Nat} {ls : Array Slot} {rest : List Value}
theorem Cx.move {U : State} (C : Cx Γ p l s m args meth c cc nL own) (hS : va_S A s.heap H locs) (hA : ∀ q, A q → gB Γ ≤ q) (hU : U.heap = H) (hW : s.WarmedH U.vm) : CX Γ U := by
  obtain ⟨-, -, -, -, -, -, ⟨h1, h2, h3⟩, -⟩ := C
  refine ⟨Nat.le_trans h1 (by rw [hU]; exact hS.1), h2.warm hW, h3.go hW.alike (fun a ha hf => ?_)⟩
  rw [hU]
  exact hS.2.1 a ha (fun z => hf (hA a z))
/-- what is said of a method that is called -/
def CeeV (y : MethodName) (C : String) (bytes : ByteArray) (maxL : Nat) (ret : Option FieldType) (n : Nat) : Prop :=
  Cond.instanceMethod y ∈ lw_good ∧ Cond.selects C y y ∈ lw_good ∧ Cond.initialized C ∈ lw_good ∧ Cond.code y bytes maxL ret ∈ lw_good ∧ (y.cls = C ∧ y.cls ≠ "java/lang/invoke/MethodHandle" ∧ y.cls ≠ "java/lang/invoke/VarHandle" ∧ (parseMethodDescriptor y.desc).map (fun d => d.parameters.length) = some n) ∧ maxL ≤ 21
def CeeS (y : MethodName) (bytes : ByteArray) (maxL : Nat) (ret : Option FieldType) (n : Nat) : Prop :=
  Cond.static y ∈ lw_good ∧ Cond.initialized y.cls ∈ lw_good ∧ Cond.code y bytes maxL ret ∈ lw_good ∧ (y.cls ≠ "java/lang/invoke/MethodHandle" ∧ y.cls ≠ "java/lang/invoke/VarHandle" ∧ (parseMethodDescriptor y.desc).map (fun d => d.parameters.length) = some n) ∧ maxL ≤ 21
theorem aPc_blind {av : List Value} : FrameBlind (aPc Γ K M av) := by
  intro a U g mk hv
  obtain ⟨h0, ⟨h1, h2, h3⟩, h4⟩ := hv
  exact ⟨h0, ⟨h1, XK.same (s := U) (U := U.calling g mk a) rfl h2, XS.go (s := U) (U := U.calling g mk a) (Vm.Alike.refl U.vm) h3 (fun _ _ _ => rfl)⟩, h4⟩
theorem good_in {ws : List Cond} (h : ∀ w ∈ ws, w ∈ lw_good) : GoodIn lw_good ws := fun w hw => ⟨h w hw, good_of_word (lw_good_goods w (h w hw))⟩
theorem wsO_in {y : MethodName} {bytes : ByteArray} {maxL : Nat} {ret : Option FieldType} (h : Cond.code y bytes maxL ret ∈ lw_good) : ∀ w ∈ wsO y bytes maxL ret, w ∈ lw_good := fun w hw => (List.mem_cons.mp hw).elim (fun e => by rw [e]; exact h) id
theorem rm_ok {n n' maxL mc ms mc' ms' : Nat} (hn : n' + 1 ≤ n) (hm : maxL ≤ 21) : (rmL n' mc' ms').frames + 1 ≤ (rmL n mc ms).frames ∧ 8 + (maxL + 11) + (rmL n' mc' ms').locals ≤ (rmL n mc ms).locals := by
  unfold rmL
  dsimp only
  omega
variable {A' : Nat → Prop} {y : MethodName} {Cn : String} {bytes : ByteArray} {maxL n na n' idx mc ms b : Nat} {ret : Option FieldType} {As st : List Value} {lvs : List (Nat × Value)} {post : Option Value → (Nat → Nat → Nat) → Mem → Prop} {xp : String → Prop} {mc0 ms0 : Nat}
/-- what comes of a call -/
def Goes2 (p : Program) (l : Launch) (e : Env) (R : Room) (s : State) (m : MethodId) (args : Array Value) (below : List Frame) (meth : Method) (c : Code) (H : Heap) (cells slots : Nat) (Q : State → Prop) (Γ : Gm) (A A' : Nat → Prop) (pc : Nat) (ls : Array Slot) (rest : List Value) (post : Option Value → (Nat → Nat → Nat) → Mem → Prop) : Prop :=
  ∀ (v : Option Value) (K' : Nat → Nat → Nat) (M' : Mem) (H1 : Heap) (locs1 : List Loc), post v K' M' → HM Γ K' M' H1 → va_S A s.heap H1 locs1 → H.size ≤ H1.size → (∀ q : Nat, q < H.size → ¬ A' q → H1[q]? = H[q]?) → W p l e R s m args below meth c H1 locs1 cells slots Q (F0 m (pc + 3) ls (v.toList ++ rest))
def GoesX (p : Program) (l : Launch) (e : Env) (R : Room) (s : State) (m : MethodId) (args : Array Value) (below : List Frame) (meth : Method) (c : Code) (H : Heap) (cells slots : Nat) (Q : State → Prop) (Γ : Gm) (A : Nat → Prop) (K : Nat → Nat → Nat) (M : Mem) (pc : Nat) (ls : Array Slot) (rest : List Value) (xp : String → Prop) : Prop :=
  ∀ (E : String) (q9 : Addr) (ce : Cell) (H1 : Heap) (locs1 : List Loc), xp E → HM Γ K M H1 → va_S A s.heap H1 locs1 → H1[q9]? = some ce → ce.vm = .none → s.vm.findClass E = some ce.cls → vx_W p l e R s m args below meth c H1 locs1 cells slots Q (F0 m pc ls rest) q9
theorem xNo_goes : GoesX p l e R s m args below meth c H cells slots Q Γ A K M pc ls rest xNo := fun _ _ _ _ _ h => h.elim
theorem run_goes {Qa : List Value} (hS : va_S A s.heap H locs) (hA' : ∀ q, A' q → A q)
    (hr : vx_Run p l e R s m args below meth c H locs cells slots mc ms (F0 m pc ls st) rest (cQ Γ A' post Qa.toArray) (cX Γ A' K M xp) A')
    (kx : GoesX p l e R s m args below meth c H (cells + mc) (slots + ms) Q Γ A K M pc ls rest xp)
    (kk : Goes2 p l e R s m args below meth c H (cells + mc) (slots + ms) Q Γ A A' pc ls rest post) : W p l e R s m args below meth c H locs cells slots Q (F0 m pc ls st) := by
  intro T hT X
  rcases hr T hT X with ⟨v, st₀, t, T', L, h0, X', hL, e1, e2, ⟨⟨v', K', M', hv, hp, hm⟩, hF⟩, stp⟩ | ⟨q, st₀, t, T', L, E, ce, h0, X', hL, e1, e2, ⟨hp, hm, hF⟩, hce, hcv, hcl, stp⟩
  · cases hv
    obtain ⟨k1, k2, k3⟩ := vx_keep h0 e1 hS (fun q _ h => hA' q h) hA' hL hF
    obtain ⟨t2, a1, b1⟩ := kk v K' M' T'.heap (locs ++ L) hp (by rw [e1]; exact hm) k3 k1 k2 T' rfl X'
    exact ⟨t2, stp t2 a1, b1⟩
  · obtain ⟨k1, k2, k3⟩ := vx_keep h0 e1 hS (fun q _ h => hA' q h) hA' hL hF
    obtain ⟨t2, a1, b1⟩ := kx E q ce T'.heap (locs ++ L) hp (by rw [e1]; exact hm) k3 (by rw [e1]; exact hce) hcv hcl T' rfl X'
    exact ⟨t2, stp.trans a1, b1⟩
theorem g_callV (C : Cx Γ p l s m args meth c cc nL own) (hS : va_S A s.heap H locs) (hA : ∀ q, A q → gB Γ ≤ q) (hM : HM Γ K M H) (hl : lv_has ls nL lvs) (hA' : ∀ q, A' q → A q)
    (callee : CT l Γ A' y (wsO y bytes maxL ret) n' (.ref b :: As) K M post xp mc ms) (hk : CeeV y Cn bytes maxL ret na) (hlk : Cond.methodLink own idx y ∈ lw_good)
    (hrecv : ∃ cell : Cell, H[b]? = some cell ∧ cell.vm.isStatics = false ∧ s.vm.findClass Cn = some cell.cls) (hdg : decode cc pc = .ok (.invokevirtual idx, 3))
    (hn : As.length = na) (hst : st = As.reverse ++ .ref b :: rest) (hW : (rest.map fun v => v.category).sum ≤ 8) (hlev : n' + 1 ≤ n) (hR : R = rmL n mc0 ms0) (hf : cells + mc ≤ mc0 ∧ slots + ms ≤ ms0)
    (kx : GoesX p l e R s m args below meth c H (cells + mc) (slots + ms) Q Γ A K M pc ls rest xp)
    (kk : Goes2 p l e R s m args below meth c H (cells + mc) (slots + ms) Q Γ A A' pc ls rest post) : W p l e R s m args below meth c H locs cells slots Q (F0 m pc ls st) := by
  obtain ⟨g1, g2, g3, g4, g5, g6⟩ := hk
  subst hR
  refine run_goes (Qa := .ref b :: As) hS hA' (vx_runV (Ts := lw_good) (As := As) (rest := rest) ⟨C.1, C.2.1, C.2.2.1, C.2.2.2.1, C.2.2.2.2.1⟩ callee (cwV na C.2.2.2.2.1 (good_in fun w hw => ?_) rfl rfl rfl g5 (rm_ok hlev g6)) ⟨aPc_blind, hrecv, fun U hU hW => ⟨rfl, C.move hS hA hU hW, by rw [hU]; exact hM⟩⟩ rfl hn hl.1 hst (lv_room hW) hdg hf) kx kk
  simp only [wsV, List.mem_append, List.mem_cons, List.not_mem_nil, or_false] at hw
  rcases hw with (rfl | rfl | rfl | rfl) | hw
  · exact hlk
  · exact g1
  · exact g2
  · exact g3
  · exact wsO_in g4 w hw
theorem g_callS (C : Cx Γ p l s m args meth c cc nL own) (hS : va_S A s.heap H locs) (hA : ∀ q, A q → gB Γ ≤ q) (hM : HM Γ K M H) (hl : lv_has ls nL lvs) (hA' : ∀ q, A' q → A q)
    (callee : CT l Γ A' y (wsO y bytes maxL ret) n' As K M post xp mc ms) (hk : CeeS y bytes maxL ret na) (hlk : Cond.methodLink own idx y ∈ lw_good)
    (hdg : decode cc pc = .ok (.invokestatic idx, 3))
    (hn : As.length = na) (hst : st = As.reverse ++ rest) (hW : (rest.map fun v => v.category).sum ≤ 8) (hlev : n' + 1 ≤ n) (hR : R = rmL n mc0 ms0) (hf : cells + mc ≤ mc0 ∧ slots + ms ≤ ms0)
    (kx : GoesX p l e R s m args below meth c H (cells + mc) (slots + ms) Q Γ A K M pc ls rest xp)
    (kk : Goes2 p l e R s m args below meth c H (cells + mc) (slots + ms) Q Γ A A' pc ls rest post) : W p l e R s m args below meth c H locs cells slots Q (F0 m pc ls st) := by
  obtain ⟨g1, g3, g4, g5, g6⟩ := hk
  subst hR
  refine run_goes (Qa := As) hS hA' (vx_runS (Ts := lw_good) (As := As) (rest := rest) ⟨C.1, C.2.1, C.2.2.1, C.2.2.2.1, C.2.2.2.2.1⟩ callee (va_cwS na C.2.2.2.2.1 (good_in fun w hw => ?_) rfl rfl rfl g5 (rm_ok hlev g6)) ⟨aPc_blind, fun U hU hW => ⟨rfl, C.move hS hA hU hW, by rw [hU]; exact hM⟩⟩ rfl hn hl.1 hst (lv_room hW) hdg hf) kx kk
  simp only [va_wsS, List.mem_append, List.mem_cons, List.not_mem_nil, or_false] at hw
  rcases hw with (rfl | rfl | rfl) | hw
  · exact hlk
  · exact g1
  · exact g3
  · exact wsO_in g4 w hw
/-- a thrown thing goes on to the caller -/
theorem g_pass {xp2 : String → Prop} {post : Option Value → (Nat → Nat → Nat) → Mem → Prop} (C : Cx Γ p l s m args meth c cc nL own) (ht : ∀ x ∈ c.exceptionTable.toList, False) (hx : ∀ E, xp E → xp2 E) (hc : cells ≤ mc) (hs : slots ≤ ms) : GoesX p l e R s m args below meth c H cells slots (vx_MQ below (cQ Γ A post) (cX Γ A K M xp2) args s mc ms A) Γ A K M pc ls rest xp := by
  intro E q9 ce H1 locs1 h1 h2 h3 h4 h5 h6
  exact vx_out (fun x hx => (ht x hx).elim) C.2.2.2.2.2.1 h4 h5 h6 (fun t ht _ => ⟨hx E h1, by rw [ht]; exact h2, h3.F ht⟩) h3.2.2 hc hs
-- the ends
theorem g_iret {v : Int32} {xp : String → Prop} {K0 : Nat → Nat → Nat} {M0 : Mem} {post : Option Value → (Nat → Nat → Nat) → Mem → Prop} (C : Cx Γ p l s m args meth c cc nL own) (hr : meth.sig.returnType = some .int) (hM : HM Γ K M H) (hS : va_S A s.heap H locs) (hdg : decode cc pc = .ok (.ireturn, 1)) (hc : cells ≤ mc) (hs : slots ≤ ms) (hp : post (some (.int v)) K M) :
    W p l e R s m args below meth c H locs cells slots (vx_MQ below (cQ Γ A post) (cX Γ A K0 M0 xp) args s mc ms A) (F0 m pc ls [.int v]) :=
  W.widen hc hs (vx_ret (W.iret C.1 C.2.1 hr (fun t ht _ => ⟨⟨_, K, M, rfl, hp, by rw [ht]; exact hM⟩, hS.F ht⟩) hS.2.2 hdg C.2.2.2.2.2.1))
theorem g_zret {v : Int32} {ty : FieldType} {xp : String → Prop} {K0 : Nat → Nat → Nat} {M0 : Mem} {post : Option Value → (Nat → Nat → Nat) → Mem → Prop} (C : Cx Γ p l s m args meth c cc nL own) (hr : meth.sig.returnType = some ty) (hn : narrow ty (.int v) = .int v) (hM : HM Γ K M H) (hS : va_S A s.heap H locs) (hdg : decode cc pc = .ok (.ireturn, 1)) (hc : cells ≤ mc) (hs : slots ≤ ms) (hp : post (some (.int v)) K M) :
    W p l e R s m args below meth c H locs cells slots (vx_MQ below (cQ Γ A post) (cX Γ A K0 M0 xp) args s mc ms A) (F0 m pc ls [.int v]) :=
  W.widen hc hs (vx_ret (W.zret C.1 C.2.1 hr hn (fun t ht _ => ⟨⟨_, K, M, rfl, hp, by rw [ht]; exact hM⟩, hS.F ht⟩) hS.2.2 hdg C.2.2.2.2.2.1))
theorem g_vret {xp : String → Prop} {K0 : Nat → Nat → Nat} {M0 : Mem} {post : Option Value → (Nat → Nat → Nat) → Mem → Prop} (C : Cx Γ p l s m args meth c cc nL own) (hr : meth.sig.returnType = none) (hM : HM Γ K M H) (hS : va_S A s.heap H locs) (hdg : decode cc pc = .ok (.return_, 1)) (hc : cells ≤ mc) (hs : slots ≤ ms) (hp : post none K M) :
    W p l e R s m args below meth c H locs cells slots (vx_MQ below (cQ Γ A post) (cX Γ A K0 M0 xp) args s mc ms A) (F0 m pc ls []) :=
  W.widen hc hs (vx_ret (W.vret C.1 C.2.1 hr (fun t ht _ => ⟨⟨_, K, M, rfl, hp, by rw [ht]; exact hM⟩, hS.F ht⟩) hS.2.2 hdg C.2.2.2.2.2.1))
end ROWS
