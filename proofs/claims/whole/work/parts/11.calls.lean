/-- the answer v in the memory M1, where c holds -/
def DD (c : Prop) (v : Option Value) (K : Nat → Nat → Nat) (M : Mem) : Option Value → (Nat → Nat → Nat) → Mem → Prop := fun v' K' M' => c ∧ v' = v ∧ K' = K ∧ M' = M
def psh : Option Value → List Value → List Value
  | none, r => r
  | some v, r => v :: r
theorem psh_eq (v : Option Value) (r : List Value) : v.toList ++ r = psh v r := by cases v <;> rfl
def bI (b : Bool) : Int32 := if b then 1 else 0
theorem bI_0 (b : Bool) : bI b = 0 ↔ b = false := by cases b <;> simp [bI]
theorem bI_n (b : Bool) : ¬ bI b = 0 ↔ b = true := by cases b <;> simp [bI]
theorem bI_narrow (b : Bool) : narrow .boolean (.int (bI b)) = .int (bI b) := by cases b <;> rfl
theorem fvR {K : Nat → Nat → Nat} {M : Mem} {k j i r q : Nat} (hs : fS k j = (2, r)) (h : mP M k j i = some q) : fv K M k j i = .ref (K r q) := by unfold fv; rw [hs]; show va_rf ((mP M k j i).map (K r)) = _; rw [h]; rfl
theorem fvN {K : Nat → Nat → Nat} {M : Mem} {k j i r : Nat} (hs : fS k j = (2, r)) (h : mP M k j i = none) : fv K M k j i = .null := by unfold fv; rw [hs]; show va_rf ((mP M k j i).map (K r)) = _; rw [h]; rfl
theorem fv3 {K : Nat → Nat → Nat} {M : Mem} {k j i r : Nat} (hs : fS k j = (3, r)) : fv K M k j i = .ref (K r i) := by unfold fv; rw [hs]; rfl
theorem fv4 {K : Nat → Nat → Nat} {M : Mem} {k j i r : Nat} (hs : fS k j = (4, r)) : fv K M k j i = .ref (K r 0) := by unfold fv; rw [hs]; rfl
section CALLS
variable {p : Program} {l : Launch} {e : Env} {R : Room} {s : State} {m : MethodId} {args : Array Value} {below : List Frame} {meth : Method} {c : Code} {H : Heap} {locs : List Loc} {cells slots : Nat} {Q : State → Prop}
variable {cc : ByteArray} {nL : Nat} {own : String} {Γ : Gm} {A : Nat → Prop} {K : Nat → Nat → Nat} {M : Mem} {pc : Nat} {ls : Array Slot} {rest : List Value}
variable {A' : Nat → Prop} {y : MethodName} {Cn : String} {bytes : ByteArray} {maxL n na n' idx mc ms b : Nat} {ret : Option FieldType} {As st : List Value} {lvs : List (Nat × Value)} {xp : String → Prop} {mc0 ms0 : Nat}
variable {cnd : Prop} {v1 : Option Value} {K1 : Nat → Nat → Nat} {M1 : Mem}
theorem g_cV (C : Cx Γ p l s m args meth c cc nL own) (hS : va_S A s.heap H locs) (hA : ∀ q, A q → gB Γ ≤ q) (hM : HM Γ K M H) (hl : lv_has ls nL lvs) (hA' : ∀ q, A' q → A q)
    (callee : CT l Γ A' y (wsO y bytes maxL ret) n' (.ref b :: As) K M (DD cnd v1 K1 M1) xp mc ms) (hk : CeeV y Cn bytes maxL ret na) (hlk : Cond.methodLink own idx y ∈ lw_good)
    (hrecv : ∃ cell : Cell, H[b]? = some cell ∧ cell.vm.isStatics = false ∧ s.vm.findClass Cn = some cell.cls) (hdg : decode cc pc = .ok (.invokevirtual idx, 3))
    (hn : As.length = na) (hst : st = As.reverse ++ .ref b :: rest) (hW : (rest.map fun v => v.category).sum ≤ 8) (hlev : n' + 1 ≤ n) (hR : R = rmL n mc0 ms0) (hf : cells + mc ≤ mc0 ∧ slots + ms ≤ ms0)
    (kx : GoesX p l e R s m args below meth c H (cells + mc) (slots + ms) Q Γ A K M pc ls rest xp)
    (kk : ∀ (H1 : Heap) (locs1 : List Loc), cnd → HM Γ K1 M1 H1 → va_S A s.heap H1 locs1 → W p l e R s m args below meth c H1 locs1 (cells + mc) (slots + ms) Q (F0 m (pc + 3) ls (psh v1 rest))) : W p l e R s m args below meth c H locs cells slots Q (F0 m pc ls st) :=
  g_callV C hS hA hM hl hA' callee hk hlk hrecv hdg hn hst hW hlev hR hf kx (fun v K' M' H1 locs1 hp hm hs _ _ => by
    obtain ⟨h0, rfl, rfl, rfl⟩ := hp
    rw [psh_eq]
    exact kk H1 locs1 h0 hm hs)
theorem g_cS (C : Cx Γ p l s m args meth c cc nL own) (hS : va_S A s.heap H locs) (hA : ∀ q, A q → gB Γ ≤ q) (hM : HM Γ K M H) (hl : lv_has ls nL lvs) (hA' : ∀ q, A' q → A q)
    (callee : CT l Γ A' y (wsO y bytes maxL ret) n' As K M (DD cnd v1 K1 M1) xp mc ms) (hk : CeeS y bytes maxL ret na) (hlk : Cond.methodLink own idx y ∈ lw_good)
    (hdg : decode cc pc = .ok (.invokestatic idx, 3))
    (hn : As.length = na) (hst : st = As.reverse ++ rest) (hW : (rest.map fun v => v.category).sum ≤ 8) (hlev : n' + 1 ≤ n) (hR : R = rmL n mc0 ms0) (hf : cells + mc ≤ mc0 ∧ slots + ms ≤ ms0)
    (kx : GoesX p l e R s m args below meth c H (cells + mc) (slots + ms) Q Γ A K M pc ls rest xp)
    (kk : ∀ (H1 : Heap) (locs1 : List Loc), cnd → HM Γ K1 M1 H1 → va_S A s.heap H1 locs1 → W p l e R s m args below meth c H1 locs1 (cells + mc) (slots + ms) Q (F0 m (pc + 3) ls (psh v1 rest))) : W p l e R s m args below meth c H locs cells slots Q (F0 m pc ls st) :=
  g_callS C hS hA hM hl hA' callee hk hlk hdg hn hst hW hlev hR hf kx (fun v K' M' H1 locs1 hp hm hs _ _ => by
    obtain ⟨h0, rfl, rfl, rfl⟩ := hp
    rw [psh_eq]
    exact kk H1 locs1 h0 hm hs)
theorem g_ifeqB {b : Bool} {off : Int} {tgt : Nat} (hexec : p.tables.exec = Jvm.exec) (hb : c.code = cc) (hdg : decode cc pc = .ok (.ifCond .eq off, 3)) (ht : (pc : Int) + off = (tgt : Int))
    (kt : b = false → W p l e R s m args below meth c H locs cells slots Q (F0 m tgt ls rest)) (kf : b = true → W p l e R s m args below meth c H locs cells slots Q (F0 m (pc + 3) ls rest)) : W p l e R s m args below meth c H locs cells slots Q (F0 m pc ls (.int (bI b) :: rest)) :=
  lv_if_eq hexec hb hdg ht (fun h => kt ((bI_0 b).mp h)) (fun h => kf ((bI_n b).mp h))
theorem g_ifneB {b : Bool} {off : Int} {tgt : Nat} (hexec : p.tables.exec = Jvm.exec) (hb : c.code = cc) (hdg : decode cc pc = .ok (.ifCond .ne off, 3)) (ht : (pc : Int) + off = (tgt : Int))
    (kt : b = true → W p l e R s m args below meth c H locs cells slots Q (F0 m tgt ls rest)) (kf : b = false → W p l e R s m args below meth c H locs cells slots Q (F0 m (pc + 3) ls rest)) : W p l e R s m args below meth c H locs cells slots Q (F0 m pc ls (.int (bI b) :: rest)) :=
  lv_if_ne hexec hb hdg ht (fun h => kt ((bI_n b).mp h)) (fun h => kf (by cases b <;> simp_all [bI]))
-- comparisons, told by < alone
theorem g_icmp_ge {x y : Int32} {off : Int} {tgt : Nat} (hexec : p.tables.exec = Jvm.exec) (hb : c.code = cc) (hdg : decode cc pc = .ok (.if_icmp .ge off, 3)) (ht : (pc : Int) + off = (tgt : Int))
    (kt : ¬ x < y → W p l e R s m args below meth c H locs cells slots Q (F0 m tgt ls rest)) (kf : x < y → W p l e R s m args below meth c H locs cells slots Q (F0 m (pc + 3) ls rest)) : W p l e R s m args below meth c H locs cells slots Q (F0 m pc ls (.int y :: .int x :: rest)) :=
  lv_icmp_ge hexec hb hdg ht (fun h => kt (Int32.not_lt.mpr h)) (fun h => kf (Int32.not_le.mp h))
theorem g_icmp_le {x y : Int32} {off : Int} {tgt : Nat} (hexec : p.tables.exec = Jvm.exec) (hb : c.code = cc) (hdg : decode cc pc = .ok (.if_icmp .le off, 3)) (ht : (pc : Int) + off = (tgt : Int))
    (kt : ¬ y < x → W p l e R s m args below meth c H locs cells slots Q (F0 m tgt ls rest)) (kf : y < x → W p l e R s m args below meth c H locs cells slots Q (F0 m (pc + 3) ls rest)) : W p l e R s m args below meth c H locs cells slots Q (F0 m pc ls (.int y :: .int x :: rest)) :=
  lv_icmp_le hexec hb hdg ht (fun h => kt (Int32.not_lt.mpr h)) (fun h => kf (Int32.not_le.mp h))
theorem g_if_ge {x : Int32} {off : Int} {tgt : Nat} (hexec : p.tables.exec = Jvm.exec) (hb : c.code = cc) (hdg : decode cc pc = .ok (.ifCond .ge off, 3)) (ht : (pc : Int) + off = (tgt : Int))
    (kt : ¬ x < 0 → W p l e R s m args below meth c H locs cells slots Q (F0 m tgt ls rest)) (kf : x < 0 → W p l e R s m args below meth c H locs cells slots Q (F0 m (pc + 3) ls rest)) : W p l e R s m args below meth c H locs cells slots Q (F0 m pc ls (.int x :: rest)) :=
  lv_if_ge hexec hb hdg ht (fun h => kt (Int32.not_lt.mpr h)) (fun h => kf (Int32.not_le.mp h))
theorem g_if_le {x : Int32} {off : Int} {tgt : Nat} (hexec : p.tables.exec = Jvm.exec) (hb : c.code = cc) (hdg : decode cc pc = .ok (.ifCond .le off, 3)) (ht : (pc : Int) + off = (tgt : Int))
    (kt : ¬ 0 < x → W p l e R s m args below meth c H locs cells slots Q (F0 m tgt ls rest)) (kf : 0 < x → W p l e R s m args below meth c H locs cells slots Q (F0 m (pc + 3) ls rest)) : W p l e R s m args below meth c H locs cells slots Q (F0 m pc ls (.int x :: rest)) :=
  lv_if_le hexec hb hdg ht (fun h => kt (Int32.not_lt.mpr h)) (fun h => kf (Int32.not_le.mp h))
theorem g_acmp_eqR {a b : Nat} {off : Int} {tgt : Nat} (hexec : p.tables.exec = Jvm.exec) (hb : c.code = cc) (hdg : decode cc pc = .ok (.if_acmp .eq off, 3)) (ht : (pc : Int) + off = (tgt : Int))
    (kt : a = b → W p l e R s m args below meth c H locs cells slots Q (F0 m tgt ls rest)) (kf : ¬ a = b → W p l e R s m args below meth c H locs cells slots Q (F0 m (pc + 3) ls rest)) : W p l e R s m args below meth c H locs cells slots Q (F0 m pc ls (.ref a :: .ref b :: rest)) :=
  lv_acmp_eq (rx := some b) (ry := some a) hexec hb hdg ht (fun h => kt ((Option.some.inj h).symm)) (fun h => kf (fun z => h (by rw [z])))
theorem g_acmp_neR {a b : Nat} {off : Int} {tgt : Nat} (hexec : p.tables.exec = Jvm.exec) (hb : c.code = cc) (hdg : decode cc pc = .ok (.if_acmp .ne off, 3)) (ht : (pc : Int) + off = (tgt : Int))
    (kt : ¬ a = b → W p l e R s m args below meth c H locs cells slots Q (F0 m tgt ls rest)) (kf : a = b → W p l e R s m args below meth c H locs cells slots Q (F0 m (pc + 3) ls rest)) : W p l e R s m args below meth c H locs cells slots Q (F0 m pc ls (.ref a :: .ref b :: rest)) :=
  lv_acmp_ne (rx := some b) (ry := some a) hexec hb hdg ht (fun h => kt (fun z => h (by rw [z]))) (fun h => kf ((Option.some.inj h).symm))
theorem g_acmp_neNR {a : Nat} {off : Int} {tgt : Nat} (hexec : p.tables.exec = Jvm.exec) (hb : c.code = cc) (hdg : decode cc pc = .ok (.if_acmp .ne off, 3)) (ht : (pc : Int) + off = (tgt : Int))
    (k : W p l e R s m args below meth c H locs cells slots Q (F0 m tgt ls rest)) : W p l e R s m args below meth c H locs cells slots Q (F0 m pc ls (.null :: .ref a :: rest)) :=
  lv_acmp_ne (rx := some a) (ry := none) hexec hb hdg ht (fun h => k) (fun h => nomatch h)
theorem g_acmp_neRN {a : Nat} {off : Int} {tgt : Nat} (hexec : p.tables.exec = Jvm.exec) (hb : c.code = cc) (hdg : decode cc pc = .ok (.if_acmp .ne off, 3)) (ht : (pc : Int) + off = (tgt : Int))
    (k : W p l e R s m args below meth c H locs cells slots Q (F0 m tgt ls rest)) : W p l e R s m args below meth c H locs cells slots Q (F0 m pc ls (.ref a :: .null :: rest)) :=
  lv_acmp_ne (rx := none) (ry := some a) hexec hb hdg ht (fun h => k) (fun h => nomatch h)
theorem g_acmp_eqNR {a : Nat} {off : Int} {tgt : Nat} (hexec : p.tables.exec = Jvm.exec) (hb : c.code = cc) (hdg : decode cc pc = .ok (.if_acmp .eq off, 3)) (ht : (pc : Int) + off = (tgt : Int))
    (k : W p l e R s m args below meth c H locs cells slots Q (F0 m (pc + 3) ls rest)) : W p l e R s m args below meth c H locs cells slots Q (F0 m pc ls (.null :: .ref a :: rest)) :=
  lv_acmp_eq (rx := some a) (ry := none) hexec hb hdg ht (fun h => nomatch h) (fun h => k)
theorem g_acmp_eqRN {a : Nat} {off : Int} {tgt : Nat} (hexec : p.tables.exec = Jvm.exec) (hb : c.code = cc) (hdg : decode cc pc = .ok (.if_acmp .eq off, 3)) (ht : (pc : Int) + off = (tgt : Int))
    (k : W p l e R s m args below meth c H locs cells slots Q (F0 m (pc + 3) ls rest)) : W p l e R s m args below meth c H locs cells slots Q (F0 m pc ls (.ref a :: .null :: rest)) :=
  lv_acmp_eq (rx := none) (ry := some a) hexec hb hdg ht (fun h => nomatch h) (fun h => k)
theorem g_acmp_neNN {off : Int} {tgt : Nat} (hexec : p.tables.exec = Jvm.exec) (hb : c.code = cc) (hdg : decode cc pc = .ok (.if_acmp .ne off, 3)) (ht : (pc : Int) + off = (tgt : Int))
    (k : W p l e R s m args below meth c H locs cells slots Q (F0 m (pc + 3) ls rest)) : W p l e R s m args below meth c H locs cells slots Q (F0 m pc ls (.null :: .null :: rest)) :=
  lv_acmp_ne (rx := none) (ry := none) hexec hb hdg ht (fun h => absurd rfl h) (fun _ => k)
theorem g_aretR {a : Nat} {ty : FieldType} {xp : String → Prop} {K0 : Nat → Nat → Nat} {M0 : Mem} {post : Option Value → (Nat → Nat → Nat) → Mem → Prop} (C : Cx Γ p l s m args meth c cc nL own) (hr : meth.sig.returnType = some ty) (hM : HM Γ K M H) (hS : va_S A s.heap H locs) (hrt : (∃ n, ty = .object n) ∨ ∃ t, ty = .array t) (hdg : decode cc pc = .ok (.areturn, 1)) (hc : cells ≤ mc) (hs : slots ≤ ms) (hp : post (some (.ref a)) K M) :
    W p l e R s m args below meth c H locs cells slots (vx_MQ below (cQ Γ A post) (cX Γ A K0 M0 xp) args s mc ms A) (F0 m pc ls [.ref a]) :=
  W.widen hc hs (vx_ret (W.aret C.1 C.2.1 hr hrt (Or.inr ⟨_, rfl⟩) (fun t ht _ => ⟨⟨_, K, M, rfl, hp, by rw [ht]; exact hM⟩, hS.F ht⟩) hS.2.2 hdg C.2.2.2.2.2.1))
theorem g_aretN {ty : FieldType} {xp : String → Prop} {K0 : Nat → Nat → Nat} {M0 : Mem} {post : Option Value → (Nat → Nat → Nat) → Mem → Prop} (C : Cx Γ p l s m args meth c cc nL own) (hr : meth.sig.returnType = some ty) (hM : HM Γ K M H) (hS : va_S A s.heap H locs) (hrt : (∃ n, ty = .object n) ∨ ∃ t, ty = .array t) (hdg : decode cc pc = .ok (.areturn, 1)) (hc : cells ≤ mc) (hs : slots ≤ ms) (hp : post (some .null) K M) :
    W p l e R s m args below meth c H locs cells slots (vx_MQ below (cQ Γ A post) (cX Γ A K0 M0 xp) args s mc ms A) (F0 m pc ls [.null]) :=
  W.widen hc hs (vx_ret (W.aret C.1 C.2.1 hr hrt (Or.inl rfl) (fun t ht _ => ⟨⟨_, K, M, rfl, hp, by rw [ht]; exact hM⟩, hS.F ht⟩) hS.2.2 hdg C.2.2.2.2.2.1))
theorem g_lret {v : Int64} {xp : String → Prop} {K0 : Nat → Nat → Nat} {M0 : Mem} {post : Option Value → (Nat → Nat → Nat) → Mem → Prop} (C : Cx Γ p l s m args meth c cc nL own) (hr : meth.sig.returnType = some .long) (hM : HM Γ K M H) (hS : va_S A s.heap H locs) (hdg : decode cc pc = .ok (.lreturn, 1)) (hc : cells ≤ mc) (hs : slots ≤ ms) (hp : post (some (.long v)) K M) :
    W p l e R s m args below meth c H locs cells slots (vx_MQ below (cQ Γ A post) (cX Γ A K0 M0 xp) args s mc ms A) (F0 m pc ls [.long v]) :=
  W.widen hc hs (vx_ret (W.lret C.1 C.2.1 hr (fun t ht _ => ⟨⟨_, K, M, rfl, hp, by rw [ht]; exact hM⟩, hS.F ht⟩) hS.2.2 hdg C.2.2.2.2.2.1))
theorem g_chk {k i : Nat} {T : u_T} {ty0 : Nat → FieldType} (C : Cx Γ p l s m args meth c cc nL own) (hM : HM Γ K M H) (o : ClOk k Cn T ty0) (hi : i < mN M k) (hlk : Cond.classLink own idx Cn ∈ lw_good) (hdg : decode cc pc = .ok (.checkcast idx, 3))
    (kk : W p l e R s m args below meth c H locs cells slots Q (F0 m (pc + 3) ls (.ref (K k i) :: rest))) : W p l e R s m args below meth c H locs cells slots Q (F0 m pc ls (.ref (K k i) :: rest)) :=
  va_castS C.1 C.2.1 C.2.2.2.1 (C.2.2.2.2.1 _ hlk) (C.2.2.2.2.2.2.1.2.1.1.1 k _ o.2.1).2 (HM.recv C hM o hi) hdg kk
theorem g_mmax {x y : Int32} (C : Cx Γ p l s m args meth c cc nL own) (hl : lv_has ls nL lvs) (hlk : Cond.methodLink own idx Lib.Math.max.name ∈ lw_good) (hR : R = rmL n mc0 ms0) (hW : (rest.map fun v => v.category).sum ≤ 8) (hc : cells ≤ mc0) (hs : slots ≤ ms0) (hdg : decode cc pc = .ok (.invokestatic idx, 3))
    (kk : W p l e R s m args below meth c H locs cells slots Q (F0 m (pc + 3) ls (.int (if x < y then y else x) :: rest))) : W p l e R s m args below meth c H locs cells slots Q (F0 m pc ls (.int y :: .int x :: rest)) := by
  subst hR
  refine va_mmax C.1 C.2.1 (C.2.2.1.trans hl.1.symm) C.2.2.2.1 (C.2.2.2.2.1 _ hlk) (C.2.2.2.2.1 _ t_445) (C.2.2.2.2.1 _ t_21) (C.2.2.2.2.1 _ t_446) ?_ ?_ hc hs hdg kk
  · show 1 ≤ n + 10; omega
  · show _ + 13 ≤ 40 * n + 200; omega
theorem g_mmin {x y : Int32} (C : Cx Γ p l s m args meth c cc nL own) (hl : lv_has ls nL lvs) (hlk : Cond.methodLink own idx Lib.Math.min.name ∈ lw_good) (hR : R = rmL n mc0 ms0) (hW : (rest.map fun v => v.category).sum ≤ 8) (hc : cells ≤ mc0) (hs : slots ≤ ms0) (hdg : decode cc pc = .ok (.invokestatic idx, 3))
    (kk : W p l e R s m args below meth c H locs cells slots Q (F0 m (pc + 3) ls (.int (if y < x then y else x) :: rest))) : W p l e R s m args below meth c H locs cells slots Q (F0 m pc ls (.int y :: .int x :: rest)) := by
  subst hR
  refine va_mmin C.1 C.2.1 (C.2.2.1.trans hl.1.symm) C.2.2.2.1 (C.2.2.2.2.1 _ hlk) (C.2.2.2.2.1 _ t_463) (C.2.2.2.2.1 _ t_21) (C.2.2.2.2.1 _ t_464) ?_ ?_ hc hs hdg kk
  · show 1 ≤ n + 10; omega
  · show _ + 13 ≤ 40 * n + 200; omega
-- throws
abbrev nmE : List String := ["java/lang/RuntimeException", "java/lang/Exception"]
def ThrOk (own : String) (ik ic : Nat) (E : String) : Prop := Cond.classLink own ik E ∈ lw_good ∧ Cond.initialized E ∈ lw_good ∧ (∀ w ∈ (vx_atS own ic E nmE).filter goodWord, w ∈ lw_tbl) ∧ (∀ w ∈ (vx_atS own ic E nmE).filter (fun w => !goodWord w), w ∈ lw_nst) ∧ (∀ w ∈ Cond.classLink own ik E :: Cond.initialized E :: vx_atS own ic E nmE, vx_ot w = true) ∧ Bundle.fit E = true ∧ ∀ n ∈ nmE, Bundle.fit n = true
theorem nest_tabs {w : Cond} (hw : w ∈ lw_nst) : w.onTables = true := by
  have h1 := (List.mem_filter.mp hw).2
  cases w <;> first | rfl | cases h1
theorem g_throw {E text : String} {ik is ic sa : Nat} {post : Option Value → (Nat → Nat → Nat) → Mem → Prop} (C : Cx Γ p l s m args meth c cc nL own) (ht : ∀ x ∈ c.exceptionTable.toList, False) (hxp : xp E) (hM : HM Γ K M H) (hS : va_S A s.heap H locs) (hA : ∀ q, A q → gB Γ ≤ q) (hl : lv_has ls nL lvs) (o : ThrOk own ik ic E) (hstr : (own, is, text, sa) ∈ strX)
    (d0 : decode cc pc = .ok (.new ik, 3)) (d3 : decode cc (pc + 3) = .ok (.dup, 1)) (d4 : decode cc (pc + 4) = .ok (.ldc is, 2)) (d6 : decode cc (pc + 6) = .ok (.invokespecial ic, 3)) (d9 : decode cc (pc + 9) = .ok (.athrow, 1))
    (hR : R = rmL n mc0 ms0) (hcat : (rest.map fun v => v.category).sum ≤ 8) (hR2 : cells + 1 ≤ mc0 ∧ slots + 6 ≤ ms0) (hc : cells + 1 ≤ mc) (hs : slots + 6 ≤ ms) :
    W p l e R s m args below meth c H locs cells slots (vx_MQ below (cQ Γ A post) (cX Γ A K M xp) args s mc ms A) (F0 m pc ls rest) := by
  obtain ⟨hx, hb, hml, hown, hts, hlocks, ⟨h1, ⟨hK, hN, hstrs, -⟩, hU, hNn, -⟩, hfl⟩ := C
  obtain ⟨o1, o2, o3, o4, o5, o6, o7⟩ := o
  subst hR
  refine vx_throwS hx hb hfl hown o6 o7 (hts _ o1) (hts _ o2) (hstrs _ hstr) (vx_hat (B := (vx_atS own ic E nmE).filter (fun w => !goodWord w)) (fun w hw => hts w ?_) (fun w hw => hw) (fun w hw => va_Nw.use (nest_tabs (o4 w hw)) (hN w (o4 w hw)))) o5 (hU.narrow hA) (hNn.narrow hA) hS (hl.1.trans hml.symm) d0 d3 d4 d6 d9 (fun x hx => (ht x hx).elim) ?_ ?_ hR2.1 hR2.2 hlocks (fun t _ h2 h3 => ⟨hxp, hM.grow h3, Nat.le_trans hS.1 h2, fun q hq hn => by rw [h3 q (Nat.lt_of_lt_of_le hq hS.1)]; exact hS.2.1 q hq hn⟩) hS.2.2 hc hs
  · exact List.mem_filter.mpr ⟨o3 w hw, (List.mem_filter.mp hw).2⟩
  · show 2 + 3 < n + 10; omega
  · show _ + (13 * (2 + 1) + 43) ≤ 40 * n + 200; omega
theorem g_throwW {E text : String} {ik is ic sa : Nat} {post : Option Value → (Nat → Nat → Nat) → Mem → Prop} (C : Cx Γ p l s m args meth c cc nL own) (ht : ∀ x ∈ c.exceptionTable.toList, False) (hxp : xp E) (hM : HM Γ K M H) (hS : va_S A s.heap H locs) (hA : ∀ q, A q → gB Γ ≤ q) (hl : lv_has ls nL lvs) (o : ThrOk own ik ic E) (hstr : (own, is, text, sa) ∈ strX)
    (d0 : decode cc pc = .ok (.new ik, 3)) (d3 : decode cc (pc + 3) = .ok (.dup, 1)) (d4 : decode cc (pc + 4) = .ok (.ldc_w is, 3)) (d6 : decode cc (pc + 7) = .ok (.invokespecial ic, 3)) (d9 : decode cc (pc + 10) = .ok (.athrow, 1))
    (hR : R = rmL n mc0 ms0) (hcat : (rest.map fun v => v.category).sum ≤ 8) (hR2 : cells + 1 ≤ mc0 ∧ slots + 6 ≤ ms0) (hc : cells + 1 ≤ mc) (hs : slots + 6 ≤ ms) :
    W p l e R s m args below meth c H locs cells slots (vx_MQ below (cQ Γ A post) (cX Γ A K M xp) args s mc ms A) (F0 m pc ls rest) := by
  obtain ⟨hx, hb, hml, hown, hts, hlocks, ⟨h1, ⟨hK, hN, hstrs, -⟩, hU, hNn, -⟩, hfl⟩ := C
  obtain ⟨o1, o2, o3, o4, o5, o6, o7⟩ := o
  subst hR
  refine vx_throwSW hx hb hfl hown o6 o7 (hts _ o1) (hts _ o2) (hstrs _ hstr) (vx_hat (B := (vx_atS own ic E nmE).filter (fun w => !goodWord w)) (fun w hw => hts w ?_) (fun w hw => hw) (fun w hw => va_Nw.use (nest_tabs (o4 w hw)) (hN w (o4 w hw)))) o5 (hU.narrow hA) (hNn.narrow hA) hS (hl.1.trans hml.symm) d0 d3 d4 d6 d9 (fun x hx => (ht x hx).elim) ?_ ?_ hR2.1 hR2.2 hlocks (fun t _ h2 h3 => ⟨hxp, hM.grow h3, Nat.le_trans hS.1 h2, fun q hq hn => by rw [h3 q (Nat.lt_of_lt_of_le hq hS.1)]; exact hS.2.1 q hq hn⟩) hS.2.2 hc hs
  · exact List.mem_filter.mpr ⟨o3 w hw, (List.mem_filter.mp hw).2⟩
  · show 2 + 3 < n + 10; omega
  · show _ + (13 * (2 + 1) + 43) ≤ 40 * n + 200; omega
end CALLS
