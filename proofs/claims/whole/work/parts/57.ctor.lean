/-! constructors: raw contracts -/
/-- what is said of a class by its place among the classes -/
def CkOk (k N : Nat) (Cn : String) (T : u_T) (ty0 : Nat → FieldType) : Prop := clX[k]? = some (Cn, T, N) ∧ (∀ w ∈ u_ws Cn T N, w ∈ lw_good) ∧ (∀ a, a < N → parseFieldDescriptor (T a).2.2.1 = some (ty0 a)) ∧ ∀ a, a < N → ∀ b, b < N → a ≠ b → (T a).2.1 ≠ (T b).2.1
theorem ck_0 : CkOk 0 4 RX0 TX0 tyX0 := ⟨rfl, clo_0.2.2.1, tyX0_ok, nmX0⟩
theorem ck_1 : CkOk 1 2 RX1 TX1 tyX1 := ⟨rfl, clo_1.2.2.1, tyX1_ok, nmX1⟩
theorem ck_2 : CkOk 2 2 RX2 TX2 tyX2 := ⟨rfl, clo_2.2.2.1, tyX2_ok, nmX2⟩
theorem ck_3 : CkOk 3 2 RX3 TX3 tyX3 := ⟨rfl, clo_3.2.2.1, tyX3_ok, nmX3⟩
theorem ck_4 : CkOk 4 14 RX4 TX4 tyX4 := ⟨rfl, clo_4.2.2.1, tyX4_ok, nmX4⟩
theorem ck_5 : CkOk 5 1 RX5 TX5 tyX5 := ⟨rfl, clo_5.2.2.1, tyX5_ok, nmX5⟩
theorem ck_6 : CkOk 6 15 RX6 TX6 tyX6 := ⟨rfl, clo_6.2.2.1, tyX6_ok, nmX6⟩
theorem ck_7 : CkOk 7 30 RX7 TX7 tyX7 := ⟨rfl, clo_7.2.2.1, tyX7_ok, nmX7⟩
theorem ck_8 : CkOk 8 3 RJx4a65c TJx4a65c tyJx4a65c := ⟨rfl, lin, tyJx4a65c_ok, nmJx4a65c⟩
section RCTOR
variable {p : Program} {l : Launch} {e : Env} {R : Room} {s : State} {m : MethodId} {args : Array Value} {below : List Frame} {meth : Method} {c : Code} {H : Heap} {locs : List Loc} {cells slots : Nat} {Q : State → Prop}
variable {cc : ByteArray} {nL : Nat} {own : String} {Γ : Gm} {A : Nat → Prop} {pc : Nat} {ls : Array Slot} {rest : List Value} {k N idx a : Nat} {Cn ref : String} {T : u_T} {ty0 : Nat → FieldType} {fs : List Value} {v : Value}
theorem r_putN (C : Cx Γ p l s m args meth c cc nL own) (o : CkOk k N Cn T ty0) (h : va_at (gD Γ) clX (a, .inr (k, fs)) H) (hS : va_S A s.heap H locs) (hAa : A a) (j : Nat) (hj : j < N) (hl : fs.length = N) (hfin : (T j).2.2.2 = false) (hn : narrow (ty0 j) v = v) (hfit : fits (ty0 j) v = true) (hdg : decode cc pc = .ok (.putfield idx, 3))
    (hlk : Cond.fieldLink own idx ref (T j).2.1 (T j).2.2.1 ∈ lw_good) (hsame : ∀ x, s.fieldFound? (T j).1 (T j).2.1 (T j).2.2.1 = some x → s.fieldFound? ref (T j).2.1 (T j).2.2.1 = some x)
    (kk : ∀ (H1 : Heap) (locs1 : List Loc), va_at (gD Γ) clX (a, .inr (k, fs.set j v)) H1 → (∀ q : Nat, q ≠ a → H1[q]? = H[q]?) → H1.size = H.size → va_S A s.heap H1 locs1 → W p l e R s m args below meth c H1 locs1 cells slots Q (F0 m (pc + 3) ls rest)) : W p l e R s m args below meth c H locs cells slots Q (F0 m pc ls (v :: .ref a :: rest)) := by
  obtain ⟨hx, hb, hml, hown, hts, hlocks, hCX, -⟩ := C
  obtain ⟨hc, hin, hty, hnm⟩ := o
  have hK := hCX.2.1.1
  have hap := va_apart (own := own) hts hin ty0 hty hnm hK hc
  obtain ⟨r, h1, cell, q1, q2, q3, q4⟩ := h
  have hr : r = (Cn, T, N) := Option.some.inj (h1.symm.trans hc)
  subst hr
  obtain ⟨hSl, hfc, kC, hkC, hkind⟩ := hK.1 k _ hc
  obtain ⟨cf, kf, fi, f, hf, hsl⟩ := hSl j hj
  have hlay := hts _ (hin _ (u_in_lay hj))
  unfold u_lay at hlay
  rw [if_neg (by rw [hfin]; decide)] at hlay
  have hst := (u_facts hfc hkC (u_lays hts hin hj) hf).1
  have h6 := u_store hfc hkC hkind hlay hf (hty j hj) hn hfit
  refine W.putK hx hb (f := f) ⟨hown, hts _ hlk, ⟨_, _, _, hsame _ hf⟩, hst⟩ (by rw [q2]; exact h6) q1 q3 (by rw [hsl]; exact k2_hasslot (q4 j hj)) rfl rfl hdg fun H' e1 e2 e3 => ?_
  rw [hsl] at e1 ⊢
  exact kk H' _ ⟨_, hc, t_OB.to (V := updV (vp_V fs) j v) ⟨_, e1, q2, q3, t_set q4 hap hj v⟩ (fun b _ => vp_updV_set (by omega) v b)⟩ e3 e2 (hS.put e2 e3 hAa)
theorem r_putFi (C : Cx Γ p l s m args meth c cc nL own) (o : CkOk k N Cn T ty0) (h : va_at (gD Γ) clX (a, .inr (k, fs)) H) (hS : va_S A s.heap H locs) (hAa : A a) (j : Nat) (hj : j < N) (hl : fs.length = N) (hfin : (T j).2.2.2 = true) (hin2 : meth.name = "<init>") (hdecl : (T j).1 = own) (hn : narrow (ty0 j) v = v) (hfit : fits (ty0 j) v = true) (hdg : decode cc pc = .ok (.putfield idx, 3))
    (hlk : Cond.fieldLink own idx ref (T j).2.1 (T j).2.2.1 ∈ lw_good) (hsame : ∀ x, s.fieldFound? (T j).1 (T j).2.1 (T j).2.2.1 = some x → s.fieldFound? ref (T j).2.1 (T j).2.2.1 = some x)
    (kk : ∀ (H1 : Heap) (locs1 : List Loc), va_at (gD Γ) clX (a, .inr (k, fs.set j v)) H1 → (∀ q : Nat, q ≠ a → H1[q]? = H[q]?) → H1.size = H.size → va_S A s.heap H1 locs1 → W p l e R s m args below meth c H1 locs1 cells slots Q (F0 m (pc + 3) ls rest)) : W p l e R s m args below meth c H locs cells slots Q (F0 m pc ls (v :: .ref a :: rest)) := by
  obtain ⟨hx, hb, hml, hown, hts, hlocks, hCX, -⟩ := C
  obtain ⟨hc, hin, hty, hnm⟩ := o
  have hK := hCX.2.1.1
  have hap := va_apart (own := own) hts hin ty0 hty hnm hK hc
  obtain ⟨r, h1, cell, q1, q2, q3, q4⟩ := h
  have hr : r = (Cn, T, N) := Option.some.inj (h1.symm.trans hc)
  subst hr
  obtain ⟨hSl, hfc, kC, hkC, hkind⟩ := hK.1 k _ hc
  obtain ⟨cf, kf, fi, f, hf, hsl⟩ := hSl j hj
  have hlay := hts _ (hin _ (u_in_lay hj))
  unfold u_lay at hlay
  rw [if_pos hfin] at hlay
  have hst := (u_facts hfc hkC (u_lays hts hin hj) hf).1
  have hcf : m.cls = cf := by
    obtain ⟨_, _, c', _, _, _, -, -, hf', -, -, -, hown2, -⟩ := Cond.laysFinal_spec hlay
    have e1 : c' = cf := by have := hf.symm.trans hf'; simp at this; exact this.1.symm
    rw [hdecl] at hown2
    rw [← e1]; exact Option.some.inj (hown.symm.trans hown2)
  have h6 := u_fits hfc hkC hkind (Or.inr hlay) hf (hty j hj) hn hfit
  refine W.putFinK hx hb hown (hts _ hlk) (hsame _ hf) hst hcf hin2 (by rw [q2]; exact h6) q1 q3 (by rw [hsl]; exact k2_hasslot (q4 j hj)) rfl rfl hdg fun H' e1 e2 e3 => ?_
  rw [hsl] at e1 ⊢
  exact kk H' _ ⟨_, hc, t_OB.to (V := updV (vp_V fs) j v) ⟨_, e1, q2, q3, t_set q4 hap hj v⟩ (fun b _ => vp_updV_set (by omega) v b)⟩ e3 e2 (hS.put e2 e3 hAa)
/-- an object is made -/
theorem r_newO (C : Cx Γ p l s m args meth c cc nL own) (o : CkOk k N Cn T ty0) (hS : va_S A s.heap H locs) (hcl : Cond.classLink own idx Cn ∈ lw_good) (hinst : Cond.instantiable Cn N ∈ lw_good) (hini : Cond.initialized Cn ∈ lw_good) (hfs : ∀ j, j < N → defaultValue (ty0 j) = vp_V fs j) (hcells : cells + 1 ≤ R.cells) (hslots : slots + N ≤ R.slots) (hdg : decode cc pc = .ok (.new idx, 3))
    (kk : ∀ (H1 : Heap), H1.size = H.size + 1 → (∀ x : Nat, x < H.size → H1[x]? = H[x]?) → va_at (gD Γ) clX (H.size, .inr (k, fs)) H1 → va_S A s.heap H1 locs → W p l e R s m args below meth c H1 locs (cells + 1) (slots + N) Q (F0 m (pc + 3) ls (.ref H.size :: rest))) : W p l e R s m args below meth c H locs cells slots Q (F0 m pc ls rest) := by
  obtain ⟨hx, hb, hml, hown, hts, hlocks, hCX, -⟩ := C
  obtain ⟨hc, hin, hty, hnm⟩ := o
  have hKn := hCX.2.1.1.1 k _ hc
  refine W.newcK hx hb hown (hts _ hcl) (hts _ hinst) (hts _ hini) rfl hdg hcells hslots hKn.2.1 rfl fun H1 kC hkC e1 z1 o1 => ?_
  exact kk H1 z1 o1 ⟨_, hc, (u_born ty0 hts hin hKn hkC e1 hty).to hfs⟩ ⟨Nat.le_trans hS.1 (by omega), fun x h1 h2 => (o1 x (Nat.lt_of_lt_of_le h1 hS.1)).trans (hS.2.1 x h1 h2), hS.2.2⟩
/-- a row of numbers is made -/
theorem r_newA {atype : ArrayType} {t n : Nat} {x : Int32} {a0 : vp_A} (C : Cx Γ p l s m args meth c cc nL own) (hS : va_S A s.heap H locs) (harr : Cond.arrayClass (newarray.typeOf atype) ∈ lw_good) (hty : (tysX Γ)[t]? = some (gA Γ t, newarray.typeOf atype)) (hobj : ∀ Z, newarray.typeOf atype ≠ .object Z) (ha : ∀ cA : ClassId, vp_cell cA a0 = arrV cA n (fun _ => defaultValue (newarray.typeOf atype))) (hn : x = nI n) (hn2 : n < 10000) (hcells : cells + 1 ≤ R.cells) (hslots : slots + n ≤ R.slots) (hdg : decode cc pc = .ok (.newarray atype, 2))
    (kk : ∀ (H1 : Heap), H1.size = H.size + 1 → (∀ z : Nat, z < H.size → H1[z]? = H[z]?) → va_at (gD Γ) clX (H.size, .inl (gA Γ t, a0)) H1 → va_S A s.heap H1 locs → W p l e R s m args below meth c H1 locs (cells + 1) (slots + n) Q (F0 m (pc + 2) ls (.ref H.size :: rest))) : W p l e R s m args below meth c H locs cells slots Q (F0 m pc ls (.int x :: rest)) := by
  subst hn
  obtain ⟨hx, hb, hml, hown, hts, hlocks, hCX, -⟩ := C
  have hRA := (hCX.2.1.1.2 t _ hty).2
  refine va_newaK hx hb (hts _ harr) rfl hdg rfl (nI_pos (by omega)) (nI_clamp (by omega)) (by cases atype <;> simp only [newarray.typeOf, componentBytes] <;> omega) hcells hslots rfl fun H1 cA e1 z1 o1 hAr hNm => ?_
  have hcA : cA = gA Γ t := by
    have h2 : s.vm.findClass ("[" ++ (newarray.typeOf atype).toString) = some (gA Γ t) := by
      cases atype <;> exact hRA
    exact Option.some.inj (hNm.symm.trans h2)
  subst hcA
  exact kk H1 z1 o1 (by show H1[H.size]? = some (vp_cell _ _); rw [ha]; exact e1) ⟨Nat.le_trans hS.1 (by omega), fun z h1 h2 => (o1 z (Nat.lt_of_lt_of_le h1 hS.1)).trans (hS.2.1 z h1 h2), hS.2.2⟩
end RCTOR

set_option maxHeartbeats 1500000 in
set_option maxRecDepth 100000 in
theorem r_iAC {l : Launch} (hfl : l.stackTraces = false) (Γ : Gm) (q : Nat) : RTc l Γ (fun z => z = q) yJxa1e45_init_da8c8 (wsO yJxa1e45_init_da8c8 cJxa1e45_init_da8c8 1 none) 0 [.ref q] (fun H => gB Γ ≤ q ∧ va_at (gD Γ) clX ((q, .inr (8, [.int 0, .null, .int 0]))) H) (fun v H => v = none ∧ va_at (gD Γ) clX ((q, .inr (8, [.int 0, .null, .int 0]))) H) 0 0 := by
  refine rt_intro hfl (by decide) (Nat.le_of_ble_eq_true rfl) ?_
  intro p e s m args below meth c C hr hnm hP0 ls hl
  have hx := C.1
  have hb := C.2.1
  have hts := C.2.2.2.2.1
  have hK := C.2.2.2.2.2.2.1.2.1.1
  have hS : va_S (fun z => z = q) s.heap s.heap [] := va_S.rf
  have hl : lv_has ls 1 [(0, .ref q)] := hl
  obtain ⟨hgq, h0⟩ := hP0
  refine lv_aload_n hx hb dJxa1e45_init_da8c8_0 rfl (lv_at hl 0 rfl) ?_
  refine g_obj C hl t_78 dJxa1e45_init_da8c8_1 rfl (Nat.le_of_ble_eq_true rfl) ?_
  exact r_vret C hr hS dJxa1e45_init_da8c8_4 (by decide) (by decide) ⟨rfl, h0⟩

theorem kJxa1e45_init_da8c8 : CeeI yJxa1e45_init_da8c8 cJxa1e45_init_da8c8 1 0 := ⟨t_76, t_4, t_77, rfl, by decide +kernel, by decide⟩

set_option maxHeartbeats 1500000 in
set_option maxRecDepth 100000 in
theorem r_iAL {l : Launch} (hfl : l.stackTraces = false) (Γ : Gm) (q : Nat) : RTc l Γ (fun z => z = q) yJxc12de_init_da8c8 (wsO yJxc12de_init_da8c8 cJxc12de_init_da8c8 1 none) 1 [.ref q] (fun H => gB Γ ≤ q ∧ va_at (gD Γ) clX ((q, .inr (8, [.int 0, .null, .int 0]))) H) (fun v H => v = none ∧ va_at (gD Γ) clX ((q, .inr (8, [.int 0, .null, .int 0]))) H) 0 0 := by
  refine rt_intro hfl (by decide) (Nat.le_of_ble_eq_true rfl) ?_
  intro p e s m args below meth c C hr hnm hP0 ls hl
  have hx := C.1
  have hb := C.2.1
  have hts := C.2.2.2.2.1
  have hK := C.2.2.2.2.2.2.1.2.1.1
  have hS : va_S (fun z => z = q) s.heap s.heap [] := va_S.rf
  have hl : lv_has ls 1 [(0, .ref q)] := hl
  have hPc := hP0
  obtain ⟨hgq, h0⟩ := hP0
  refine lv_aload_n hx hb dJxc12de_init_da8c8_0 rfl (lv_at hl 0 rfl) ?_
  refine g_rI C hS (fun z h => by rw [h]; exact hgq) hPc hl (fun _ h => h) (r_iAC hfl Γ q) kJxa1e45_init_da8c8 t_75 dJxc12de_init_da8c8_1 rfl rfl (Nat.le_of_ble_eq_true rfl) (by decide) rfl ⟨by decide, by decide⟩ (fun v H locs hv hS _ _ => ?_)
  obtain ⟨rfl, h0⟩ := hv
  dsimp only [Option.toList, List.nil_append]
  refine lv_aload_n hx hb dJxc12de_init_da8c8_4 rfl (lv_at hl 0 rfl) ?_
  refine lv_iconst (v := 0) hx hb dJxc12de_init_da8c8_5 (by decide) ?_
  refine r_putN C ck_8 h0 hS rfl 0 (by decide) rfl rfl rfl rfl dJxc12de_init_da8c8_6 t_83 (fun x h => h) (fun H locs h0 oq hz hS => ?_)
  replace h0 : va_at (gD Γ) clX (q, .inr (8, [.int 0, .null, .int 0])) H := h0
  exact r_vret C hr hS dJxc12de_init_da8c8_9 (by decide) (by decide) ⟨rfl, h0⟩

theorem kJxc12de_init_da8c8 : CeeI yJxc12de_init_da8c8 cJxc12de_init_da8c8 1 0 := ⟨t_73, t_5, t_74, rfl, by decide +kernel, by decide⟩

set_option maxHeartbeats 1500000 in
set_option maxRecDepth 100000 in
theorem r_iLi {l : Launch} (hfl : l.stackTraces = false) (Γ : Gm) (q : Nat) : RTc l Γ (fun z => z = q) yJx4a65c_init_da8c8 (wsO yJx4a65c_init_da8c8 cJx4a65c_init_da8c8 1 none) 2 [.ref q] (fun H => gB Γ ≤ q ∧ va_at (gD Γ) clX ((q, .inr (8, [.int 0, .null, .int 0]))) H) (fun v H => v = none ∧ va_at (gD Γ) clX (liC q 0 (gE Γ) 0) H) 0 0 := by
  refine rt_intro hfl (by decide) (Nat.le_of_ble_eq_true rfl) ?_
  intro p e s m args below meth c C hr hnm hP0 ls hl
  have hx := C.1
  have hb := C.2.1
  have hts := C.2.2.2.2.1
  have hK := C.2.2.2.2.2.2.1.2.1.1
  have hS : va_S (fun z => z = q) s.heap s.heap [] := va_S.rf
  have hl : lv_has ls 1 [(0, .ref q)] := hl
  have hPc := hP0
  obtain ⟨hgq, h0⟩ := hP0
  have hA : ∀ z, z = q → gB Γ ≤ z := fun z h => by rw [h]; exact hgq
  refine lv_aload_n hx hb dJx4a65c_init_da8c8_0 rfl (lv_at hl 0 rfl) ?_
  refine g_rI C hS hA hPc hl (fun _ h => h) (r_iAL hfl Γ q) kJxc12de_init_da8c8 t_72 dJx4a65c_init_da8c8_1 rfl rfl (Nat.le_of_ble_eq_true rfl) (by decide) rfl ⟨by decide, by decide⟩ (fun v H locs hv hS _ _ => ?_)
  obtain ⟨rfl, h0⟩ := hv
  dsimp only [Option.toList, List.nil_append]
  refine lv_aload_n hx hb dJx4a65c_init_da8c8_4 rfl (lv_at hl 0 rfl) ?_
  refine va_gets hx hb (C.2.2.2.2.2.2.1.2.2.2.2.1.narrow hA) hS C.2.2.2.1 (hts _ t_79) (fun x h => h) dJx4a65c_init_da8c8_5 ?_
  refine r_putN C ck_8 h0 hS rfl 1 (by decide) rfl rfl rfl rfl dJx4a65c_init_da8c8_8 t_81 (fun x h => h) (fun H locs h0 oq hz hS => ?_)
  replace h0 : va_at (gD Γ) clX (liC q 0 (gE Γ) 0) H := h0
  exact r_vret C hr hS dJx4a65c_init_da8c8_11 (by decide) (by decide) ⟨rfl, h0⟩

theorem kJx4a65c_init_da8c8 : CeeI yJx4a65c_init_da8c8 cJx4a65c_init_da8c8 1 0 := ⟨t_70, t_6, t_71, rfl, by decide +kernel, by decide⟩

set_option maxHeartbeats 1500000 in
set_option maxRecDepth 100000 in
theorem r_i0 {l : Launch} (hfl : l.stackTraces = false) (Γ : Gm) (q : Nat) (x y : Int32) : RTc l Γ (fun z => z = q) yX0_init (wsO yX0_init cX0_init 3 none) 0 [.ref q, .int x, .int y] (fun H => gB Γ ≤ q ∧ va_at (gD Γ) clX ((q, .inr (0, [.int 0, .int 0, .int 0, .int 0]))) H) (fun v H => v = none ∧ va_at (gD Γ) clX ((q, .inr (0, [.int x, .int y, .int 0, .int 0]))) H) 0 0 := by
  refine rt_intro hfl (by decide) (Nat.le_of_ble_eq_true rfl) ?_
  intro p e s m args below meth c C hr hnm hP0 ls hl
  have hx := C.1
  have hb := C.2.1
  have hts := C.2.2.2.2.1
  have hK := C.2.2.2.2.2.2.1.2.1.1
  have hS : va_S (fun z => z = q) s.heap s.heap [] := va_S.rf
  have hl : lv_has ls 3 [(0, .ref q), (1, .int x), (2, .int y)] := hl
  obtain ⟨hgq, h0⟩ := hP0
  refine lv_aload_n hx hb dX0_init_0 rfl (lv_at hl 0 rfl) ?_
  refine g_obj C hl t_994 dX0_init_1 rfl (Nat.le_of_ble_eq_true rfl) ?_
  refine lv_aload_n hx hb dX0_init_4 rfl (lv_at hl 0 rfl) ?_
  refine lv_iload_n hx hb dX0_init_5 rfl (lv_at hl 1 rfl) ?_
  refine r_putFi C ck_0 h0 hS rfl 0 (by decide) rfl rfl hnm rfl rfl rfl dX0_init_6 t_995 (fun x h => h) (fun H locs h0 oq hz hS => ?_)
  replace h0 : va_at (gD Γ) clX ((q, .inr (0, [.int x, .int 0, .int 0, .int 0]))) H := h0
  refine lv_aload_n hx hb dX0_init_9 rfl (lv_at hl 0 rfl) ?_
  refine lv_iload_n hx hb dX0_init_10 rfl (lv_at hl 2 rfl) ?_
  refine r_putN C ck_0 h0 hS rfl 1 (by decide) rfl rfl rfl rfl dX0_init_11 t_997 (fun x h => h) (fun H locs h0 oq hz hS => ?_)
  replace h0 : va_at (gD Γ) clX ((q, .inr (0, [.int x, .int y, .int 0, .int 0]))) H := h0
  exact r_vret C hr hS dX0_init_14 (by decide) (by decide) ⟨rfl, h0⟩

theorem kX0_init : CeeI yX0_init cX0_init 3 2 := ⟨t_992, t_31, t_993, rfl, by decide +kernel, by decide⟩

set_option maxHeartbeats 1500000 in
set_option maxRecDepth 100000 in
theorem r_i2 {l : Launch} (hfl : l.stackTraces = false) (Γ : Gm) (q : Nat) (x : Int32) (t : Nat) : RTc l Γ (fun z => z = q) yX2_init (wsO yX2_init cX2_init 3 none) 0 [.ref q, .int x, .ref t] (fun H => gB Γ ≤ q ∧ va_at (gD Γ) clX ((q, .inr (2, [.int 0, .null]))) H) (fun v H => v = none ∧ va_at (gD Γ) clX ((q, .inr (2, [.int x, .ref t]))) H) 0 0 := by
  refine rt_intro hfl (by decide) (Nat.le_of_ble_eq_true rfl) ?_
  intro p e s m args below meth c C hr hnm hP0 ls hl
  have hx := C.1
  have hb := C.2.1
  have hts := C.2.2.2.2.1
  have hK := C.2.2.2.2.2.2.1.2.1.1
  have hS : va_S (fun z => z = q) s.heap s.heap [] := va_S.rf
  have hl : lv_has ls 3 [(0, .ref q), (1, .int x), (2, .ref t)] := hl
  obtain ⟨hgq, h0⟩ := hP0
  refine lv_aload_n hx hb dX2_init_0 rfl (lv_at hl 0 rfl) ?_
  refine g_obj C hl t_843 dX2_init_1 rfl (Nat.le_of_ble_eq_true rfl) ?_
  refine lv_aload_n hx hb dX2_init_4 rfl (lv_at hl 0 rfl) ?_
  refine lv_iload_n hx hb dX2_init_5 rfl (lv_at hl 1 rfl) ?_
  refine r_putFi C ck_2 h0 hS rfl 0 (by decide) rfl rfl hnm rfl rfl rfl dX2_init_6 t_844 (fun x h => h) (fun H locs h0 oq hz hS => ?_)
  replace h0 : va_at (gD Γ) clX ((q, .inr (2, [.int x, .null]))) H := h0
  refine lv_aload_n hx hb dX2_init_9 rfl (lv_at hl 0 rfl) ?_
  refine lv_aload_n hx hb dX2_init_10 rfl (lv_at hl 2 rfl) ?_
  refine r_putN C ck_2 h0 hS rfl 1 (by decide) rfl rfl rfl rfl dX2_init_11 t_847 (fun x h => h) (fun H locs h0 oq hz hS => ?_)
  replace h0 : va_at (gD Γ) clX ((q, .inr (2, [.int x, .ref t]))) H := h0
  exact r_vret C hr hS dX2_init_14 (by decide) (by decide) ⟨rfl, h0⟩

theorem kX2_init : CeeI yX2_init cX2_init 3 2 := ⟨t_841, t_29, t_842, rfl, by decide +kernel, by decide⟩

set_option maxHeartbeats 1500000 in
set_option maxRecDepth 100000 in
theorem r_i1 {l : Launch} (hfl : l.stackTraces = false) (Γ : Gm) (q t : Nat) : RTc l Γ (fun z => z = q) yX1_init (wsO yX1_init cX1_init 2 none) 0 [.ref q, .ref t] (fun H => gB Γ ≤ q ∧ va_at (gD Γ) clX ((q, .inr (1, [.null, .int 0]))) H) (fun v H => v = none ∧ va_at (gD Γ) clX ((q, .inr (1, [.ref t, .int 0]))) H) 0 0 := by
  refine rt_intro hfl (by decide) (Nat.le_of_ble_eq_true rfl) ?_
  intro p e s m args below meth c C hr hnm hP0 ls hl
  have hx := C.1
  have hb := C.2.1
  have hts := C.2.2.2.2.1
  have hK := C.2.2.2.2.2.2.1.2.1.1
  have hS : va_S (fun z => z = q) s.heap s.heap [] := va_S.rf
  have hl : lv_has ls 2 [(0, .ref q), (1, .ref t)] := hl
  obtain ⟨hgq, h0⟩ := hP0
  refine lv_aload_n hx hb dX1_init_0 rfl (lv_at hl 0 rfl) ?_
  refine g_obj C hl t_49 dX1_init_1 rfl (Nat.le_of_ble_eq_true rfl) ?_
  refine lv_aload_n hx hb dX1_init_4 rfl (lv_at hl 0 rfl) ?_
  refine lv_aload_n hx hb dX1_init_5 rfl (lv_at hl 1 rfl) ?_
  refine r_putFi C ck_1 h0 hS rfl 0 (by decide) rfl rfl hnm rfl rfl rfl dX1_init_6 t_50 (fun x h => h) (fun H locs h0 oq hz hS => ?_)
  replace h0 : va_at (gD Γ) clX ((q, .inr (1, [.ref t, .int 0]))) H := h0
  exact r_vret C hr hS dX1_init_9 (by decide) (by decide) ⟨rfl, h0⟩

theorem kX1_init : CeeI yX1_init cX1_init 2 1 := ⟨t_47, t_2, t_48, rfl, by decide +kernel, by decide⟩

set_option maxHeartbeats 1500000 in
set_option maxRecDepth 100000 in
theorem r_i3 {l : Launch} (hfl : l.stackTraces = false) (Γ : Gm) (N q : Nat) (x : Int32) : RTc l Γ (fun z => z = q ∨ N ≤ z) yX3_init (wsO yX3_init cX3_init 2 none) 0 [.ref q, .int x] (fun H => H.size = N ∧ gB Γ ≤ q ∧ gB Γ ≤ N ∧ q < N ∧ va_at (gD Γ) clX ((q, .inr (3, [.int 0, .null]))) H) (fun v H => v = none ∧ ∃ q2 : Nat, N ≤ q2 ∧ q ≠ q2 ∧ va_at (gD Γ) clX ((q, .inr (3, [.int x, .ref q2]))) H ∧ va_at (gD Γ) clX (q2, .inl (gA Γ 0, 6, .inl (fun _ => 0))) H) 1 6 := by
  refine rt_intro hfl (by decide) (Nat.le_of_ble_eq_true rfl) ?_
  intro p e s m args below meth c C hr hnm hP0 ls hl
  have hx := C.1
  have hb := C.2.1
  have hts := C.2.2.2.2.1
  have hK := C.2.2.2.2.2.2.1.2.1.1
  have hS : va_S (fun z => z = q ∨ N ≤ z) s.heap s.heap [] := va_S.rf
  have hl : lv_has ls 2 [(0, .ref q), (1, .int x)] := hl
  obtain ⟨hN, hgq, hgN, hqN, h0⟩ := hP0
  have hA : ∀ z, (z = q ∨ N ≤ z) → gB Γ ≤ z := fun z h => by rcases h with h | h; rw [h]; exact hgq; omega
  refine lv_aload_n hx hb dX3_init_0 rfl (lv_at hl 0 rfl) ?_
  refine g_obj C hl t_1210 dX3_init_1 rfl (Nat.le_of_ble_eq_true rfl) ?_
  refine lv_aload_n hx hb dX3_init_4 rfl (lv_at hl 0 rfl) ?_
  refine lv_iload_n hx hb dX3_init_5 rfl (lv_at hl 1 rfl) ?_
  refine r_putFi C ck_3 h0 hS (Or.inl rfl) 0 (by decide) rfl rfl hnm rfl rfl rfl dX3_init_6 t_1211 (fun x h => h) (fun H locs h0 oq hz hS => ?_)
  replace h0 : va_at (gD Γ) clX ((q, .inr (3, [.int x, .null]))) H := h0
  refine lv_aload_n hx hb dX3_init_9 rfl (lv_at hl 0 rfl) ?_
  refine lv_bipush (v := 6) hx hb dX3_init_10 (by decide) ?_
  have hHN : H.size = N := by omega
  have hqH : q ≠ H.size := by omega
  refine r_newA (atype := .int) (t := 0) (n := 6) (a0 := (6, .inl (fun _ => 0))) C hS t_59 rfl (fun _ h => nomatch h) (fun cA => rfl) rfl (by decide) (by decide) (by decide) dX3_init_12 (fun H1 hz1 ho1 ha1 hS => ?_)
  replace h0 := h0.kept (ho1 _ (show q < H.size by omega))
  refine r_putFi C ck_3 h0 hS (Or.inl rfl) 1 (by decide) rfl rfl hnm rfl rfl rfl dX3_init_14 t_1213 (fun x h => h) (fun H2 locs h0 oq2 hz2 hS => ?_)
  replace h0 : va_at (gD Γ) clX (q, .inr (3, [.int x, .ref H.size])) H2 := h0
  replace ha1 := ha1.kept (oq2 _ hqH.symm)
  exact r_vret C hr hS dX3_init_17 (by decide) (by decide) ⟨rfl, H.size, by omega, by omega, h0, ha1⟩

theorem kX3_init : CeeI yX3_init cX3_init 2 1 := ⟨t_1208, t_33, t_1209, rfl, by decide +kernel, by decide⟩

set_option maxHeartbeats 1500000 in
set_option maxRecDepth 100000 in
theorem r_i4 {l : Launch} (hfl : l.stackTraces = false) (Γ : Gm) (N q : Nat) (n su to : Int32) (cu : Nat) : RTc l Γ (fun z => z = q ∨ N ≤ z) yX4_init (wsO yX4_init cX4_init 5 none) 3 [.ref q, .int n, .ref cu, .int su, .int to] (fun H => H.size = N ∧ gB Γ ≤ q ∧ gB Γ ≤ N ∧ q < N ∧ va_at (gD Γ) clX ((q, .inr (4, [.int 0, .null, .int 0, .null, .int 0, .int 0, .int 0, .int 0, .int 0, .null, .int 0, .null, .int 0, .null]))) H) (fun v H => v = none ∧ ∃ q2 : Nat, N ≤ q2 ∧ q ≠ q2 ∧ va_at (gD Γ) clX ((q, .inr (4, [.int n, .ref cu, .int su, .ref q2, .int to, .int 0, .int 111, .int 0, .int 0, .null, .int 0, .null, .int 0, .null]))) H ∧ va_at (gD Γ) clX (liC q2 0 (gE Γ) 0) H) 1 3 := by
  refine rt_intro hfl (by decide) (Nat.le_of_ble_eq_true rfl) ?_
  intro p e s m args below meth c C hr hnm hP0 ls hl
  have hx := C.1
  have hb := C.2.1
  have hts := C.2.2.2.2.1
  have hK := C.2.2.2.2.2.2.1.2.1.1
  have hS : va_S (fun z => z = q ∨ N ≤ z) s.heap s.heap [] := va_S.rf
  have hl : lv_has ls 5 [(0, .ref q), (1, .int n), (2, .ref cu), (3, .int su), (4, .int to)] := hl
  obtain ⟨hN, hgq, hgN, hqN, h0⟩ := hP0
  have hA : ∀ z, (z = q ∨ N ≤ z) → gB Γ ≤ z := fun z h => by rcases h with h | h; rw [h]; exact hgq; omega
  refine lv_aload_n hx hb dX4_init_0 rfl (lv_at hl 0 rfl) ?_
  refine g_obj C hl t_760 dX4_init_1 rfl (Nat.le_of_ble_eq_true rfl) ?_
  refine lv_aload_n hx hb dX4_init_4 rfl (lv_at hl 0 rfl) ?_
  refine lv_iload_n hx hb dX4_init_5 rfl (lv_at hl 1 rfl) ?_
  refine r_putFi C ck_4 h0 hS (Or.inl rfl) 0 (by decide) rfl rfl hnm rfl rfl rfl dX4_init_6 t_763 (fun x h => h) (fun H locs h0 oq hz hS => ?_)
  replace h0 : va_at (gD Γ) clX ((q, .inr (4, [.int n, .null, .int 0, .null, .int 0, .int 0, .int 0, .int 0, .int 0, .null, .int 0, .null, .int 0, .null]))) H := h0
  have hz6 := hz
  refine lv_aload_n hx hb dX4_init_9 rfl (lv_at hl 0 rfl) ?_
  refine lv_aload_n hx hb dX4_init_10 rfl (lv_at hl 2 rfl) ?_
  refine r_putFi C ck_4 h0 hS (Or.inl rfl) 1 (by decide) rfl rfl hnm rfl rfl rfl dX4_init_11 t_765 (fun x h => h) (fun H locs h0 oq hz hS => ?_)
  replace h0 : va_at (gD Γ) clX ((q, .inr (4, [.int n, .ref cu, .int 0, .null, .int 0, .int 0, .int 0, .int 0, .int 0, .null, .int 0, .null, .int 0, .null]))) H := h0
  replace hz6 := hz.trans hz6
  refine lv_aload_n hx hb dX4_init_14 rfl (lv_at hl 0 rfl) ?_
  refine lv_iload_n hx hb dX4_init_15 rfl (lv_at hl 3 rfl) ?_
  refine r_putFi C ck_4 h0 hS (Or.inl rfl) 2 (by decide) rfl rfl hnm rfl rfl rfl dX4_init_16 t_767 (fun x h => h) (fun H locs h0 oq hz hS => ?_)
  replace h0 : va_at (gD Γ) clX ((q, .inr (4, [.int n, .ref cu, .int su, .null, .int 0, .int 0, .int 0, .int 0, .int 0, .null, .int 0, .null, .int 0, .null]))) H := h0
  replace hz6 := hz.trans hz6
  refine lv_aload_n hx hb dX4_init_19 rfl (lv_at hl 0 rfl) ?_
  refine lv_iload hx hb dX4_init_20 (lv_at hl 4 rfl) ?_
  refine r_putN C ck_4 h0 hS (Or.inl rfl) 4 (by decide) rfl rfl rfl rfl dX4_init_22 t_771 (fun x h => h) (fun H locs h0 oq hz hS => ?_)
  replace h0 : va_at (gD Γ) clX ((q, .inr (4, [.int n, .ref cu, .int su, .null, .int to, .int 0, .int 0, .int 0, .int 0, .null, .int 0, .null, .int 0, .null]))) H := h0
  replace hz6 := hz.trans hz6
  refine lv_aload_n hx hb dX4_init_25 rfl (lv_at hl 0 rfl) ?_
  have hHN : H.size = N := by omega
  have hqH : q ≠ H.size := by omega
  refine r_newO C ck_8 (fs := [.int 0, .null, .int 0]) hS t_761 t_68 t_6 (by decide +kernel) (by decide) (by decide) dX4_init_26 (fun H1 hz1 ho1 ha1 hS => ?_)
  replace h0 := h0.kept (ho1 _ (show q < H.size by omega))
  refine lv_dup hx hb dX4_init_29 rfl ?_
  refine g_rI C hS hA (P := fun H' => gB Γ ≤ H.size ∧ va_at (gD Γ) clX (H.size, .inr (8, [.int 0, .null, .int 0])) H') ⟨by omega, ha1⟩ hl (fun z h => Or.inr (by omega)) (r_iLi hfl Γ H.size) kJx4a65c_init_da8c8 t_762 dX4_init_30 rfl rfl (Nat.le_of_ble_eq_true rfl) (by decide) rfl ⟨by decide, by decide⟩ (fun v H2 locs2 hv hS hz2 hk2 => ?_)
  obtain ⟨rfl, ha1⟩ := hv
  dsimp only [Option.toList, List.nil_append]
  replace h0 := h0.kept (hk2 _ (show q < H1.size by omega) (fun z => by omega))
  refine r_putFi C ck_4 h0 hS (Or.inl rfl) 3 (by decide) rfl rfl hnm rfl rfl rfl dX4_init_33 t_769 (fun x h => h) (fun H3 locs h0 oq3 hz3 hS => ?_)
  replace h0 : va_at (gD Γ) clX (q, .inr (4, [.int n, .ref cu, .int su, .ref H.size, .int to, .int 0, .int 0, .int 0, .int 0, .null, .int 0, .null, .int 0, .null])) H3 := h0
  replace ha1 := ha1.kept (oq3 _ hqH.symm)
  refine lv_aload_n hx hb dX4_init_36 rfl (lv_at hl 0 rfl) ?_
  refine lv_bipush (v := 111) hx hb dX4_init_37 (by decide) ?_
  refine r_putN C ck_4 h0 hS (Or.inl rfl) 6 (by decide) rfl rfl rfl rfl dX4_init_39 t_775 (fun x h => h) (fun H4 locs h0 oq4 hz4 hS => ?_)
  replace h0 : va_at (gD Γ) clX (q, .inr (4, [.int n, .ref cu, .int su, .ref H.size, .int to, .int 0, .int 111, .int 0, .int 0, .null, .int 0, .null, .int 0, .null])) H4 := h0
  replace ha1 := ha1.kept (oq4 _ hqH.symm)
  exact r_vret C hr hS dX4_init_42 (by decide) (by decide) ⟨rfl, H.size, by omega, by omega, h0, ha1⟩

theorem kX4_init : CeeI yX4_init cX4_init 5 4 := ⟨t_758, t_28, t_759, rfl, by decide +kernel, by decide⟩

set_option maxHeartbeats 1500000 in
set_option maxRecDepth 100000 in
theorem r_i5 {l : Launch} (hfl : l.stackTraces = false) (Γ : Gm) (N q : Nat) : RTc l Γ (fun z => z = q ∨ N ≤ z) yX5_init (wsO yX5_init cX5_init 1 none) 3 [.ref q] (fun H => H.size = N ∧ gB Γ ≤ q ∧ gB Γ ≤ N ∧ q < N ∧ va_at (gD Γ) clX ((q, .inr (5, [.null]))) H) (fun v H => v = none ∧ ∃ q2 : Nat, N ≤ q2 ∧ q ≠ q2 ∧ va_at (gD Γ) clX ((q, .inr (5, [.ref q2]))) H ∧ va_at (gD Γ) clX (liC q2 0 (gE Γ) 0) H) 1 3 := by
  refine rt_intro hfl (by decide) (Nat.le_of_ble_eq_true rfl) ?_
  intro p e s m args below meth c C hr hnm hP0 ls hl
  have hx := C.1
  have hb := C.2.1
  have hts := C.2.2.2.2.1
  have hK := C.2.2.2.2.2.2.1.2.1.1
  have hS : va_S (fun z => z = q ∨ N ≤ z) s.heap s.heap [] := va_S.rf
  have hl : lv_has ls 1 [(0, .ref q)] := hl
  obtain ⟨hN, hgq, hgN, hqN, h0⟩ := hP0
  have hA : ∀ z, (z = q ∨ N ≤ z) → gB Γ ≤ z := fun z h => by rcases h with h | h; rw [h]; exact hgq; omega
  refine lv_aload_n hx hb dX5_init_0 rfl (lv_at hl 0 rfl) ?_
  refine g_obj C hl t_66 dX5_init_1 rfl (Nat.le_of_ble_eq_true rfl) ?_
  refine lv_aload_n hx hb dX5_init_4 rfl (lv_at hl 0 rfl) ?_
  refine r_newO C ck_8 (fs := [.int 0, .null, .int 0]) hS t_67 t_68 t_6 (by decide +kernel) (by decide) (by decide) dX5_init_5 (fun H1 hz1 ho1 ha1 hS => ?_)
  replace h0 := h0.kept (ho1 _ (show q < s.heap.size by omega))
  refine lv_dup hx hb dX5_init_8 rfl ?_
  refine g_rI C hS hA (P := fun H' => gB Γ ≤ s.heap.size ∧ va_at (gD Γ) clX (s.heap.size, .inr (8, [.int 0, .null, .int 0])) H') ⟨by omega, ha1⟩ hl (fun z h => Or.inr (by omega)) (r_iLi hfl Γ s.heap.size) kJx4a65c_init_da8c8 t_69 dX5_init_9 rfl rfl (Nat.le_of_ble_eq_true rfl) (by decide) rfl ⟨by decide, by decide⟩ (fun v H2 locs2 hv hS hz2 hk2 => ?_)
  obtain ⟨rfl, ha1⟩ := hv
  dsimp only [Option.toList, List.nil_append]
  replace h0 := h0.kept (hk2 _ (show q < H1.size by omega) (fun z => by omega))
  refine r_putFi C ck_5 h0 hS (Or.inl rfl) 0 (by decide) rfl rfl hnm rfl rfl rfl dX5_init_12 t_93 (fun x h => h) (fun H3 locs h0 oq3 hz3 hS => ?_)
  replace h0 : va_at (gD Γ) clX (q, .inr (5, [.ref s.heap.size])) H3 := h0
  replace ha1 := ha1.kept (oq3 _ (by show s.heap.size ≠ q; omega))
  exact r_vret C hr hS dX5_init_15 (by decide) (by decide) ⟨rfl, s.heap.size, by omega, by omega, h0, ha1⟩

theorem kX5_init : CeeI yX5_init cX5_init 1 0 := ⟨t_64, t_3, t_65, rfl, by decide +kernel, by decide⟩
