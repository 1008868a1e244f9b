/-- what is said of a class of ours -/
def ClOk (k : Nat) (Cn : String) (T : u_T) (ty0 : Nat → FieldType) : Prop := k < 8 ∧ clX[k]? = some (Cn, T, nFl k) ∧ (∀ w ∈ u_ws Cn T (nFl k), w ∈ lw_good) ∧ (∀ a, a < nFl k → parseFieldDescriptor (T a).2.2.1 = some (ty0 a)) ∧ ∀ a, a < nFl k → ∀ b, b < nFl k → a ≠ b → (T a).2.1 ≠ (T b).2.1
theorem clo_0 : ClOk 0 RX0 TX0 tyX0 := ⟨by decide, rfl, by decide +kernel, tyX0_ok, nmX0⟩
theorem clo_1 : ClOk 1 RX1 TX1 tyX1 := ⟨by decide, rfl, by decide +kernel, tyX1_ok, nmX1⟩
theorem clo_2 : ClOk 2 RX2 TX2 tyX2 := ⟨by decide, rfl, by decide +kernel, tyX2_ok, nmX2⟩
theorem clo_3 : ClOk 3 RX3 TX3 tyX3 := ⟨by decide, rfl, by decide +kernel, tyX3_ok, nmX3⟩
theorem clo_4 : ClOk 4 RX4 TX4 tyX4 := ⟨by decide, rfl, by decide +kernel, tyX4_ok, nmX4⟩
theorem clo_5 : ClOk 5 RX5 TX5 tyX5 := ⟨by decide, rfl, by decide +kernel, tyX5_ok, nmX5⟩
theorem clo_6 : ClOk 6 RX6 TX6 tyX6 := ⟨by decide, rfl, by decide +kernel, tyX6_ok, nmX6⟩
theorem clo_7 : ClOk 7 RX7 TX7 tyX7 := ⟨by decide, rfl, by decide +kernel, tyX7_ok, nmX7⟩
section FIELDS
variable {p : Program} {l : Launch} {e : Env} {R : Room} {s : State} {m : MethodId} {args : Array Value} {below : List Frame} {meth : Method} {c : Code} {H : Heap} {locs : List Loc} {cells slots : Nat} {Q : State → Prop}
variable {cc : ByteArray} {nL : Nat} {own : String} {Γ : Gm} {A : Nat → Prop} {K : Nat → Nat → Nat} {M : Mem} {pc : Nat} {ls : Array Slot} {rest : List Value}
variable {k i j idx : Nat} {Cn : String} {T : u_T} {ty0 : Nat → FieldType} {v : Value}
theorem HM.obj (h : HM Γ K M H) (hk : k < 8) (hi : i < mN M k) : va_at (gD Γ) clX (K k i, .inr (k, fsE K M k i)) H := by
  have h1 := h.1 k i hi (isLs_lt hk)
  rwa [celE_obj hk] at h1
theorem va_P.one {D : va_G} {cl : List vw_C} {q : Nat × va_E} (h : va_at D cl q H) : va_P D cl [q] H := by
  intro k x hx
  have hz : k < 1 := (List.getElem?_eq_some_iff.mp hx).1
  rw [show k = 0 by omega] at hx
  cases hx
  exact h
theorem HM.recv (C : Cx Γ p l s m args meth c cc nL own) (h : HM Γ K M H) (o : ClOk k Cn T ty0) (hi : i < mN M k) : ∃ cell : Cell, H[K k i]? = some cell ∧ cell.vm.isStatics = false ∧ s.vm.findClass Cn = some cell.cls :=
  va_recv (q := (Cn, T, nFl k)) (C.2.2.2.2.2.2.1.2.1.1) (va_P.one (h.obj o.1 hi)) o.2.1 (q0 := 0) rfl
theorem g_get (C : Cx Γ p l s m args meth c cc nL own) (hM : HM Γ K M H) (o : ClOk k Cn T ty0) (j : Nat) (hj : j < nFl k) (hi : i < mN M k) (hlk : Cond.fieldLink own idx Cn (T j).2.1 (T j).2.2.1 ∈ lw_good) (hsame : (T j).1 = Cn) (hv : fv K M k j i = v) (hdg : decode cc pc = .ok (.getfield idx, 3))
    (kk : W p l e R s m args below meth c H locs cells slots Q (F0 m (pc + 3) ls (v :: rest))) : W p l e R s m args below meth c H locs cells slots Q (F0 m pc ls (.ref (K k i) :: rest)) :=
  va_get (ref := Cn) C.1 C.2.1 C.2.2.2.2.1 o.2.2.1 C.2.2.2.1 C.2.2.2.2.2.2.1.2.1.1 (va_P.one (hM.obj o.1 hi)) 0 rfl o.2.1 j hj (C.2.2.2.2.1 _ hlk) (fun x h => by rw [hsame] at h; exact h) (by rw [fsE_at hj, hv]) hdg kk
theorem g_getN (C : Cx Γ p l s m args meth c cc nL own) (hM : HM Γ K M H) (o : ClOk k Cn T ty0) (j : Nat) (hj : j < nFl k) (hi : i < mN M k) (hlk : Cond.fieldLinkNest own idx Cn (T j).2.1 (T j).2.2.1 "TicketWeaver" ∈ lw_nest) (hsame : (T j).1 = Cn) (hv : fv K M k j i = v) (hdg : decode cc pc = .ok (.getfield idx, 3))
    (kk : W p l e R s m args below meth c H locs cells slots Q (F0 m (pc + 3) ls (v :: rest))) : W p l e R s m args below meth c H locs cells slots Q (F0 m pc ls (.ref (K k i) :: rest)) :=
  va_getN (ref := Cn) C.1 C.2.1 C.2.2.2.2.1 o.2.2.1 C.2.2.2.1 C.2.2.2.2.2.2.1.2.1.1 (va_P.one (hM.obj o.1 hi)) 0 rfl o.2.1 j hj (va_Nw.use rfl (C.2.2.2.2.2.2.1.2.1.2.1 _ (nst_of hlk))) (fun x h => by rw [hsame] at h; exact h) (by rw [fsE_at hj, hv]) hdg kk
theorem g_putc (C : Cx Γ p l s m args meth c cc nL own) (hM : HM Γ K M H) (hS : va_S (gFree Γ) s.heap H locs) (o : ClOk k Cn T ty0) (j : Nat) (hj : j < nFl k) (hi : i < mN M k) (hsame : (T j).1 = Cn) (hfin : (T j).2.2.2 = false) (hn : narrow (ty0 j) v = v) (hfit : fits (ty0 j) v = true) (hdg : decode cc pc = .ok (.putfield idx, 3))
    (hlk : Cond.fieldLink own idx Cn (T j).2.1 (T j).2.2.1 ∈ lw_good ∨ Cond.fieldLinkNest own idx Cn (T j).2.1 (T j).2.2.1 "TicketWeaver" ∈ lw_nest)
    (kk : ∀ (H1 : Heap) (locs1 : List Loc), va_at (gD Γ) clX (K k i, .inr (k, (fsE K M k i).set j v)) H1 → (∀ q : Nat, q ≠ K k i → H1[q]? = H[q]?) → va_S (gFree Γ) s.heap H1 locs1 → W p l e R s m args below meth c H1 locs1 cells slots Q (F0 m (pc + 3) ls rest)) : W p l e R s m args below meth c H locs cells slots Q (F0 m pc ls (v :: .ref (K k i) :: rest)) := by
  obtain ⟨hx, hb, hml, hown, hts, hlocks, hCX, -⟩ := C
  obtain ⟨hk, hc, hin, hty, hnm⟩ := o
  have hK := hCX.2.1.1
  have hap := va_apart (own := own) hts hin ty0 hty hnm hK hc
  obtain ⟨r, h1, cell, q1, q2, q3, q4⟩ := hM.obj hk hi
  have hr : r = (Cn, T, nFl k) := Option.some.inj (h1.symm.trans hc)
  subst hr
  obtain ⟨hSl, hfc, kC, hkC, hkind⟩ := hK.1 k _ hc
  obtain ⟨cf, kf, fi, f, hf, hsl⟩ := hSl j hj
  have hlay := hts _ (hin _ (u_in_lay hj))
  unfold u_lay at hlay
  rw [if_neg (by rw [hfin]; decide)] at hlay
  have hst := (u_facts hfc hkC (u_lays hts hin hj) hf).1
  have h6 := u_store hfc hkC hkind hlay hf (hty j hj) hn hfit
  have hlen : j < (fsE K M k i).length := by rw [fsE_len]; exact hj
  have hf2 : s.fieldFound? Cn (T j).2.1 (T j).2.2.1 = some (cf, kf, fi, f) := by rw [← hsame]; exact hf
  have hA : gFree Γ (K k i) := hM.2.2.2.1 k i hi
  rcases hlk with hlk | hlk
  · refine W.putK hx hb (f := f) ⟨hown, hts _ hlk, ⟨_, _, _, hf2⟩, hst⟩ (by rw [q2]; exact h6) q1 q3 (by rw [hsl]; exact k2_hasslot (q4 j hj)) rfl rfl hdg fun H' e1 e2 e3 => ?_
    rw [hsl] at e1 ⊢
    exact kk H' _ ⟨_, hc, t_OB.to (V := updV (vp_V (fsE K M k i)) j v) ⟨_, e1, q2, q3, t_set q4 hap hj v⟩ (fun b _ => vp_updV_set hlen v b)⟩ e3 (hS.put e2 e3 hA)
  · refine va_WputK hx hb (f := f) hown (va_Nw.use rfl (hCX.2.1.2.1 _ (nst_of hlk))) hf2 hst (by rw [q2]; exact h6) q1 q3 (by rw [hsl]; exact k2_hasslot (q4 j hj)) rfl rfl hdg fun H' e1 e2 e3 => ?_
    rw [hsl] at e1 ⊢
    exact kk H' _ ⟨_, hc, t_OB.to (V := updV (vp_V (fsE K M k i)) j v) ⟨_, e1, q2, q3, t_set q4 hap hj v⟩ (fun b _ => vp_updV_set hlen v b)⟩ e3 (hS.put e2 e3 hA)
theorem g_putI {x : Int32} (C : Cx Γ p l s m args meth c cc nL own) (hM : HM Γ K M H) (hS : va_S (gFree Γ) s.heap H locs) (o : ClOk k Cn T ty0) (j : Nat) (hj : j < nFl k) (hs : fS k j = (0, 0)) (hi : i < mN M k) (hsame : (T j).1 = Cn) (hfin : (T j).2.2.2 = false) (hn : narrow (ty0 j) (.int x) = .int x) (hfit : fits (ty0 j) (.int x) = true) (hdg : decode cc pc = .ok (.putfield idx, 3))
    (hlk : Cond.fieldLink own idx Cn (T j).2.1 (T j).2.2.1 ∈ lw_good ∨ Cond.fieldLinkNest own idx Cn (T j).2.1 (T j).2.2.1 "TicketWeaver" ∈ lw_nest)
    (kk : ∀ (H1 : Heap) (locs1 : List Loc), HM Γ K (sT M k j i x) H1 → va_S (gFree Γ) s.heap H1 locs1 → W p l e R s m args below meth c H1 locs1 cells slots Q (F0 m (pc + 3) ls rest)) : W p l e R s m args below meth c H locs cells slots Q (F0 m pc ls (.int x :: .ref (K k i) :: rest)) :=
  g_putc C hM hS o j hj hi hsame hfin hn hfit hdg hlk (fun H1 locs1 h1 h2 h3 => kk H1 locs1 (hM.putT o.1 hi hs h1 h2) h3)
theorem g_putJ {x : Int64} (C : Cx Γ p l s m args meth c cc nL own) (hM : HM Γ K M H) (hS : va_S (gFree Γ) s.heap H locs) (o : ClOk k Cn T ty0) (j : Nat) (hj : j < nFl k) (hs : fS k j = (1, 0)) (hi : i < mN M k) (hsame : (T j).1 = Cn) (hfin : (T j).2.2.2 = false) (hn : narrow (ty0 j) (.long x) = .long x) (hfit : fits (ty0 j) (.long x) = true) (hdg : decode cc pc = .ok (.putfield idx, 3))
    (hlk : Cond.fieldLink own idx Cn (T j).2.1 (T j).2.2.1 ∈ lw_good ∨ Cond.fieldLinkNest own idx Cn (T j).2.1 (T j).2.2.1 "TicketWeaver" ∈ lw_nest)
    (kk : ∀ (H1 : Heap) (locs1 : List Loc), HM Γ K (sJ M k j i x) H1 → va_S (gFree Γ) s.heap H1 locs1 → W p l e R s m args below meth c H1 locs1 cells slots Q (F0 m (pc + 3) ls rest)) : W p l e R s m args below meth c H locs cells slots Q (F0 m pc ls (.long x :: .ref (K k i) :: rest)) :=
  g_putc C hM hS o j hj hi hsame hfin hn hfit hdg hlk (fun H1 locs1 h1 h2 h3 => kk H1 locs1 (hM.putJ o.1 hi hs h1 h2) h3)
theorem g_putP {r : Nat} (C : Cx Γ p l s m args meth c cc nL own) (hM : HM Γ K M H) (hS : va_S (gFree Γ) s.heap H locs) (o : ClOk k Cn T ty0) (j : Nat) (hj : j < nFl k) (x : Option Nat) (hs : fS k j = (2, r)) (hx : v = va_rf (x.map (K r))) (hi : i < mN M k) (hsame : (T j).1 = Cn) (hfin : (T j).2.2.2 = false) (hn : narrow (ty0 j) v = v) (hfit : fits (ty0 j) v = true) (hdg : decode cc pc = .ok (.putfield idx, 3))
    (hlk : Cond.fieldLink own idx Cn (T j).2.1 (T j).2.2.1 ∈ lw_good ∨ Cond.fieldLinkNest own idx Cn (T j).2.1 (T j).2.2.1 "TicketWeaver" ∈ lw_nest)
    (kk : ∀ (H1 : Heap) (locs1 : List Loc), HM Γ K (sP M k j i x) H1 → va_S (gFree Γ) s.heap H1 locs1 → W p l e R s m args below meth c H1 locs1 cells slots Q (F0 m (pc + 3) ls rest)) : W p l e R s m args below meth c H locs cells slots Q (F0 m pc ls (v :: .ref (K k i) :: rest)) :=
  g_putc C hM hS o j hj hi hsame hfin hn hfit hdg hlk (fun H1 locs1 h1 h2 h3 => kk H1 locs1 (hM.putP o.1 hi hs (by rw [← hx]; exact h1) h2) h3)
-- rows of numbers
/-- a row of numbers, of what type -/
def RwOk (k t n : Nat) : Prop := 8 ≤ k ∧ isLs k = false ∧ ∀ (dA : Nat → ClassId) (K : Nat → Nat → Nat) (M : Mem) (i : Nat), celE dA K M k i = .inl (dA t, n, .inl (fun j => mT M k j i))
theorem HM.row {t n : Nat} (h : HM Γ K M H) (o : RwOk k t n) (hi : i < mN M k) : va_at (gD Γ) clX (K k i, .inl (gA Γ t, n, .inl (fun j => mT M k j i))) H := by
  have h1 := h.1 k i hi o.2.1
  rwa [o.2.2] at h1
theorem va_D.one {A : Nat → Prop} {q : Nat × va_E} (h : A q.1) : va_D A [q] := by
  refine ⟨fun i j x y hx hy _ => ?_, fun k x hx => ?_⟩
  · have h1 : i < 1 := (List.getElem?_eq_some_iff.mp hx).1
    have h2 : j < 1 := (List.getElem?_eq_some_iff.mp hy).1
    omega
  · have hz : k < 1 := (List.getElem?_eq_some_iff.mp hx).1
    rw [show k = 0 by omega] at hx
    cases hx
    exact h
theorem g_iald {n : Nat} {x : Int32} (C : Cx Γ p l s m args meth c cc nL own) (hM : HM Γ K M H) (o : RwOk k 0 n) (hi : i < mN M k) (q : Nat) (hx : x = nI q) (hq : q < n) (hn : n < 2 ^ 31) (hdg : decode cc pc = .ok (.iaload, 1))
    (kk : W p l e R s m args below meth c H locs cells slots Q (F0 m (pc + 1) ls (.int (mT M k q i) :: rest))) : W p l e R s m args below meth c H locs cells slots Q (F0 m pc ls (.int x :: .ref (K k i) :: rest)) := by
  subst hx
  refine va_iald C.1 C.2.1 C.2.2.2.2.2.2.1.2.1.1 (va_P.one (hM.row o hi)) 0 0 rfl rfl (vp_in_nI hq hn) hdg ?_
  rw [nI_clamp (by omega)]
  exact kk
theorem g_cald {n : Nat} {x : Int32} (C : Cx Γ p l s m args meth c cc nL own) (hM : HM Γ K M H) (o : RwOk k 1 n) (hi : i < mN M k) (q : Nat) (hx : x = nI q) (hq : q < n) (hn : n < 2 ^ 31) (hdg : decode cc pc = .ok (.caload, 1))
    (kk : W p l e R s m args below meth c H locs cells slots Q (F0 m (pc + 1) ls (.int (mT M k q i) :: rest))) : W p l e R s m args below meth c H locs cells slots Q (F0 m pc ls (.int x :: .ref (K k i) :: rest)) := by
  subst hx
  refine va_cald C.1 C.2.1 C.2.2.2.2.2.2.1.2.1.1 (va_P.one (hM.row o hi)) 0 1 rfl rfl (vp_in_nI hq hn) hdg ?_
  rw [nI_clamp (by omega)]
  exact kk
theorem g_zald {n : Nat} {x : Int32} (C : Cx Γ p l s m args meth c cc nL own) (hM : HM Γ K M H) (o : RwOk k 2 n) (hi : i < mN M k) (q : Nat) (hx : x = nI q) (hq : q < n) (hn : n < 2 ^ 31) (hdg : decode cc pc = .ok (.baload, 1))
    (kk : W p l e R s m args below meth c H locs cells slots Q (F0 m (pc + 1) ls (.int (mT M k q i) :: rest))) : W p l e R s m args below meth c H locs cells slots Q (F0 m pc ls (.int x :: .ref (K k i) :: rest)) := by
  subst hx
  refine va_zald C.1 C.2.1 C.2.2.2.2.2.2.1.2.1.1 (va_P.one (hM.row o hi)) 0 2 rfl rfl (vp_in_nI hq hn) hdg ?_
  rw [nI_clamp (by omega)]
  exact kk
theorem g_iast {n : Nat} {x y : Int32} (C : Cx Γ p l s m args meth c cc nL own) (hM : HM Γ K M H) (hS : va_S (gFree Γ) s.heap H locs) (o : RwOk k 0 n) (hi : i < mN M k) (q : Nat) (hx : x = nI q) (hq : q < n) (hn : n < 2 ^ 31) (hdg : decode cc pc = .ok (.iastore, 1))
    (kk : ∀ (H1 : Heap) (locs1 : List Loc), HM Γ K (sT M k q i y) H1 → va_S (gFree Γ) s.heap H1 locs1 → W p l e R s m args below meth c H1 locs1 cells slots Q (F0 m (pc + 1) ls rest)) : W p l e R s m args below meth c H locs cells slots Q (F0 m pc ls (.int y :: .int x :: .ref (K k i) :: rest)) := by
  subst hx
  have hK := C.2.2.2.2.2.2.1.2.1.1
  have hrow := hM.row o hi
  refine W.iast C.1 C.2.1 hrow ((hK.2 0 _ rfl).1 n (fun j => .int (mT M k j i))) (fun q => by cases q) (by show ¬ (nI q < 0 ∨ (arrV _ _ _).slots.size ≤ _); rw [arrV_size]; exact vp_in_nI hq hn) rfl rfl hdg fun H1 e1 z oq => ?_
  refine kk H1 _ (hM.rowT o.2.1 hi (fun M' => o.2.2 _ K M' i) ?_ oq) (hS.put z oq (hM.2.2.2.1 k i hi))
  show H1[K k i]? = some (vp_cell _ _)
  rw [e1, vp_cell_i, vp_cell_i, arrV_store, nI_clamp (by omega)]
  congr 2
  funext b
  by_cases hb : b = q
  · subst hb; simp [updV, upd]
  · simp [updV, upd, hb]
theorem g_cast {n : Nat} {x y : Int32} (C : Cx Γ p l s m args meth c cc nL own) (hM : HM Γ K M H) (hS : va_S (gFree Γ) s.heap H locs) (o : RwOk k 1 n) (hi : i < mN M k) (q : Nat) (hx : x = nI q) (hq : q < n) (hn : n < 2 ^ 31) (hy : narrow .char (.int y) = .int y) (hdg : decode cc pc = .ok (.castore, 1))
    (kk : ∀ (H1 : Heap) (locs1 : List Loc), HM Γ K (sT M k q i y) H1 → va_S (gFree Γ) s.heap H1 locs1 → W p l e R s m args below meth c H1 locs1 cells slots Q (F0 m (pc + 1) ls rest)) : W p l e R s m args below meth c H locs cells slots Q (F0 m pc ls (.int y :: .int x :: .ref (K k i) :: rest)) := by
  subst hx
  have hK := C.2.2.2.2.2.2.1.2.1.1
  have hrow := hM.row o hi
  refine W.cast C.1 C.2.1 hrow ((hK.2 1 _ rfl).1 n (fun j => .int (mT M k j i))) (fun q => by cases q) (by show ¬ (nI q < 0 ∨ (arrV _ _ _).slots.size ≤ _); rw [arrV_size]; exact vp_in_nI hq hn) rfl rfl hdg fun H1 e1 z oq => ?_
  refine kk H1 _ (hM.rowT o.2.1 hi (fun M' => o.2.2 _ K M' i) ?_ oq) (hS.put z oq (hM.2.2.2.1 k i hi))
  show H1[K k i]? = some (vp_cell _ _)
  rw [e1, vp_cell_i, vp_cell_i, arrV_store, nI_clamp (by omega)]
  congr 2
  funext b
  by_cases hb : b = q
  · subst hb; simp only [updV, upd, if_true]; exact hy
  · simp [updV, upd, hb]
theorem g_zast {n : Nat} {x y : Int32} (C : Cx Γ p l s m args meth c cc nL own) (hM : HM Γ K M H) (hS : va_S (gFree Γ) s.heap H locs) (o : RwOk k 2 n) (hi : i < mN M k) (q : Nat) (hx : x = nI q) (hq : q < n) (hn : n < 2 ^ 31) (hy : narrow .boolean (.int y) = .int y) (hdg : decode cc pc = .ok (.bastore, 1))
    (kk : ∀ (H1 : Heap) (locs1 : List Loc), HM Γ K (sT M k q i y) H1 → va_S (gFree Γ) s.heap H1 locs1 → W p l e R s m args below meth c H1 locs1 cells slots Q (F0 m (pc + 1) ls rest)) : W p l e R s m args below meth c H locs cells slots Q (F0 m pc ls (.int y :: .int x :: .ref (K k i) :: rest)) := by
  subst hx
  have hK := C.2.2.2.2.2.2.1.2.1.1
  have hrow := hM.row o hi
  refine W.zast C.1 C.2.1 hrow ((hK.2 2 _ rfl).1 n (fun j => .int (mT M k j i))) (fun q => by cases q) (by show ¬ (nI q < 0 ∨ (arrV _ _ _).slots.size ≤ _); rw [arrV_size]; exact vp_in_nI hq hn) rfl rfl hdg fun H1 e1 z oq => ?_
  refine kk H1 _ (hM.rowT o.2.1 hi (fun M' => o.2.2 _ K M' i) ?_ oq) (hS.put z oq (hM.2.2.2.1 k i hi))
  show H1[K k i]? = some (vp_cell _ _)
  rw [e1, vp_cell_i, vp_cell_i, arrV_store, nI_clamp (by omega)]
  congr 2
  funext b
  by_cases hb : b = q
  · subst hb; simp only [updV, upd, if_true]; exact hy
  · simp [updV, upd, hb]
/-- a row of objects -/
theorem g_aldR {n t d : Nat} {Cr : String} {x : Int32} (C : Cx Γ p l s m args meth c cc nL own) (hM : HM Γ K M H) (hk : isLs k = false) (hcel : celE (gA Γ) K M k i = .inl (gA Γ t, n, rE (fun j => some (K d j)))) (hty : (tysX Γ)[t]? = some (gA Γ t, .object Cr)) (hi : i < mN M k) (q : Nat) (hx : x = nI q) (hq : q < n) (hn : n < 2 ^ 31) (hdg : decode cc pc = .ok (.aaload, 1))
    (kk : W p l e R s m args below meth c H locs cells slots Q (F0 m (pc + 1) ls (.ref (K d q) :: rest))) : W p l e R s m args below meth c H locs cells slots Q (F0 m pc ls (.int x :: .ref (K k i) :: rest)) := by
  subst hx
  have h1 := hM.1 k i hi hk
  rw [hcel] at h1
  refine va_aldq C.1 C.2.1 C.2.2.2.2.2.2.1.2.1.1 (va_P.one h1) 0 t rfl hty (vp_in_nI hq hn) hdg ?_
  rw [nI_clamp (by omega)]
  exact kk
end FIELDS
