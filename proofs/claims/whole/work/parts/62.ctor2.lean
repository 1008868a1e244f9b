/-! the two large constructors -/
section RCTOR2
variable {p : Program} {l : Launch} {e : Env} {R : Room} {s : State} {m : MethodId} {args : Array Value} {below : List Frame} {meth : Method} {c : Code} {H : Heap} {locs : List Loc} {cells slots : Nat} {Q : State → Prop}
variable {cc : ByteArray} {nL : Nat} {own : String} {Γ : Gm} {A : Nat → Prop} {pc : Nat} {ls : Array Slot} {rest : List Value} {idx a : Nat}
theorem r_iastR {n : Nat} {f : Nat → Int32} {i x : Int32} (C : Cx Γ p l s m args meth c cc nL own) (h : va_at (gD Γ) clX (a, .inl (gA Γ 0, n, .inl f)) H) (hS : va_S A s.heap H locs) (hAa : A a) (hin : vp_in i n) (hdg : decode cc pc = .ok (.iastore, 1))
    (kk : ∀ (H1 : Heap) (locs1 : List Loc), va_at (gD Γ) clX (a, .inl (gA Γ 0, n, .inl (upd f i.toNatClampNeg x))) H1 → (∀ q : Nat, q ≠ a → H1[q]? = H[q]?) → H1.size = H.size → va_S A s.heap H1 locs1 → W p l e R s m args below meth c H1 locs1 cells slots Q (F0 m (pc + 1) ls rest)) : W p l e R s m args below meth c H locs cells slots Q (F0 m pc ls (.int x :: .int i :: .ref a :: rest)) := by
  have hK := C.2.2.2.2.2.2.1.2.1.1
  refine W.iast C.1 C.2.1 h ((hK.2 0 _ rfl).1 n (fun j => .int (f j))) (fun q => by cases q) (by show ¬ (i < 0 ∨ (arrV _ _ _).slots.size ≤ _); rw [arrV_size]; exact hin) rfl rfl hdg fun H1 e z oq => ?_
  refine kk H1 _ ?_ oq z (hS.put z oq hAa)
  show H1[a]? = some (vp_cell _ _)
  rw [e]
  rw [vp_cell_i, vp_cell_i, arrV_store]
  congr 2
  funext q
  by_cases hq : q = i.toNatClampNeg
  · subst hq
    simp [updV, upd]
  · simp [updV, upd, hq]
theorem r_newQ {t n : Nat} {Z : String} {x : Int32} (C : Cx Γ p l s m args meth c cc nL own) (hS : va_S A s.heap H locs) (hcl : Cond.classLink own idx Z ∈ lw_good) (hAO : va_AO Z s) (hty : (tysX Γ)[t]? = some (gA Γ t, .object Z)) (hn : x = nI n) (hn2 : n < 10000) (hcells : cells + 1 ≤ R.cells) (hslots : slots + n ≤ R.slots) (hdg : decode cc pc = .ok (.anewarray idx, 3))
    (kk : ∀ (H1 : Heap), H1.size = H.size + 1 → (∀ z : Nat, z < H.size → H1[z]? = H[z]?) → va_at (gD Γ) clX (H.size, .inl (gA Γ t, n, rE (fun _ => none))) H1 → va_S A s.heap H1 locs → W p l e R s m args below meth c H1 locs (cells + 1) (slots + n) Q (F0 m (pc + 3) ls (.ref H.size :: rest))) : W p l e R s m args below meth c H locs cells slots Q (F0 m pc ls (.int x :: rest)) := by
  subst hn
  obtain ⟨hx, hb, hml, hown, hts, hlocks, hCX, -⟩ := C
  obtain ⟨-, -, -, -, -, hRA⟩ := (hCX.2.1.1.2 t _ hty).2
  refine W.anew hx hb hown (hts _ hcl) (va_AO.use hAO) rfl hdg rfl (nI_pos (by omega)) (by rw [nI_clamp (by omega)]; omega) hcells (by rw [nI_clamp (by omega)]; exact hslots) fun cA kA comp f1 f2 f3 f4 => ?_
  have hcA : cA = gA Γ t := Option.some.inj (f1.symm.trans hRA)
  subst hcA
  rw [nI_clamp (by omega)]
  generalize hH1 : H.push ({ cls := gA Γ t, slots := Array.replicate n .null, vm := .none } : Cell) = H1
  have z1 : H1.size = H.size + 1 := by rw [← hH1, Array.size_push]
  have e1 : H1[H.size]? = some (arrV (gA Γ t) n (fun _ => .null)) := by rw [← hH1, Array.getElem?_push_size, ← arrV_new]
  have o1 : ∀ q : Nat, q < H.size → H1[q]? = H[q]? := fun q hq => by rw [← hH1, Array.getElem?_push, if_neg (Nat.ne_of_lt hq)]
  refine kk H1 z1 o1 ?_ ⟨Nat.le_trans hS.1 (by omega), fun z h1 h2 => (o1 z (Nat.lt_of_lt_of_le h1 hS.1)).trans (hS.2.1 z h1 h2), hS.2.2⟩
  show H1[H.size]? = some (vp_cell _ _)
  rw [vp_cell_q]
  exact e1
theorem r_astQ {t n ci v : Nat} {r : vw_C} {vs : List Value} {f : Nat → Option Nat} {i : Int32} (C : Cx Γ p l s m args meth c cc nL own) (h : va_at (gD Γ) clX (a, .inl (gA Γ t, n, rE f)) H) (hv : va_at (gD Γ) clX (v, .inr (ci, vs)) H) (hc : clX[ci]? = some r) (hty : (tysX Γ)[t]? = some (gA Γ t, .object r.1)) (hS : va_S A s.heap H locs) (hAa : A a) (hin : vp_in i n) (hdg : decode cc pc = .ok (.aastore, 1))
    (kk : ∀ (H1 : Heap) (locs1 : List Loc), va_at (gD Γ) clX (a, .inl (gA Γ t, n, rE (va_up f i.toNatClampNeg (some v)))) H1 → (∀ q : Nat, q ≠ a → H1[q]? = H[q]?) → H1.size = H.size → va_S A s.heap H1 locs1 → W p l e R s m args below meth c H1 locs1 cells slots Q (F0 m (pc + 1) ls rest)) : W p l e R s m args below meth c H locs cells slots Q (F0 m pc ls (.ref v :: .int i :: .ref a :: rest)) := by
  have hK := C.2.2.2.2.2.2.1.2.1.1
  have hlt : i.toNatClampNeg < n := Nat.not_le.mp fun q => hin (Or.inr q)
  have h0 : ¬ i < 0 := fun q => hin (Or.inl q)
  obtain ⟨r', hr', cellV, g1, g2, g3, -⟩ := hv
  have hcls := (hK.1 ci r hc).2
  obtain ⟨kA, comp, k1, k2, k3, -⟩ := (hK.2 t _ hty).2
  have hcomp : comp = (gD Γ).1 ci := Option.some.inj (k3.symm.trans hcls.1)
  subst hcomp
  obtain ⟨kC, hkC, -⟩ := hcls.2
  refine W.aast C.1 C.2.1 h (fun q h => by cases h) (fun h => by cases h) k1 k2 rfl hkC ⟨h0, by show _ < (arrV _ _ _).slots.size; rw [arrV_size]; exact hlt⟩ g1 (fun q h => by rw [g3] at h; cases h) (by rw [g2]; exact hkC) (by rw [g2]; exact va_assign hcls) rfl rfl hdg fun H1 e z oq => ?_
  refine kk H1 _ ?_ oq z (hS.put z oq hAa)
  show H1[a]? = some (vp_cell _ _)
  rw [e]
  rw [vp_cell_q, vp_cell_q, arrV_store]
  congr 2
  funext q
  by_cases hq : q = i.toNatClampNeg
  · subst hq
    simp [updV, va_up, va_rf]
  · simp [updV, va_up, hq]
theorem r_getR {k N : Nat} {Cn ref : String} {T : u_T} {ty0 : Nat → FieldType} {fs : List Value} {v : Value} (C : Cx Γ p l s m args meth c cc nL own) (o : CkOk k N Cn T ty0) (h : va_at (gD Γ) clX (a, .inr (k, fs)) H) (j : Nat) (hj : j < N) (hlk : Cond.fieldLink own idx ref (T j).2.1 (T j).2.2.1 ∈ lw_good) (hsame : ∀ x, s.fieldFound? (T j).1 (T j).2.1 (T j).2.2.1 = some x → s.fieldFound? ref (T j).2.1 (T j).2.2.1 = some x) (hv : fs[j]? = some v) (hdg : decode cc pc = .ok (.getfield idx, 3))
    (kk : W p l e R s m args below meth c H locs cells slots Q (F0 m (pc + 3) ls (v :: rest))) : W p l e R s m args below meth c H locs cells slots Q (F0 m pc ls (.ref a :: rest)) :=
  va_get (ref := ref) C.1 C.2.1 C.2.2.2.2.1 o.2.1 C.2.2.2.1 C.2.2.2.2.2.2.1.2.1.1 (va_P.one h) 0 rfl o.1 j hj (C.2.2.2.2.1 _ hlk) hsame hv hdg kk
end RCTOR2
/-- the model's rows, in the order in which they are made -/
def MoC (Γ : Gm) (cn : Nat → Nat → Int32) (j : Nat) : va_E := .inl (gA Γ (aTy (20 + j)), aLen (20 + j), .inl (cn j))
def MoAt (Γ : Gm) (cn : Nat → Nat → Int32) (N : Nat) (as : List Nat) (H : Heap) : Prop := (∀ j x, as[j]? = some x → N ≤ x ∧ va_at (gD Γ) clX (x, MoC Γ cn j) H) ∧ as.Pairwise (· < ·)
theorem MoAt.add {Γ : Gm} {cn : Nat → Nat → Int32} {N : Nat} {as : List Nat} {H H1 : Heap} (h : MoAt Γ cn N as H) (hN : N ≤ H.size) (ho : ∀ z : Nat, z < H.size → H1[z]? = H[z]?) {k : Nat} {E : va_E} (hk : as.length = k) (hE : MoC Γ cn k = E) (hc : va_at (gD Γ) clX (H.size, E) H1) : MoAt Γ cn N (as ++ [H.size]) H1 := by
  subst hk
  rw [← hE] at hc
  obtain ⟨h1, h2⟩ := h
  refine ⟨fun j x hx => ?_, List.pairwise_append.mpr ⟨h2, List.pairwise_singleton _ _, fun x hx y hy => ?_⟩⟩
  · by_cases c : j < as.length
    · rw [List.getElem?_append_left c] at hx
      exact ⟨(h1 j x hx).1, (h1 j x hx).2.kept (ho _ (h1 j x hx).2.lt)⟩
    · rw [List.getElem?_append_right (by omega)] at hx
      have hz : j - as.length < 1 := (List.getElem?_eq_some_iff.mp hx).1
      rw [show j - as.length = 0 by omega] at hx
      cases hx
      rw [show j = as.length by omega]
      exact ⟨hN, hc⟩
  · rw [List.mem_singleton.mp hy]
    obtain ⟨j, hj⟩ := List.getElem?_of_mem hx
    exact (h1 j x hj).2.lt
theorem MoAt.put {Γ : Gm} {cn : Nat → Nat → Int32} {N q : Nat} {as : List Nat} {H H1 : Heap} (h : MoAt Γ cn N as H) (hq : q < N) (ho : ∀ z : Nat, z ≠ q → H1[z]? = H[z]?) : MoAt Γ cn N as H1 :=
  ⟨fun j x hx => ⟨(h.1 j x hx).1, (h.1 j x hx).2.kept (ho _ (by have := (h.1 j x hx).1; omega))⟩, h.2⟩
theorem MoAt.set {Γ : Gm} {cn : Nat → Nat → Int32} {N j a : Nat} {f : Nat → Int32} {as : List Nat} {H H1 : Heap} (h : MoAt Γ cn N as H) (ha : as[j]? = some a) (ho : ∀ z : Nat, z ≠ a → H1[z]? = H[z]?) (hc : va_at (gD Γ) clX (a, .inl (gA Γ (aTy (20 + j)), aLen (20 + j), .inl f)) H1) : MoAt Γ (fun b => if b = j then f else cn b) N as H1 := by
  refine ⟨fun b x hx => ⟨(h.1 b x hx).1, ?_⟩, h.2⟩
  unfold MoC
  by_cases e : b = j
  · subst e
    dsimp only
    rw [if_pos rfl]
    rw [ha] at hx
    cases hx
    exact hc
  · dsimp only
    rw [if_neg e]
    refine (h.1 b x hx).2.kept (ho _ (fun z => ?_))
    subst z
    obtain ⟨l1, g1⟩ := List.getElem?_eq_some_iff.mp ha
    obtain ⟨l2, g2⟩ := List.getElem?_eq_some_iff.mp hx
    rcases Nat.lt_or_ge b j with c | c
    · have := List.pairwise_iff_getElem.mp h.2 b j l2 l1 c
      rw [g1, g2] at this
      exact Nat.lt_irrefl _ this
    · have := List.pairwise_iff_getElem.mp h.2 j b l1 l2 (by omega)
      rw [g1, g2] at this
      exact Nat.lt_irrefl _ this
theorem MoAt.cn {Γ : Gm} {cn cn2 : Nat → Nat → Int32} {N : Nat} {as : List Nat} {H : Heap} (h : MoAt Γ cn N as H) (e : ∀ j b, cn j b = cn2 j b) : MoAt Γ cn2 N as H := by
  rw [show cn2 = cn from by funext j b; exact (e j b).symm]
  exact h
def prF : Nat → Int32 := fun j => if j = 0 then 240 else if j = 1 then 120 else if j = 2 then 30 else 0
def moF (as : List Nat) : List Value := as.map Value.ref ++ [.int 0, .int 0, .int 0, .int 0, .int 0, .int 0, .int 0, .int 0, .int 0, .int 0, .long 0]
theorem MoC_0 {Γ : Gm} : MoC Γ (fun _ _ => 0) 0 = .inl (gA Γ 0, 8, .inl (fun _ => 0)) := rfl
theorem MoC_1 {Γ : Gm} : MoC Γ (fun _ _ => 0) 1 = .inl (gA Γ 0, 3, .inl (fun _ => 0)) := rfl
theorem MoC_2 {Γ : Gm} : MoC Γ (fun _ _ => 0) 2 = .inl (gA Γ 0, 80, .inl (fun _ => 0)) := rfl
theorem MoC_3 {Γ : Gm} : MoC Γ (fun _ _ => 0) 3 = .inl (gA Γ 0, 80, .inl (fun _ => 0)) := rfl
theorem MoC_4 {Γ : Gm} : MoC Γ (fun _ _ => 0) 4 = .inl (gA Γ 0, 40, .inl (fun _ => 0)) := rfl
theorem MoC_5 {Γ : Gm} : MoC Γ (fun _ _ => 0) 5 = .inl (gA Γ 0, 40, .inl (fun _ => 0)) := rfl
theorem MoC_6 {Γ : Gm} : MoC Γ (fun _ _ => 0) 6 = .inl (gA Γ 0, 40, .inl (fun _ => 0)) := rfl
theorem MoC_7 {Γ : Gm} : MoC Γ (fun _ _ => 0) 7 = .inl (gA Γ 0, 40, .inl (fun _ => 0)) := rfl
theorem MoC_8 {Γ : Gm} : MoC Γ (fun _ _ => 0) 8 = .inl (gA Γ 0, 40, .inl (fun _ => 0)) := rfl
theorem MoC_9 {Γ : Gm} : MoC Γ (fun _ _ => 0) 9 = .inl (gA Γ 0, 40, .inl (fun _ => 0)) := rfl
theorem MoC_10 {Γ : Gm} : MoC Γ (fun _ _ => 0) 10 = .inl (gA Γ 0, 40, .inl (fun _ => 0)) := rfl
theorem MoC_11 {Γ : Gm} : MoC Γ (fun _ _ => 0) 11 = .inl (gA Γ 0, 40, .inl (fun _ => 0)) := rfl
theorem MoC_12 {Γ : Gm} : MoC Γ (fun _ _ => 0) 12 = .inl (gA Γ 0, 40, .inl (fun _ => 0)) := rfl
theorem MoC_13 {Γ : Gm} : MoC Γ (fun _ _ => 0) 13 = .inl (gA Γ 1, 40, .inl (fun _ => 0)) := rfl
theorem MoC_14 {Γ : Gm} : MoC Γ (fun _ _ => 0) 14 = .inl (gA Γ 2, 40, .inl (fun _ => 0)) := rfl
theorem MoC_15 {Γ : Gm} : MoC Γ (fun _ _ => 0) 15 = .inl (gA Γ 2, 6, .inl (fun _ => 0)) := rfl
theorem MoC_16 {Γ : Gm} : MoC Γ (fun _ _ => 0) 16 = .inl (gA Γ 0, 6, .inl (fun _ => 0)) := rfl
theorem MoC_17 {Γ : Gm} : MoC Γ (fun _ _ => 0) 17 = .inl (gA Γ 0, 8, .inl (fun _ => 0)) := rfl
theorem MoC_18 {Γ : Gm} : MoC Γ (fun _ _ => 0) 18 = .inl (gA Γ 0, 48, .inl (fun _ => 0)) := rfl
set_option maxHeartbeats 4000000 in
set_option maxRecDepth 100000 in
theorem r_i7 {l : Launch} (hfl : l.stackTraces = false) (Γ : Gm) (N q : Nat) : RTc l Γ (fun z => z = q ∨ N ≤ z) yX7_init (wsO yX7_init cX7_init 1 none) 2 [.ref q] (fun H => H.size = N ∧ gB Γ ≤ q ∧ gB Γ ≤ N ∧ q < N ∧ va_at (gD Γ) clX (q, .inr (7, [.null, .null, .null, .null, .null, .null, .null, .null, .null, .null, .null, .null, .null, .null, .null, .null, .null, .null, .null, .int 0, .int 0, .int 0, .int 0, .int 0, .int 0, .int 0, .int 0, .int 0, .int 0, .long 0])) H) (fun v H => v = none ∧ ∃ as : List Nat, as.length = 19 ∧ MoAt Γ (fun j => if j = 1 then prF else fun _ => 0) N as H ∧ va_at (gD Γ) clX (q, .inr (7, moF as)) H) 19 700 := by
  refine rt_intro hfl (by decide) (Nat.le_of_ble_eq_true rfl) ?_
  intro p e s m args below meth c C hr hnm hP0 ls hl
  have hx := C.1
  have hb := C.2.1
  have hS : va_S (fun z => z = q ∨ N ≤ z) s.heap s.heap [] := va_S.rf
  have hl : lv_has ls 1 [(0, .ref q)] := hl
  obtain ⟨hN, hgq, hgN, hqN, h0⟩ := hP0
  have hm : MoAt Γ (fun _ _ => 0) N [] s.heap := ⟨fun j x h => absurd h (by simp), List.Pairwise.nil⟩
  have hz : N ≤ s.heap.size := Nat.le_of_eq hN.symm
  refine lv_aload_n hx hb dX7_init_0 rfl (lv_at hl 0 rfl) ?_
  refine g_obj C hl t_1297 dX7_init_1 rfl (Nat.le_of_ble_eq_true rfl) ?_
  refine lv_aload_n hx hb dX7_init_4 rfl (lv_at hl 0 rfl) ?_
  refine lv_bipush (v := 8) hx hb dX7_init_5 (by decide) ?_
  refine r_newA (atype := .int) (t := 0) (n := 8) (a0 := (8, .inl (fun _ => 0))) C hS t_59 rfl (fun _ h => nomatch h) (fun cA => rfl) rfl (by decide) (by show 1 ≤ 19; decide) (by show 8 ≤ 700; decide) dX7_init_7 (fun H1 hz1 ho1 ha1 hS => ?_)
  replace h0 := h0.kept (ho1 _ (Nat.lt_of_lt_of_le hqN hz))
  replace hm : MoAt Γ (fun _ _ => 0) N [s.heap.size] H1 := hm.add hz ho1 (k := 0) rfl MoC_0 ha1
  replace hz : N ≤ H1.size := by rw [hz1]; exact Nat.le_succ_of_le hz
  clear hz1 ho1 ha1
  refine r_putFi C ck_7 h0 hS (Or.inl rfl) 0 (by decide) rfl rfl hnm rfl rfl rfl dX7_init_9 t_1298 (fun x h => h) (fun H2 locs h0 oq hz1 hS => ?_)
  replace h0 : va_at (gD Γ) clX (q, .inr (7, [.ref s.heap.size, .null, .null, .null, .null, .null, .null, .null, .null, .null, .null, .null, .null, .null, .null, .null, .null, .null, .null, .int 0, .int 0, .int 0, .int 0, .int 0, .int 0, .int 0, .int 0, .int 0, .int 0, .long 0])) H2 := h0
  replace hm := hm.put hqN oq
  replace hz : N ≤ H2.size := by rw [hz1]; exact hz
  clear hz1 oq
  generalize s.heap.size = a0 at h0 hm
  refine lv_aload_n hx hb dX7_init_12 rfl (lv_at hl 0 rfl) ?_
  refine lv_iconst (v := 3) hx hb dX7_init_13 (by decide) ?_
  refine r_newA (atype := .int) (t := 0) (n := 3) (a0 := (3, .inl (fun _ => 0))) C hS t_59 rfl (fun _ h => nomatch h) (fun cA => rfl) rfl (by decide) (by show 2 ≤ 19; decide) (by show 11 ≤ 700; decide) dX7_init_14 (fun H3 hz1 ho1 ha1 hS => ?_)
  replace h0 := h0.kept (ho1 _ (Nat.lt_of_lt_of_le hqN hz))
  replace hm : MoAt Γ (fun _ _ => 0) N [a0, H2.size] H3 := hm.add hz ho1 (k := 1) rfl MoC_1 ha1
  replace hz : N ≤ H3.size := by rw [hz1]; exact Nat.le_succ_of_le hz
  clear hz1 ho1 ha1
  refine r_putFi C ck_7 h0 hS (Or.inl rfl) 1 (by decide) rfl rfl hnm rfl rfl rfl dX7_init_16 t_1299 (fun x h => h) (fun H4 locs h0 oq hz1 hS => ?_)
  replace h0 : va_at (gD Γ) clX (q, .inr (7, [.ref a0, .ref H2.size, .null, .null, .null, .null, .null, .null, .null, .null, .null, .null, .null, .null, .null, .null, .null, .null, .null, .int 0, .int 0, .int 0, .int 0, .int 0, .int 0, .int 0, .int 0, .int 0, .int 0, .long 0])) H4 := h0
  replace hm := hm.put hqN oq
  replace hz : N ≤ H4.size := by rw [hz1]; exact hz
  clear hz1 oq
  generalize H2.size = a1 at h0 hm
  refine lv_aload_n hx hb dX7_init_19 rfl (lv_at hl 0 rfl) ?_
  refine lv_bipush (v := 80) hx hb dX7_init_20 (by decide) ?_
  refine r_newA (atype := .int) (t := 0) (n := 80) (a0 := (80, .inl (fun _ => 0))) C hS t_59 rfl (fun _ h => nomatch h) (fun cA => rfl) rfl (by decide) (by show 3 ≤ 19; decide) (by show 91 ≤ 700; decide) dX7_init_22 (fun H5 hz1 ho1 ha1 hS => ?_)
  replace h0 := h0.kept (ho1 _ (Nat.lt_of_lt_of_le hqN hz))
  replace hm : MoAt Γ (fun _ _ => 0) N [a0, a1, H4.size] H5 := hm.add hz ho1 (k := 2) rfl MoC_2 ha1
  replace hz : N ≤ H5.size := by rw [hz1]; exact Nat.le_succ_of_le hz
  clear hz1 ho1 ha1
  refine r_putFi C ck_7 h0 hS (Or.inl rfl) 2 (by decide) rfl rfl hnm rfl rfl rfl dX7_init_24 t_1300 (fun x h => h) (fun H6 locs h0 oq hz1 hS => ?_)
  replace h0 : va_at (gD Γ) clX (q, .inr (7, [.ref a0, .ref a1, .ref H4.size, .null, .null, .null, .null, .null, .null, .null, .null, .null, .null, .null, .null, .null, .null, .null, .null, .int 0, .int 0, .int 0, .int 0, .int 0, .int 0, .int 0, .int 0, .int 0, .int 0, .long 0])) H6 := h0
  replace hm := hm.put hqN oq
  replace hz : N ≤ H6.size := by rw [hz1]; exact hz
  clear hz1 oq
  generalize H4.size = a2 at h0 hm
  refine lv_aload_n hx hb dX7_init_27 rfl (lv_at hl 0 rfl) ?_
  refine lv_bipush (v := 80) hx hb dX7_init_28 (by decide) ?_
  refine r_newA (atype := .int) (t := 0) (n := 80) (a0 := (80, .inl (fun _ => 0))) C hS t_59 rfl (fun _ h => nomatch h) (fun cA => rfl) rfl (by decide) (by show 4 ≤ 19; decide) (by show 171 ≤ 700; decide) dX7_init_30 (fun H7 hz1 ho1 ha1 hS => ?_)
  replace h0 := h0.kept (ho1 _ (Nat.lt_of_lt_of_le hqN hz))
  replace hm : MoAt Γ (fun _ _ => 0) N [a0, a1, a2, H6.size] H7 := hm.add hz ho1 (k := 3) rfl MoC_3 ha1
  replace hz : N ≤ H7.size := by rw [hz1]; exact Nat.le_succ_of_le hz
  clear hz1 ho1 ha1
  refine r_putFi C ck_7 h0 hS (Or.inl rfl) 3 (by decide) rfl rfl hnm rfl rfl rfl dX7_init_32 t_1301 (fun x h => h) (fun H8 locs h0 oq hz1 hS => ?_)
  replace h0 : va_at (gD Γ) clX (q, .inr (7, [.ref a0, .ref a1, .ref a2, .ref H6.size, .null, .null, .null, .null, .null, .null, .null, .null, .null, .null, .null, .null, .null, .null, .null, .int 0, .int 0, .int 0, .int 0, .int 0, .int 0, .int 0, .int 0, .int 0, .int 0, .long 0])) H8 := h0
  replace hm := hm.put hqN oq
  replace hz : N ≤ H8.size := by rw [hz1]; exact hz
  clear hz1 oq
  generalize H6.size = a3 at h0 hm
  refine lv_aload_n hx hb dX7_init_35 rfl (lv_at hl 0 rfl) ?_
  refine lv_bipush (v := 40) hx hb dX7_init_36 (by decide) ?_
  refine r_newA (atype := .int) (t := 0) (n := 40) (a0 := (40, .inl (fun _ => 0))) C hS t_59 rfl (fun _ h => nomatch h) (fun cA => rfl) rfl (by decide) (by show 5 ≤ 19; decide) (by show 211 ≤ 700; decide) dX7_init_38 (fun H9 hz1 ho1 ha1 hS => ?_)
  replace h0 := h0.kept (ho1 _ (Nat.lt_of_lt_of_le hqN hz))
  replace hm : MoAt Γ (fun _ _ => 0) N [a0, a1, a2, a3, H8.size] H9 := hm.add hz ho1 (k := 4) rfl MoC_4 ha1
  replace hz : N ≤ H9.size := by rw [hz1]; exact Nat.le_succ_of_le hz
  clear hz1 ho1 ha1
  refine r_putFi C ck_7 h0 hS (Or.inl rfl) 4 (by decide) rfl rfl hnm rfl rfl rfl dX7_init_40 t_1302 (fun x h => h) (fun H10 locs h0 oq hz1 hS => ?_)
  replace h0 : va_at (gD Γ) clX (q, .inr (7, [.ref a0, .ref a1, .ref a2, .ref a3, .ref H8.size, .null, .null, .null, .null, .null, .null, .null, .null, .null, .null, .null, .null, .null, .null, .int 0, .int 0, .int 0, .int 0, .int 0, .int 0, .int 0, .int 0, .int 0, .int 0, .long 0])) H10 := h0
  replace hm := hm.put hqN oq
  replace hz : N ≤ H10.size := by rw [hz1]; exact hz
  clear hz1 oq
  generalize H8.size = a4 at h0 hm
  refine lv_aload_n hx hb dX7_init_43 rfl (lv_at hl 0 rfl) ?_
  refine lv_bipush (v := 40) hx hb dX7_init_44 (by decide) ?_
  refine r_newA (atype := .int) (t := 0) (n := 40) (a0 := (40, .inl (fun _ => 0))) C hS t_59 rfl (fun _ h => nomatch h) (fun cA => rfl) rfl (by decide) (by show 6 ≤ 19; decide) (by show 251 ≤ 700; decide) dX7_init_46 (fun H11 hz1 ho1 ha1 hS => ?_)
  replace h0 := h0.kept (ho1 _ (Nat.lt_of_lt_of_le hqN hz))
  replace hm : MoAt Γ (fun _ _ => 0) N [a0, a1, a2, a3, a4, H10.size] H11 := hm.add hz ho1 (k := 5) rfl MoC_5 ha1
  replace hz : N ≤ H11.size := by rw [hz1]; exact Nat.le_succ_of_le hz
  clear hz1 ho1 ha1
  refine r_putFi C ck_7 h0 hS (Or.inl rfl) 5 (by decide) rfl rfl hnm rfl rfl rfl dX7_init_48 t_1303 (fun x h => h) (fun H12 locs h0 oq hz1 hS => ?_)
  replace h0 : va_at (gD Γ) clX (q, .inr (7, [.ref a0, .ref a1, .ref a2, .ref a3, .ref a4, .ref H10.size, .null, .null, .null, .null, .null, .null, .null, .null, .null, .null, .null, .null, .null, .int 0, .int 0, .int 0, .int 0, .int 0, .int 0, .int 0, .int 0, .int 0, .int 0, .long 0])) H12 := h0
  replace hm := hm.put hqN oq
  replace hz : N ≤ H12.size := by rw [hz1]; exact hz
  clear hz1 oq
  generalize H10.size = a5 at h0 hm
  refine lv_aload_n hx hb dX7_init_51 rfl (lv_at hl 0 rfl) ?_
  refine lv_bipush (v := 40) hx hb dX7_init_52 (by decide) ?_
  refine r_newA (atype := .int) (t := 0) (n := 40) (a0 := (40, .inl (fun _ => 0))) C hS t_59 rfl (fun _ h => nomatch h) (fun cA => rfl) rfl (by decide) (by show 7 ≤ 19; decide) (by show 291 ≤ 700; decide) dX7_init_54 (fun H13 hz1 ho1 ha1 hS => ?_)
  replace h0 := h0.kept (ho1 _ (Nat.lt_of_lt_of_le hqN hz))
  replace hm : MoAt Γ (fun _ _ => 0) N [a0, a1, a2, a3, a4, a5, H12.size] H13 := hm.add hz ho1 (k := 6) rfl MoC_6 ha1
  replace hz : N ≤ H13.size := by rw [hz1]; exact Nat.le_succ_of_le hz
  clear hz1 ho1 ha1
  refine r_putFi C ck_7 h0 hS (Or.inl rfl) 6 (by decide) rfl rfl hnm rfl rfl rfl dX7_init_56 t_1304 (fun x h => h) (fun H14 locs h0 oq hz1 hS => ?_)
  replace h0 : va_at (gD Γ) clX (q, .inr (7, [.ref a0, .ref a1, .ref a2, .ref a3, .ref a4, .ref a5, .ref H12.size, .null, .null, .null, .null, .null, .null, .null, .null, .null, .null, .null, .null, .int 0, .int 0, .int 0, .int 0, .int 0, .int 0, .int 0, .int 0, .int 0, .int 0, .long 0])) H14 := h0
  replace hm := hm.put hqN oq
  replace hz : N ≤ H14.size := by rw [hz1]; exact hz
  clear hz1 oq
  generalize H12.size = a6 at h0 hm
  refine lv_aload_n hx hb dX7_init_59 rfl (lv_at hl 0 rfl) ?_
  refine lv_bipush (v := 40) hx hb dX7_init_60 (by decide) ?_
  refine r_newA (atype := .int) (t := 0) (n := 40) (a0 := (40, .inl (fun _ => 0))) C hS t_59 rfl (fun _ h => nomatch h) (fun cA => rfl) rfl (by decide) (by show 8 ≤ 19; decide) (by show 331 ≤ 700; decide) dX7_init_62 (fun H15 hz1 ho1 ha1 hS => ?_)
  replace h0 := h0.kept (ho1 _ (Nat.lt_of_lt_of_le hqN hz))
  replace hm : MoAt Γ (fun _ _ => 0) N [a0, a1, a2, a3, a4, a5, a6, H14.size] H15 := hm.add hz ho1 (k := 7) rfl MoC_7 ha1
  replace hz : N ≤ H15.size := by rw [hz1]; exact Nat.le_succ_of_le hz
  clear hz1 ho1 ha1
  refine r_putFi C ck_7 h0 hS (Or.inl rfl) 7 (by decide) rfl rfl hnm rfl rfl rfl dX7_init_64 t_1305 (fun x h => h) (fun H16 locs h0 oq hz1 hS => ?_)
  replace h0 : va_at (gD Γ) clX (q, .inr (7, [.ref a0, .ref a1, .ref a2, .ref a3, .ref a4, .ref a5, .ref a6, .ref H14.size, .null, .null, .null, .null, .null, .null, .null, .null, .null, .null, .null, .int 0, .int 0, .int 0, .int 0, .int 0, .int 0, .int 0, .int 0, .int 0, .int 0, .long 0])) H16 := h0
  replace hm := hm.put hqN oq
  replace hz : N ≤ H16.size := by rw [hz1]; exact hz
  clear hz1 oq
  generalize H14.size = a7 at h0 hm
  refine lv_aload_n hx hb dX7_init_67 rfl (lv_at hl 0 rfl) ?_
  refine lv_bipush (v := 40) hx hb dX7_init_68 (by decide) ?_
  refine r_newA (atype := .int) (t := 0) (n := 40) (a0 := (40, .inl (fun _ => 0))) C hS t_59 rfl (fun _ h => nomatch h) (fun cA => rfl) rfl (by decide) (by show 9 ≤ 19; decide) (by show 371 ≤ 700; decide) dX7_init_70 (fun H17 hz1 ho1 ha1 hS => ?_)
  replace h0 := h0.kept (ho1 _ (Nat.lt_of_lt_of_le hqN hz))
  replace hm : MoAt Γ (fun _ _ => 0) N [a0, a1, a2, a3, a4, a5, a6, a7, H16.size] H17 := hm.add hz ho1 (k := 8) rfl MoC_8 ha1
  replace hz : N ≤ H17.size := by rw [hz1]; exact Nat.le_succ_of_le hz
  clear hz1 ho1 ha1
  refine r_putFi C ck_7 h0 hS (Or.inl rfl) 8 (by decide) rfl rfl hnm rfl rfl rfl dX7_init_72 t_1306 (fun x h => h) (fun H18 locs h0 oq hz1 hS => ?_)
  replace h0 : va_at (gD Γ) clX (q, .inr (7, [.ref a0, .ref a1, .ref a2, .ref a3, .ref a4, .ref a5, .ref a6, .ref a7, .ref H16.size, .null, .null, .null, .null, .null, .null, .null, .null, .null, .null, .int 0, .int 0, .int 0, .int 0, .int 0, .int 0, .int 0, .int 0, .int 0, .int 0, .long 0])) H18 := h0
  replace hm := hm.put hqN oq
  replace hz : N ≤ H18.size := by rw [hz1]; exact hz
  clear hz1 oq
  generalize H16.size = a8 at h0 hm
  refine lv_aload_n hx hb dX7_init_75 rfl (lv_at hl 0 rfl) ?_
  refine lv_bipush (v := 40) hx hb dX7_init_76 (by decide) ?_
  refine r_newA (atype := .int) (t := 0) (n := 40) (a0 := (40, .inl (fun _ => 0))) C hS t_59 rfl (fun _ h => nomatch h) (fun cA => rfl) rfl (by decide) (by show 10 ≤ 19; decide) (by show 411 ≤ 700; decide) dX7_init_78 (fun H19 hz1 ho1 ha1 hS => ?_)
  replace h0 := h0.kept (ho1 _ (Nat.lt_of_lt_of_le hqN hz))
  replace hm : MoAt Γ (fun _ _ => 0) N [a0, a1, a2, a3, a4, a5, a6, a7, a8, H18.size] H19 := hm.add hz ho1 (k := 9) rfl MoC_9 ha1
  replace hz : N ≤ H19.size := by rw [hz1]; exact Nat.le_succ_of_le hz
  clear hz1 ho1 ha1
  refine r_putFi C ck_7 h0 hS (Or.inl rfl) 9 (by decide) rfl rfl hnm rfl rfl rfl dX7_init_80 t_1307 (fun x h => h) (fun H20 locs h0 oq hz1 hS => ?_)
  replace h0 : va_at (gD Γ) clX (q, .inr (7, [.ref a0, .ref a1, .ref a2, .ref a3, .ref a4, .ref a5, .ref a6, .ref a7, .ref a8, .ref H18.size, .null, .null, .null, .null, .null, .null, .null, .null, .null, .int 0, .int 0, .int 0, .int 0, .int 0, .int 0, .int 0, .int 0, .int 0, .int 0, .long 0])) H20 := h0
  replace hm := hm.put hqN oq
  replace hz : N ≤ H20.size := by rw [hz1]; exact hz
  clear hz1 oq
  generalize H18.size = a9 at h0 hm
  refine lv_aload_n hx hb dX7_init_83 rfl (lv_at hl 0 rfl) ?_
  refine lv_bipush (v := 40) hx hb dX7_init_84 (by decide) ?_
  refine r_newA (atype := .int) (t := 0) (n := 40) (a0 := (40, .inl (fun _ => 0))) C hS t_59 rfl (fun _ h => nomatch h) (fun cA => rfl) rfl (by decide) (by show 11 ≤ 19; decide) (by show 451 ≤ 700; decide) dX7_init_86 (fun H21 hz1 ho1 ha1 hS => ?_)
  replace h0 := h0.kept (ho1 _ (Nat.lt_of_lt_of_le hqN hz))
  replace hm : MoAt Γ (fun _ _ => 0) N [a0, a1, a2, a3, a4, a5, a6, a7, a8, a9, H20.size] H21 := hm.add hz ho1 (k := 10) rfl MoC_10 ha1
  replace hz : N ≤ H21.size := by rw [hz1]; exact Nat.le_succ_of_le hz
  clear hz1 ho1 ha1
  refine r_putFi C ck_7 h0 hS (Or.inl rfl) 10 (by decide) rfl rfl hnm rfl rfl rfl dX7_init_88 t_1308 (fun x h => h) (fun H22 locs h0 oq hz1 hS => ?_)
  replace h0 : va_at (gD Γ) clX (q, .inr (7, [.ref a0, .ref a1, .ref a2, .ref a3, .ref a4, .ref a5, .ref a6, .ref a7, .ref a8, .ref a9, .ref H20.size, .null, .null, .null, .null, .null, .null, .null, .null, .int 0, .int 0, .int 0, .int 0, .int 0, .int 0, .int 0, .int 0, .int 0, .int 0, .long 0])) H22 := h0
  replace hm := hm.put hqN oq
  replace hz : N ≤ H22.size := by rw [hz1]; exact hz
  clear hz1 oq
  generalize H20.size = a10 at h0 hm
  refine lv_aload_n hx hb dX7_init_91 rfl (lv_at hl 0 rfl) ?_
  refine lv_bipush (v := 40) hx hb dX7_init_92 (by decide) ?_
  refine r_newA (atype := .int) (t := 0) (n := 40) (a0 := (40, .inl (fun _ => 0))) C hS t_59 rfl (fun _ h => nomatch h) (fun cA => rfl) rfl (by decide) (by show 12 ≤ 19; decide) (by show 491 ≤ 700; decide) dX7_init_94 (fun H23 hz1 ho1 ha1 hS => ?_)
  replace h0 := h0.kept (ho1 _ (Nat.lt_of_lt_of_le hqN hz))
  replace hm : MoAt Γ (fun _ _ => 0) N [a0, a1, a2, a3, a4, a5, a6, a7, a8, a9, a10, H22.size] H23 := hm.add hz ho1 (k := 11) rfl MoC_11 ha1
  replace hz : N ≤ H23.size := by rw [hz1]; exact Nat.le_succ_of_le hz
  clear hz1 ho1 ha1
  refine r_putFi C ck_7 h0 hS (Or.inl rfl) 11 (by decide) rfl rfl hnm rfl rfl rfl dX7_init_96 t_1309 (fun x h => h) (fun H24 locs h0 oq hz1 hS => ?_)
  replace h0 : va_at (gD Γ) clX (q, .inr (7, [.ref a0, .ref a1, .ref a2, .ref a3, .ref a4, .ref a5, .ref a6, .ref a7, .ref a8, .ref a9, .ref a10, .ref H22.size, .null, .null, .null, .null, .null, .null, .null, .int 0, .int 0, .int 0, .int 0, .int 0, .int 0, .int 0, .int 0, .int 0, .int 0, .long 0])) H24 := h0
  replace hm := hm.put hqN oq
  replace hz : N ≤ H24.size := by rw [hz1]; exact hz
  clear hz1 oq
  generalize H22.size = a11 at h0 hm
  refine lv_aload_n hx hb dX7_init_99 rfl (lv_at hl 0 rfl) ?_
  refine lv_bipush (v := 40) hx hb dX7_init_100 (by decide) ?_
  refine r_newA (atype := .int) (t := 0) (n := 40) (a0 := (40, .inl (fun _ => 0))) C hS t_59 rfl (fun _ h => nomatch h) (fun cA => rfl) rfl (by decide) (by show 13 ≤ 19; decide) (by show 531 ≤ 700; decide) dX7_init_102 (fun H25 hz1 ho1 ha1 hS => ?_)
  replace h0 := h0.kept (ho1 _ (Nat.lt_of_lt_of_le hqN hz))
  replace hm : MoAt Γ (fun _ _ => 0) N [a0, a1, a2, a3, a4, a5, a6, a7, a8, a9, a10, a11, H24.size] H25 := hm.add hz ho1 (k := 12) rfl MoC_12 ha1
  replace hz : N ≤ H25.size := by rw [hz1]; exact Nat.le_succ_of_le hz
  clear hz1 ho1 ha1
  refine r_putFi C ck_7 h0 hS (Or.inl rfl) 12 (by decide) rfl rfl hnm rfl rfl rfl dX7_init_104 t_1310 (fun x h => h) (fun H26 locs h0 oq hz1 hS => ?_)
  replace h0 : va_at (gD Γ) clX (q, .inr (7, [.ref a0, .ref a1, .ref a2, .ref a3, .ref a4, .ref a5, .ref a6, .ref a7, .ref a8, .ref a9, .ref a10, .ref a11, .ref H24.size, .null, .null, .null, .null, .null, .null, .int 0, .int 0, .int 0, .int 0, .int 0, .int 0, .int 0, .int 0, .int 0, .int 0, .long 0])) H26 := h0
  replace hm := hm.put hqN oq
  replace hz : N ≤ H26.size := by rw [hz1]; exact hz
  clear hz1 oq
  generalize H24.size = a12 at h0 hm
  refine lv_aload_n hx hb dX7_init_107 rfl (lv_at hl 0 rfl) ?_
  refine lv_bipush (v := 40) hx hb dX7_init_108 (by decide) ?_
  refine r_newA (atype := .char) (t := 1) (n := 40) (a0 := (40, .inl (fun _ => 0))) C hS t_1389 rfl (fun _ h => nomatch h) (fun cA => rfl) rfl (by decide) (by show 14 ≤ 19; decide) (by show 571 ≤ 700; decide) dX7_init_110 (fun H27 hz1 ho1 ha1 hS => ?_)
  replace h0 := h0.kept (ho1 _ (Nat.lt_of_lt_of_le hqN hz))
  replace hm : MoAt Γ (fun _ _ => 0) N [a0, a1, a2, a3, a4, a5, a6, a7, a8, a9, a10, a11, a12, H26.size] H27 := hm.add hz ho1 (k := 13) rfl MoC_13 ha1
  replace hz : N ≤ H27.size := by rw [hz1]; exact Nat.le_succ_of_le hz
  clear hz1 ho1 ha1
  refine r_putFi C ck_7 h0 hS (Or.inl rfl) 13 (by decide) rfl rfl hnm rfl rfl rfl dX7_init_112 t_1311 (fun x h => h) (fun H28 locs h0 oq hz1 hS => ?_)
  replace h0 : va_at (gD Γ) clX (q, .inr (7, [.ref a0, .ref a1, .ref a2, .ref a3, .ref a4, .ref a5, .ref a6, .ref a7, .ref a8, .ref a9, .ref a10, .ref a11, .ref a12, .ref H26.size, .null, .null, .null, .null, .null, .int 0, .int 0, .int 0, .int 0, .int 0, .int 0, .int 0, .int 0, .int 0, .int 0, .long 0])) H28 := h0
  replace hm := hm.put hqN oq
  replace hz : N ≤ H28.size := by rw [hz1]; exact hz
  clear hz1 oq
  generalize H26.size = a13 at h0 hm
  refine lv_aload_n hx hb dX7_init_115 rfl (lv_at hl 0 rfl) ?_
  refine lv_bipush (v := 40) hx hb dX7_init_116 (by decide) ?_
  refine r_newA (atype := .boolean) (t := 2) (n := 40) (a0 := (40, .inl (fun _ => 0))) C hS t_1390 rfl (fun _ h => nomatch h) (fun cA => rfl) rfl (by decide) (by show 15 ≤ 19; decide) (by show 611 ≤ 700; decide) dX7_init_118 (fun H29 hz1 ho1 ha1 hS => ?_)
  replace h0 := h0.kept (ho1 _ (Nat.lt_of_lt_of_le hqN hz))
  replace hm : MoAt Γ (fun _ _ => 0) N [a0, a1, a2, a3, a4, a5, a6, a7, a8, a9, a10, a11, a12, a13, H28.size] H29 := hm.add hz ho1 (k := 14) rfl MoC_14 ha1
  replace hz : N ≤ H29.size := by rw [hz1]; exact Nat.le_succ_of_le hz
  clear hz1 ho1 ha1
  refine r_putFi C ck_7 h0 hS (Or.inl rfl) 14 (by decide) rfl rfl hnm rfl rfl rfl dX7_init_120 t_1312 (fun x h => h) (fun H30 locs h0 oq hz1 hS => ?_)
  replace h0 : va_at (gD Γ) clX (q, .inr (7, [.ref a0, .ref a1, .ref a2, .ref a3, .ref a4, .ref a5, .ref a6, .ref a7, .ref a8, .ref a9, .ref a10, .ref a11, .ref a12, .ref a13, .ref H28.size, .null, .null, .null, .null, .int 0, .int 0, .int 0, .int 0, .int 0, .int 0, .int 0, .int 0, .int 0, .int 0, .long 0])) H30 := h0
  replace hm := hm.put hqN oq
  replace hz : N ≤ H30.size := by rw [hz1]; exact hz
  clear hz1 oq
  generalize H28.size = a14 at h0 hm
  refine lv_aload_n hx hb dX7_init_123 rfl (lv_at hl 0 rfl) ?_
  refine lv_bipush (v := 6) hx hb dX7_init_124 (by decide) ?_
  refine r_newA (atype := .boolean) (t := 2) (n := 6) (a0 := (6, .inl (fun _ => 0))) C hS t_1390 rfl (fun _ h => nomatch h) (fun cA => rfl) rfl (by decide) (by show 16 ≤ 19; decide) (by show 617 ≤ 700; decide) dX7_init_126 (fun H31 hz1 ho1 ha1 hS => ?_)
  replace h0 := h0.kept (ho1 _ (Nat.lt_of_lt_of_le hqN hz))
  replace hm : MoAt Γ (fun _ _ => 0) N [a0, a1, a2, a3, a4, a5, a6, a7, a8, a9, a10, a11, a12, a13, a14, H30.size] H31 := hm.add hz ho1 (k := 15) rfl MoC_15 ha1
  replace hz : N ≤ H31.size := by rw [hz1]; exact Nat.le_succ_of_le hz
  clear hz1 ho1 ha1
  refine r_putFi C ck_7 h0 hS (Or.inl rfl) 15 (by decide) rfl rfl hnm rfl rfl rfl dX7_init_128 t_1313 (fun x h => h) (fun H32 locs h0 oq hz1 hS => ?_)
  replace h0 : va_at (gD Γ) clX (q, .inr (7, [.ref a0, .ref a1, .ref a2, .ref a3, .ref a4, .ref a5, .ref a6, .ref a7, .ref a8, .ref a9, .ref a10, .ref a11, .ref a12, .ref a13, .ref a14, .ref H30.size, .null, .null, .null, .int 0, .int 0, .int 0, .int 0, .int 0, .int 0, .int 0, .int 0, .int 0, .int 0, .long 0])) H32 := h0
  replace hm := hm.put hqN oq
  replace hz : N ≤ H32.size := by rw [hz1]; exact hz
  clear hz1 oq
  generalize H30.size = a15 at h0 hm
  refine lv_aload_n hx hb dX7_init_131 rfl (lv_at hl 0 rfl) ?_
  refine lv_bipush (v := 6) hx hb dX7_init_132 (by decide) ?_
  refine r_newA (atype := .int) (t := 0) (n := 6) (a0 := (6, .inl (fun _ => 0))) C hS t_59 rfl (fun _ h => nomatch h) (fun cA => rfl) rfl (by decide) (by show 17 ≤ 19; decide) (by show 623 ≤ 700; decide) dX7_init_134 (fun H33 hz1 ho1 ha1 hS => ?_)
  replace h0 := h0.kept (ho1 _ (Nat.lt_of_lt_of_le hqN hz))
  replace hm : MoAt Γ (fun _ _ => 0) N [a0, a1, a2, a3, a4, a5, a6, a7, a8, a9, a10, a11, a12, a13, a14, a15, H32.size] H33 := hm.add hz ho1 (k := 16) rfl MoC_16 ha1
  replace hz : N ≤ H33.size := by rw [hz1]; exact Nat.le_succ_of_le hz
  clear hz1 ho1 ha1
  refine r_putFi C ck_7 h0 hS (Or.inl rfl) 16 (by decide) rfl rfl hnm rfl rfl rfl dX7_init_136 t_1314 (fun x h => h) (fun H34 locs h0 oq hz1 hS => ?_)
  replace h0 : va_at (gD Γ) clX (q, .inr (7, [.ref a0, .ref a1, .ref a2, .ref a3, .ref a4, .ref a5, .ref a6, .ref a7, .ref a8, .ref a9, .ref a10, .ref a11, .ref a12, .ref a13, .ref a14, .ref a15, .ref H32.size, .null, .null, .int 0, .int 0, .int 0, .int 0, .int 0, .int 0, .int 0, .int 0, .int 0, .int 0, .long 0])) H34 := h0
  replace hm := hm.put hqN oq
  replace hz : N ≤ H34.size := by rw [hz1]; exact hz
  clear hz1 oq
  generalize H32.size = a16 at h0 hm
  refine lv_aload_n hx hb dX7_init_139 rfl (lv_at hl 0 rfl) ?_
  refine lv_bipush (v := 8) hx hb dX7_init_140 (by decide) ?_
  refine r_newA (atype := .int) (t := 0) (n := 8) (a0 := (8, .inl (fun _ => 0))) C hS t_59 rfl (fun _ h => nomatch h) (fun cA => rfl) rfl (by decide) (by show 18 ≤ 19; decide) (by show 631 ≤ 700; decide) dX7_init_142 (fun H35 hz1 ho1 ha1 hS => ?_)
  replace h0 := h0.kept (ho1 _ (Nat.lt_of_lt_of_le hqN hz))
  replace hm : MoAt Γ (fun _ _ => 0) N [a0, a1, a2, a3, a4, a5, a6, a7, a8, a9, a10, a11, a12, a13, a14, a15, a16, H34.size] H35 := hm.add hz ho1 (k := 17) rfl MoC_17 ha1
  replace hz : N ≤ H35.size := by rw [hz1]; exact Nat.le_succ_of_le hz
  clear hz1 ho1 ha1
  refine r_putFi C ck_7 h0 hS (Or.inl rfl) 17 (by decide) rfl rfl hnm rfl rfl rfl dX7_init_144 t_1315 (fun x h => h) (fun H36 locs h0 oq hz1 hS => ?_)
  replace h0 : va_at (gD Γ) clX (q, .inr (7, [.ref a0, .ref a1, .ref a2, .ref a3, .ref a4, .ref a5, .ref a6, .ref a7, .ref a8, .ref a9, .ref a10, .ref a11, .ref a12, .ref a13, .ref a14, .ref a15, .ref a16, .ref H34.size, .null, .int 0, .int 0, .int 0, .int 0, .int 0, .int 0, .int 0, .int 0, .int 0, .int 0, .long 0])) H36 := h0
  replace hm := hm.put hqN oq
  replace hz : N ≤ H36.size := by rw [hz1]; exact hz
  clear hz1 oq
  generalize H34.size = a17 at h0 hm
  refine lv_aload_n hx hb dX7_init_147 rfl (lv_at hl 0 rfl) ?_
  refine lv_bipush (v := 48) hx hb dX7_init_148 (by decide) ?_
  refine r_newA (atype := .int) (t := 0) (n := 48) (a0 := (48, .inl (fun _ => 0))) C hS t_59 rfl (fun _ h => nomatch h) (fun cA => rfl) rfl (by decide) (by show 19 ≤ 19; decide) (by show 679 ≤ 700; decide) dX7_init_150 (fun H37 hz1 ho1 ha1 hS => ?_)
  replace h0 := h0.kept (ho1 _ (Nat.lt_of_lt_of_le hqN hz))
  replace hm : MoAt Γ (fun _ _ => 0) N [a0, a1, a2, a3, a4, a5, a6, a7, a8, a9, a10, a11, a12, a13, a14, a15, a16, a17, H36.size] H37 := hm.add hz ho1 (k := 18) rfl MoC_18 ha1
  replace hz : N ≤ H37.size := by rw [hz1]; exact Nat.le_succ_of_le hz
  clear hz1 ho1 ha1
  refine r_putFi C ck_7 h0 hS (Or.inl rfl) 18 (by decide) rfl rfl hnm rfl rfl rfl dX7_init_152 t_1316 (fun x h => h) (fun H38 locs h0 oq hz1 hS => ?_)
  replace h0 : va_at (gD Γ) clX (q, .inr (7, [.ref a0, .ref a1, .ref a2, .ref a3, .ref a4, .ref a5, .ref a6, .ref a7, .ref a8, .ref a9, .ref a10, .ref a11, .ref a12, .ref a13, .ref a14, .ref a15, .ref a16, .ref a17, .ref H36.size, .int 0, .int 0, .int 0, .int 0, .int 0, .int 0, .int 0, .int 0, .int 0, .int 0, .long 0])) H38 := h0
  replace hm := hm.put hqN oq
  replace hz : N ≤ H38.size := by rw [hz1]; exact hz
  clear hz1 oq
  generalize H36.size = a18 at h0 hm
  refine lv_aload_n hx hb dX7_init_155 rfl (lv_at hl 0 rfl) ?_
  refine lv_iconst (v := 0) hx hb dX7_init_156 (by decide) ?_
  refine r_putN C ck_7 h0 hS (Or.inl rfl) 19 (by decide) rfl rfl rfl rfl dX7_init_157 t_1317 (fun x h => h) (fun H39 locs h0 oq hz1 hS => ?_)
  replace h0 : va_at (gD Γ) clX (q, .inr (7, [.ref a0, .ref a1, .ref a2, .ref a3, .ref a4, .ref a5, .ref a6, .ref a7, .ref a8, .ref a9, .ref a10, .ref a11, .ref a12, .ref a13, .ref a14, .ref a15, .ref a16, .ref a17, .ref a18, .int 0, .int 0, .int 0, .int 0, .int 0, .int 0, .int 0, .int 0, .int 0, .int 0, .long 0])) H39 := h0
  replace hm := hm.put hqN oq
  replace hz : N ≤ H39.size := by rw [hz1]; exact hz
  clear hz1 oq
  refine lv_aload_n hx hb dX7_init_160 rfl (lv_at hl 0 rfl) ?_
  refine lv_iconst (v := 0) hx hb dX7_init_161 (by decide) ?_
  refine r_putN C ck_7 h0 hS (Or.inl rfl) 20 (by decide) rfl rfl rfl rfl dX7_init_162 t_1318 (fun x h => h) (fun H40 locs h0 oq hz1 hS => ?_)
  replace h0 : va_at (gD Γ) clX (q, .inr (7, [.ref a0, .ref a1, .ref a2, .ref a3, .ref a4, .ref a5, .ref a6, .ref a7, .ref a8, .ref a9, .ref a10, .ref a11, .ref a12, .ref a13, .ref a14, .ref a15, .ref a16, .ref a17, .ref a18, .int 0, .int 0, .int 0, .int 0, .int 0, .int 0, .int 0, .int 0, .int 0, .int 0, .long 0])) H40 := h0
  replace hm := hm.put hqN oq
  replace hz : N ≤ H40.size := by rw [hz1]; exact hz
  clear hz1 oq
  refine lv_aload_n hx hb dX7_init_165 rfl (lv_at hl 0 rfl) ?_
  refine lv_iconst (v := 0) hx hb dX7_init_166 (by decide) ?_
  refine r_putN C ck_7 h0 hS (Or.inl rfl) 21 (by decide) rfl rfl rfl rfl dX7_init_167 t_1319 (fun x h => h) (fun H41 locs h0 oq hz1 hS => ?_)
  replace h0 : va_at (gD Γ) clX (q, .inr (7, [.ref a0, .ref a1, .ref a2, .ref a3, .ref a4, .ref a5, .ref a6, .ref a7, .ref a8, .ref a9, .ref a10, .ref a11, .ref a12, .ref a13, .ref a14, .ref a15, .ref a16, .ref a17, .ref a18, .int 0, .int 0, .int 0, .int 0, .int 0, .int 0, .int 0, .int 0, .int 0, .int 0, .long 0])) H41 := h0
  replace hm := hm.put hqN oq
  replace hz : N ≤ H41.size := by rw [hz1]; exact hz
  clear hz1 oq
  refine lv_aload_n hx hb dX7_init_170 rfl (lv_at hl 0 rfl) ?_
  refine lv_iconst (v := 0) hx hb dX7_init_171 (by decide) ?_
  refine r_putN C ck_7 h0 hS (Or.inl rfl) 22 (by decide) rfl rfl rfl rfl dX7_init_172 t_1320 (fun x h => h) (fun H42 locs h0 oq hz1 hS => ?_)
  replace h0 : va_at (gD Γ) clX (q, .inr (7, [.ref a0, .ref a1, .ref a2, .ref a3, .ref a4, .ref a5, .ref a6, .ref a7, .ref a8, .ref a9, .ref a10, .ref a11, .ref a12, .ref a13, .ref a14, .ref a15, .ref a16, .ref a17, .ref a18, .int 0, .int 0, .int 0, .int 0, .int 0, .int 0, .int 0, .int 0, .int 0, .int 0, .long 0])) H42 := h0
  replace hm := hm.put hqN oq
  replace hz : N ≤ H42.size := by rw [hz1]; exact hz
  clear hz1 oq
  refine lv_aload_n hx hb dX7_init_175 rfl (lv_at hl 0 rfl) ?_
  refine lv_iconst (v := 0) hx hb dX7_init_176 (by decide) ?_
  refine r_putN C ck_7 h0 hS (Or.inl rfl) 23 (by decide) rfl rfl rfl rfl dX7_init_177 t_1321 (fun x h => h) (fun H43 locs h0 oq hz1 hS => ?_)
  replace h0 : va_at (gD Γ) clX (q, .inr (7, [.ref a0, .ref a1, .ref a2, .ref a3, .ref a4, .ref a5, .ref a6, .ref a7, .ref a8, .ref a9, .ref a10, .ref a11, .ref a12, .ref a13, .ref a14, .ref a15, .ref a16, .ref a17, .ref a18, .int 0, .int 0, .int 0, .int 0, .int 0, .int 0, .int 0, .int 0, .int 0, .int 0, .long 0])) H43 := h0
  replace hm := hm.put hqN oq
  replace hz : N ≤ H43.size := by rw [hz1]; exact hz
  clear hz1 oq
  refine lv_aload_n hx hb dX7_init_180 rfl (lv_at hl 0 rfl) ?_
  refine lv_iconst (v := 0) hx hb dX7_init_181 (by decide) ?_
  refine r_putN C ck_7 h0 hS (Or.inl rfl) 24 (by decide) rfl rfl rfl rfl dX7_init_182 t_1322 (fun x h => h) (fun H44 locs h0 oq hz1 hS => ?_)
  replace h0 : va_at (gD Γ) clX (q, .inr (7, [.ref a0, .ref a1, .ref a2, .ref a3, .ref a4, .ref a5, .ref a6, .ref a7, .ref a8, .ref a9, .ref a10, .ref a11, .ref a12, .ref a13, .ref a14, .ref a15, .ref a16, .ref a17, .ref a18, .int 0, .int 0, .int 0, .int 0, .int 0, .int 0, .int 0, .int 0, .int 0, .int 0, .long 0])) H44 := h0
  replace hm := hm.put hqN oq
  replace hz : N ≤ H44.size := by rw [hz1]; exact hz
  clear hz1 oq
  refine lv_aload_n hx hb dX7_init_185 rfl (lv_at hl 0 rfl) ?_
  refine lv_iconst (v := 0) hx hb dX7_init_186 (by decide) ?_
  refine r_putN C ck_7 h0 hS (Or.inl rfl) 25 (by decide) rfl rfl rfl rfl dX7_init_187 t_1323 (fun x h => h) (fun H45 locs h0 oq hz1 hS => ?_)
  replace h0 : va_at (gD Γ) clX (q, .inr (7, [.ref a0, .ref a1, .ref a2, .ref a3, .ref a4, .ref a5, .ref a6, .ref a7, .ref a8, .ref a9, .ref a10, .ref a11, .ref a12, .ref a13, .ref a14, .ref a15, .ref a16, .ref a17, .ref a18, .int 0, .int 0, .int 0, .int 0, .int 0, .int 0, .int 0, .int 0, .int 0, .int 0, .long 0])) H45 := h0
  replace hm := hm.put hqN oq
  replace hz : N ≤ H45.size := by rw [hz1]; exact hz
  clear hz1 oq
  refine lv_aload_n hx hb dX7_init_190 rfl (lv_at hl 0 rfl) ?_
  refine lv_iconst (v := 0) hx hb dX7_init_191 (by decide) ?_
  refine r_putN C ck_7 h0 hS (Or.inl rfl) 26 (by decide) rfl rfl rfl rfl dX7_init_192 t_1324 (fun x h => h) (fun H46 locs h0 oq hz1 hS => ?_)
  replace h0 : va_at (gD Γ) clX (q, .inr (7, [.ref a0, .ref a1, .ref a2, .ref a3, .ref a4, .ref a5, .ref a6, .ref a7, .ref a8, .ref a9, .ref a10, .ref a11, .ref a12, .ref a13, .ref a14, .ref a15, .ref a16, .ref a17, .ref a18, .int 0, .int 0, .int 0, .int 0, .int 0, .int 0, .int 0, .int 0, .int 0, .int 0, .long 0])) H46 := h0
  replace hm := hm.put hqN oq
  replace hz : N ≤ H46.size := by rw [hz1]; exact hz
  clear hz1 oq
  refine lv_aload_n hx hb dX7_init_195 rfl (lv_at hl 0 rfl) ?_
  refine lv_iconst (v := 0) hx hb dX7_init_196 (by decide) ?_
  refine r_putN C ck_7 h0 hS (Or.inl rfl) 27 (by decide) rfl rfl rfl rfl dX7_init_197 t_1325 (fun x h => h) (fun H47 locs h0 oq hz1 hS => ?_)
  replace h0 : va_at (gD Γ) clX (q, .inr (7, [.ref a0, .ref a1, .ref a2, .ref a3, .ref a4, .ref a5, .ref a6, .ref a7, .ref a8, .ref a9, .ref a10, .ref a11, .ref a12, .ref a13, .ref a14, .ref a15, .ref a16, .ref a17, .ref a18, .int 0, .int 0, .int 0, .int 0, .int 0, .int 0, .int 0, .int 0, .int 0, .int 0, .long 0])) H47 := h0
  replace hm := hm.put hqN oq
  replace hz : N ≤ H47.size := by rw [hz1]; exact hz
  clear hz1 oq
  refine lv_aload_n hx hb dX7_init_200 rfl (lv_at hl 0 rfl) ?_
  refine lv_iconst (v := 0) hx hb dX7_init_201 (by decide) ?_
  refine r_putN C ck_7 h0 hS (Or.inl rfl) 28 (by decide) rfl rfl rfl rfl dX7_init_202 t_1326 (fun x h => h) (fun H48 locs h0 oq hz1 hS => ?_)
  replace h0 : va_at (gD Γ) clX (q, .inr (7, [.ref a0, .ref a1, .ref a2, .ref a3, .ref a4, .ref a5, .ref a6, .ref a7, .ref a8, .ref a9, .ref a10, .ref a11, .ref a12, .ref a13, .ref a14, .ref a15, .ref a16, .ref a17, .ref a18, .int 0, .int 0, .int 0, .int 0, .int 0, .int 0, .int 0, .int 0, .int 0, .int 0, .long 0])) H48 := h0
  replace hm := hm.put hqN oq
  replace hz : N ≤ H48.size := by rw [hz1]; exact hz
  clear hz1 oq
  refine lv_aload_n hx hb dX7_init_205 rfl (lv_at hl 0 rfl) ?_
  refine lv_lconst (v := 0) hx hb dX7_init_206 (by decide) ?_
  refine r_putN C ck_7 h0 hS (Or.inl rfl) 29 (by decide) rfl rfl rfl rfl dX7_init_207 t_1327 (fun x h => h) (fun H49 locs h0 oq hz1 hS => ?_)
  replace h0 : va_at (gD Γ) clX (q, .inr (7, [.ref a0, .ref a1, .ref a2, .ref a3, .ref a4, .ref a5, .ref a6, .ref a7, .ref a8, .ref a9, .ref a10, .ref a11, .ref a12, .ref a13, .ref a14, .ref a15, .ref a16, .ref a17, .ref a18, .int 0, .int 0, .int 0, .int 0, .int 0, .int 0, .int 0, .int 0, .int 0, .int 0, .long 0])) H49 := h0
  replace hm := hm.put hqN oq
  replace hz : N ≤ H49.size := by rw [hz1]; exact hz
  clear hz1 oq
  refine lv_aload_n hx hb dX7_init_210 rfl (lv_at hl 0 rfl) ?_
  refine r_getR C ck_7 h0 1 (by decide) t_1299 (fun x h => h) (v := .ref a1) rfl dX7_init_211 ?_
  refine lv_iconst (v := 0) hx hb dX7_init_214 (by decide) ?_
  refine lv_sipush (v := 240) hx hb dX7_init_215 (by decide) ?_
  have hp0 := (hm.1 1 a1 rfl)
  refine r_iastR (n := 3) (x := 240) C hp0.2 hS (Or.inr hp0.1) (by unfold vp_in; decide) dX7_init_218 (fun H50 locs hc oq hz1 hS => ?_)
  replace h0 := h0.kept (oq _ (Nat.ne_of_lt (Nat.lt_of_lt_of_le hqN hp0.1)))
  replace hm := hm.set (j := 1) rfl oq hc
  replace hz : N ≤ H50.size := by rw [hz1]; exact hz
  clear hz1 oq
  refine lv_aload_n hx hb dX7_init_219 rfl (lv_at hl 0 rfl) ?_
  refine r_getR C ck_7 h0 1 (by decide) t_1299 (fun x h => h) (v := .ref a1) rfl dX7_init_220 ?_
  refine lv_iconst (v := 1) hx hb dX7_init_223 (by decide) ?_
  refine lv_bipush (v := 120) hx hb dX7_init_224 (by decide) ?_
  have hp1 := (hm.1 1 a1 rfl)
  refine r_iastR (n := 3) (x := 120) C hp1.2 hS (Or.inr hp1.1) (by unfold vp_in; decide) dX7_init_226 (fun H51 locs hc oq hz1 hS => ?_)
  replace h0 := h0.kept (oq _ (Nat.ne_of_lt (Nat.lt_of_lt_of_le hqN hp1.1)))
  replace hm := hm.set (j := 1) rfl oq hc
  replace hz : N ≤ H51.size := by rw [hz1]; exact hz
  clear hz1 oq
  refine lv_aload_n hx hb dX7_init_227 rfl (lv_at hl 0 rfl) ?_
  refine r_getR C ck_7 h0 1 (by decide) t_1299 (fun x h => h) (v := .ref a1) rfl dX7_init_228 ?_
  refine lv_iconst (v := 2) hx hb dX7_init_231 (by decide) ?_
  refine lv_bipush (v := 30) hx hb dX7_init_232 (by decide) ?_
  have hp2 := (hm.1 1 a1 rfl)
  refine r_iastR (n := 3) (x := 30) C hp2.2 hS (Or.inr hp2.1) (by unfold vp_in; decide) dX7_init_234 (fun H52 locs hc oq hz1 hS => ?_)
  replace h0 := h0.kept (oq _ (Nat.ne_of_lt (Nat.lt_of_lt_of_le hqN hp2.1)))
  replace hm := hm.set (j := 1) rfl oq hc
  replace hz : N ≤ H52.size := by rw [hz1]; exact hz
  clear hz1 oq
  refine r_vret C hr hS dX7_init_235 (by show 19 ≤ 19; decide) (by show 679 ≤ 700; decide) ⟨rfl, [a0, a1, a2, a3, a4, a5, a6, a7, a8, a9, a10, a11, a12, a13, a14, a15, a16, a17, a18], rfl, ?_, h0⟩
  refine hm.cn (fun j b => ?_)
  by_cases e : j = 1
  · subst e
    simp only [if_true, upd, prF, show Int32.toNatClampNeg 0 = 0 from rfl, show Int32.toNatClampNeg 1 = 1 from rfl, show Int32.toNatClampNeg 2 = 2 from rfl]
    by_cases b0 : b = 0 <;> by_cases b1 : b = 1 <;> by_cases b2 : b = 2 <;> simp_all
  · simp only [if_neg e]
