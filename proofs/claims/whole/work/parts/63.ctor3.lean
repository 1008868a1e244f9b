/-- pairs of a queue and its line: all apart -/
def ND (qs : List (Nat × Nat)) : Prop := ∀ (i j : Nat) (a b : Nat × Nat), qs[i]? = some a → qs[j]? = some b → (a.1 = b.1 → i = j) ∧ (a.2 = b.2 → i = j) ∧ a.1 ≠ b.2
theorem ND.add {qs : List (Nat × Nat)} {n x y : Nat} (h : ND qs) (hlt : ∀ z ∈ qs, z.1 < n ∧ z.2 < n) (hx : n ≤ x) (hy : n ≤ y) (hxy : x ≠ y) : ND (qs ++ [(x, y)]) := by
  have old : ∀ (i : Nat) (a : Nat × Nat), (qs ++ [(x, y)])[i]? = some a → (qs[i]? = some a ∧ i < qs.length ∧ a.1 < n ∧ a.2 < n) ∨ (i = qs.length ∧ a = (x, y)) := by
    intro i a ha
    by_cases c : i < qs.length
    · rw [List.getElem?_append_left c] at ha
      have := hlt a (List.mem_of_getElem? ha)
      exact Or.inl ⟨ha, c, this.1, this.2⟩
    · rw [List.getElem?_append_right (by omega)] at ha
      have hz : i - qs.length < 1 := (List.getElem?_eq_some_iff.mp ha).1
      rw [show i - qs.length = 0 by omega] at ha
      cases ha
      exact Or.inr ⟨by omega, rfl⟩
  intro i j a b ha hb
  rcases old i a ha with ⟨h1, h2, h3, h4⟩ | ⟨h1, h2⟩ <;> rcases old j b hb with ⟨g1, g2, g3, g4⟩ | ⟨g1, g2⟩
  · exact h i j a b h1 g1
  · subst g2
    exact ⟨fun z => by have z : a.1 = x := z; omega, fun z => by have z : a.2 = y := z; omega, fun z => by have z : a.1 = y := z; omega⟩
  · subst h2
    exact ⟨fun z => by have z : x = b.1 := z; omega, fun z => by have z : y = b.2 := z; omega, fun z => by have z : x = b.2 := z; omega⟩
  · subst h2
    subst g2
    exact ⟨fun _ => by omega, fun _ => by omega, hxy⟩
def CuC (Γ : Gm) (pr : Nat) (cs : List Nat) (ca : Nat) (H : Heap) : Prop := ∀ x ∈ cs, ca < x ∧ va_at (gD Γ) clX (x, .inr (1, [.ref pr, .int 0])) H
def QuC (Γ : Gm) (qs : List (Nat × Nat)) (qa : Nat) (H : Heap) : Prop := ∀ z ∈ qs, qa < z.1 ∧ qa < z.2 ∧ va_at (gD Γ) clX (z.1, .inr (5, [.ref z.2])) H ∧ va_at (gD Γ) clX (liC z.2 0 (gE Γ) 0) H
theorem liC_lt {Γ : Gm} {a b n : Nat} {m : Int32} {H : Heap} (h : va_at (gD Γ) clX (liC a m b n) H) : a < H.size := va_at.lt h
theorem liC_kept {Γ : Gm} {a b n : Nat} {m : Int32} {H H1 : Heap} (h : va_at (gD Γ) clX (liC a m b n) H) (e : H1[a]? = H[a]?) : va_at (gD Γ) clX (liC a m b n) H1 := va_at.kept h e
theorem CuC.kept {Γ : Gm} {pr ca n : Nat} {cs : List Nat} {H H1 : Heap} (h : CuC Γ pr cs ca H) (hn : n = H.size) (e : ∀ z : Nat, z < n → ca < z → H1[z]? = H[z]?) : CuC Γ pr cs ca H1 :=
  fun x hx => ⟨(h x hx).1, (h x hx).2.kept (e _ (by rw [hn]; exact (h x hx).2.lt) (h x hx).1)⟩
theorem QuC.kept {Γ : Gm} {qa n : Nat} {qs : List (Nat × Nat)} {H H1 : Heap} (h : QuC Γ qs qa H) (hn : n = H.size) (e : ∀ z : Nat, z < n → qa < z → H1[z]? = H[z]?) : QuC Γ qs qa H1 :=
  fun x hx => ⟨(h x hx).1, (h x hx).2.1, (h x hx).2.2.1.kept (e _ (by rw [hn]; exact (h x hx).2.2.1.lt) (h x hx).1), liC_kept (h x hx).2.2.2 (e _ (by rw [hn]; exact liC_lt (h x hx).2.2.2) (h x hx).2.1)⟩
/-- a new desk -/
def DeskOk (Γ : Gm) (N q : Nat) (H : Heap) : Prop := ∃ (pr ca qa l1 l2 l3 l4 w6 w7 : Nat) (cs : List Nat) (qs : List (Nat × Nat)), cs.length = 8 ∧ qs.length = 6 ∧ cs.Nodup ∧ ND qs ∧
  (N ≤ pr ∧ pr < ca ∧ ca < qa ∧ qa < l1 ∧ l1 < l2 ∧ l2 < l3 ∧ l3 < l4 ∧ l4 < w6 ∧ w6 < w7) ∧ (∀ x ∈ cs, x < qa) ∧ (∀ z ∈ qs, z.1 < l1 ∧ z.2 < l1) ∧
  va_at (gD Γ) clX (q, .inr (6, [.ref pr, .ref ca, .ref qa, .ref l1, .ref l2, .ref l3, .ref l4, .ref w6, .ref w7, .int 0, .int 0, .int 0, .int 0, .long 0, .long 0])) H ∧
  va_at (gD Γ) clX (pr, .inl (gA Γ 0, 3, .inl prF)) H ∧ va_at (gD Γ) clX (ca, .inl (gA Γ 6, 8, rE (fun j => cs[j]?))) H ∧ CuC Γ pr cs ca H ∧
  va_at (gD Γ) clX (qa, .inl (gA Γ 7, 6, rE (fun j => (qs[j]?).map Prod.fst))) H ∧ QuC Γ qs qa H ∧
  va_at (gD Γ) clX (liC l1 0 (gE Γ) 0) H ∧ va_at (gD Γ) clX (liC l2 0 (gE Γ) 0) H ∧ va_at (gD Γ) clX (liC l3 0 (gE Γ) 0) H ∧ va_at (gD Γ) clX (liC l4 0 (gE Γ) 0) H ∧
  va_at (gD Γ) clX (w6, .inl (gA Γ 0, 10, .inl (fun _ => 0))) H ∧ va_at (gD Γ) clX (w7, .inl (gA Γ 0, 8, .inl (fun _ => 0))) H
theorem va_up_app {cs : List Nat} {x n : Nat} (h : cs.length = n) : va_up (fun j => cs[j]?) n (some x) = fun j => (cs ++ [x])[j]? := by
  funext j
  unfold va_up
  by_cases c : j = n
  · subst c
    rw [if_pos rfl, List.getElem?_append_right (by omega), h, Nat.sub_self]
    rfl
  · rw [if_neg c]
    by_cases d : j < n
    · rw [List.getElem?_append_left (by omega)]
    · show cs[j]? = _
      rw [List.getElem?_eq_none (l := cs) (by omega), List.getElem?_eq_none (by rw [List.length_append, List.length_singleton]; omega)]
theorem va_up_app2 {qs : List (Nat × Nat)} {x y n : Nat} (h : qs.length = n) : va_up (fun j => (qs[j]?).map Prod.fst) n (some x) = fun j => ((qs ++ [(x, y)])[j]?).map Prod.fst := by
  funext j
  unfold va_up
  by_cases c : j = n
  · subst c
    rw [if_pos rfl, List.getElem?_append_right (by omega), h, Nat.sub_self]
    rfl
  · rw [if_neg c]
    by_cases d : j < n
    · rw [List.getElem?_append_left (by omega)]
    · show (qs[j]?).map Prod.fst = _
      rw [List.getElem?_eq_none (l := qs) (by omega), List.getElem?_eq_none (by rw [List.length_append, List.length_singleton]; omega)]
theorem W.eqR {p : Program} {l : Launch} {e : Env} {R : Room} {s : State} {m : MethodId} {args : Array Value} {below : List Frame} {meth : Method} {c : Code} {H : Heap} {locs : List Loc} {c1 c2 s1 s2 : Nat} {Q : State → Prop} {g : JFrame} (h1 : c1 = c2) (h2 : s1 = s2) (h : W p l e R s m args below meth c H locs c2 s2 Q g) : W p l e R s m args below meth c H locs c1 s1 Q g := by
  rw [h1, h2]
  exact h
set_option maxHeartbeats 4000000 in
set_option maxRecDepth 100000 in
theorem r_i6 {l : Launch} (hfl : l.stackTraces = false) (Γ : Gm) (N q : Nat) : RTc l Γ (fun z => z = q ∨ N ≤ z) yX6_init (wsO yX6_init cX6_init 2 none) 4 [.ref q] (fun H => H.size = N ∧ gB Γ ≤ q ∧ gB Γ ≤ N ∧ q < N ∧ va_at (gD Γ) clX (q, .inr (6, [.null, .null, .null, .null, .null, .null, .null, .null, .null, .int 0, .int 0, .int 0, .int 0, .long 0, .long 0])) H) (fun v H => v = none ∧ DeskOk Γ N q H) 40 200 := by
  refine rt_intro hfl (by decide) (Nat.le_of_ble_eq_true rfl) ?_
  intro p e s m args below meth c C hr hnm hP0 ls hl
  have hx := C.1
  have hb := C.2.1
  have hS : va_S (fun z => z = q ∨ N ≤ z) s.heap s.heap [] := va_S.rf
  have hl : lv_has ls 2 [(0, .ref q)] := hl
  obtain ⟨hN, hgq, hgN, hqN, h0⟩ := hP0
  have hA : ∀ z, (z = q ∨ N ≤ z) → gB Γ ≤ z := fun z h => by rcases h with h | h; rw [h]; exact hgq; omega
  have hAC : va_AO "TicketWeaver$Customer" s := C.2.2.2.2.2.2.1.2.1.2.2.2.2.1
  have hAT : va_AO "TicketWeaver$TopicQueue" s := C.2.2.2.2.2.2.1.2.1.2.2.2.2.2.1
  refine lv_aload_n hx hb dX6_init_0 rfl (lv_at hl 0 rfl) ?_
  refine g_obj C hl t_40 dX6_init_1 rfl (Nat.le_of_ble_eq_true rfl) ?_
  refine lv_aload_n hx hb dX6_init_4 rfl (lv_at hl 0 rfl) ?_
  refine lv_iconst (v := 3) hx hb dX6_init_5 (by decide) ?_
  refine r_newA (atype := .int) (t := 0) (n := 3) (a0 := (3, .inl (fun _ => 0))) C hS t_59 rfl (fun _ h => nomatch h) (fun cA => rfl) rfl (by decide) (by show 1 ≤ 40; decide) (by show 3 ≤ 200; decide) dX6_init_6 (fun H1 hz1 ho1 hp hS => ?_)
  replace h0 := h0.kept (ho1 _ (show q < s.heap.size by omega))
  have hpr : N ≤ s.heap.size := Nat.le_of_eq hN.symm
  have hpz : s.heap.size < H1.size := by omega
  clear hz1 ho1
  refine lv_dup hx hb dX6_init_8 rfl ?_
  refine lv_iconst (v := 0) hx hb dX6_init_9 (by decide) ?_
  refine lv_sipush (v := 240) hx hb dX6_init_10 (by decide) ?_
  refine r_iastR (n := 3) (x := 240) C hp hS (Or.inr hpr) (by unfold vp_in; decide) dX6_init_13 (fun H2 locs hp oq hz1 hS => ?_)
  replace h0 := h0.kept (oq _ (by omega))
  replace hpz : s.heap.size < H2.size := by omega
  clear hz1 oq
  refine lv_dup hx hb dX6_init_14 rfl ?_
  refine lv_iconst (v := 1) hx hb dX6_init_15 (by decide) ?_
  refine lv_bipush (v := 120) hx hb dX6_init_16 (by decide) ?_
  refine r_iastR (n := 3) (x := 120) C hp hS (Or.inr hpr) (by unfold vp_in; decide) dX6_init_18 (fun H3 locs hp oq hz1 hS => ?_)
  replace h0 := h0.kept (oq _ (by omega))
  replace hpz : s.heap.size < H3.size := by omega
  clear hz1 oq
  refine lv_dup hx hb dX6_init_19 rfl ?_
  refine lv_iconst (v := 2) hx hb dX6_init_20 (by decide) ?_
  refine lv_bipush (v := 30) hx hb dX6_init_21 (by decide) ?_
  refine r_iastR (n := 3) (x := 30) C hp hS (Or.inr hpr) (by unfold vp_in; decide) dX6_init_23 (fun H4 locs hp oq hz1 hS => ?_)
  replace h0 := h0.kept (oq _ (by omega))
  replace hpz : s.heap.size < H4.size := by omega
  clear hz1 oq
  replace hp : va_at (gD Γ) clX (s.heap.size, .inl (gA Γ 0, 3, .inl prF)) H4 := by
    rw [show prF = upd (upd (upd (fun _ => 0) (Int32.toNatClampNeg 0) 240) (Int32.toNatClampNeg 1) 120) (Int32.toNatClampNeg 2) 30 from ?_]
    · exact hp
    · funext b; simp only [upd, prF, show Int32.toNatClampNeg 0 = 0 from rfl, show Int32.toNatClampNeg 1 = 1 from rfl, show Int32.toNatClampNeg 2 = 2 from rfl]; by_cases b0 : b = 0 <;> by_cases b1 : b = 1 <;> by_cases b2 : b = 2 <;> simp_all
  refine r_putFi C ck_6 h0 hS (Or.inl rfl) 0 (by decide) rfl rfl hnm rfl rfl rfl dX6_init_24 t_99 (fun x h => h) (fun H5 locs h0 oq hz1 hS => ?_)
  replace h0 : va_at (gD Γ) clX (q, .inr (6, [.ref s.heap.size, .null, .null, .null, .null, .null, .null, .null, .null, .int 0, .int 0, .int 0, .int 0, .long 0, .long 0])) H5 := h0
  replace hp := hp.kept (oq _ (by show s.heap.size ≠ q; omega))
  replace hpz : s.heap.size < H5.size := by omega
  clear hz1 oq
  generalize s.heap.size = pr at h0 hp hpr hpz
  refine lv_aload_n hx hb dX6_init_27 rfl (lv_at hl 0 rfl) ?_
  refine lv_bipush (v := 8) hx hb dX6_init_28 (by decide) ?_
  refine r_newQ (t := 6) (n := 8) C hS t_43 hAC rfl rfl (by decide) (by show 2 ≤ 40; decide) (by show 11 ≤ 200; decide) dX6_init_30 (fun H6 hz1 ho1 hca hS => ?_)
  replace h0 := h0.kept (ho1 _ h0.lt)
  replace hp := hp.kept (ho1 _ hp.lt)
  have hcz : H5.size < H6.size := by omega
  clear hz1 ho1
  refine r_putFi C ck_6 h0 hS (Or.inl rfl) 1 (by decide) rfl rfl hnm rfl rfl rfl dX6_init_33 t_100 (fun x h => h) (fun H7 locs h0 oq hz1 hS => ?_)
  replace h0 : va_at (gD Γ) clX (q, .inr (6, [.ref pr, .ref H5.size, .null, .null, .null, .null, .null, .null, .null, .int 0, .int 0, .int 0, .int 0, .long 0, .long 0])) H7 := h0
  replace hp := hp.kept (oq _ (by show pr ≠ q; omega))
  replace hca := hca.kept (oq _ (by show H5.size ≠ q; omega))
  replace hcz : H5.size < H7.size := by omega
  clear hz1 oq
  generalize H5.size = ca at h0 hca hpz hcz
  have hca : va_at (gD Γ) clX (ca, .inl (gA Γ 6, 8, rE (fun j => ([] : List Nat)[j]?))) H7 := by simpa using hca
  refine lv_iconst (v := 0) hx hb dX6_init_36 (by decide) ?_
  refine lv_istore_n (lv' := [(1, _), (0, _)]) hx hb dX6_init_37 rfl hl (by decide) rfl (fun ls hl => ?_)
  suffices K38 : ∀ (n9 n : Nat), 8 - n < n9 → n ≤ 8 → ∀ (cs : List Nat) (H : Heap) (locs : List Loc) (ls : Array Slot), cs.length = n → va_at (gD Γ) clX (q, .inr (6, [.ref pr, .ref ca, .null, .null, .null, .null, .null, .null, .null, .int 0, .int 0, .int 0, .int 0, .long 0, .long 0])) H → va_at (gD Γ) clX (pr, .inl (gA Γ 0, 3, .inl prF)) H → va_at (gD Γ) clX (ca, .inl (gA Γ 6, 8, rE (fun j => cs[j]?))) H → CuC Γ pr cs ca H → cs.Nodup → va_S (fun z => z = q ∨ N ≤ z) s.heap H locs → lv_has ls 2 [(1, .int (nI n)), (0, .ref q)] → W p l e (rmL 4 40 200) s m args below meth c H locs (2 + n) (11 + 2 * n) (MQ below (RQ (fun z => z = q ∨ N ≤ z) (fun v H => v = none ∧ DeskOk Γ N q H)) args s 40 200 (fun z => z = q ∨ N ≤ z)) (F0 m 38 ls []) by
    exact K38 _ 0 (Nat.lt_succ_self _) (Nat.zero_le _) [] _ _ _ rfl h0 hp hca (fun x h => absurd h (by simp)) List.nodup_nil hS hl
  clear h0 hp hca hl hS
  intro n9
  induction n9 with
  | zero => intro n h9; exact absurd h9 (Nat.not_lt_zero _)
  | succ n9 ih =>
    intro n h9 hn cs H locs ls hcs h0 hp hca hC hnd hS hl
    refine lv_iload_n hx hb dX6_init_38 rfl (lv_at hl 0 rfl) ?_
    refine lv_bipush (v := 8) hx hb dX6_init_39 (by decide) ?_
    refine g_icmp_ge (tgt := 67) hx hb dX6_init_41 (by decide) (fun c_41 => ?_) (fun c_41 => ?_)
    rotate_left
    · have h6 : n < 8 := (nI_ltI (b := 8) (by omega) (by omega)).mp (by first | exact c_41 | exact Decidable.of_not_not c_41)
      refine lv_aload_n hx hb dX6_init_44 rfl (lv_at hl 1 rfl) ?_
      refine r_getR C ck_6 h0 1 (by decide) t_100 (fun x h => h) (v := .ref ca) rfl dX6_init_45 ?_
      refine lv_iload_n hx hb dX6_init_48 rfl (lv_at hl 0 rfl) ?_
      refine r_newO C ck_1 (fs := [.null, .int 0]) hS t_43 t_45 t_2 (by decide +kernel) (by show 2 + n + 1 ≤ 40; omega) (by show 11 + 2 * n + 2 ≤ 200; omega) dX6_init_49 (fun H1 hz1 ho1 hc1 hS => ?_)
      have hcaz := hca.lt
      have hqz := h0.lt
      replace h0 := h0.kept (ho1 _ h0.lt)
      replace hp := hp.kept (ho1 _ hp.lt)
      replace hca := hca.kept (ho1 _ hca.lt)
      have hlt : ∀ x ∈ cs, x < H.size := fun x hx => (hC x hx).2.lt
      replace hC : CuC Γ pr cs ca H1 := hC.kept rfl (fun z h _ => ho1 z h)
      refine lv_dup hx hb dX6_init_52 rfl ?_
      refine lv_aload_n hx hb dX6_init_53 rfl (lv_at hl 1 rfl) ?_
      refine r_getR C ck_6 h0 0 (by decide) t_99 (fun x h => h) (v := .ref pr) rfl dX6_init_54 ?_
      refine g_rI C hS hA (P := fun H' => gB Γ ≤ H.size ∧ va_at (gD Γ) clX (H.size, .inr (1, [.null, .int 0])) H') ⟨by omega, hc1⟩ hl (fun z h => Or.inr (by rw [h]; omega)) (r_i1 hfl Γ H.size pr) kX1_init t_46 dX6_init_57 rfl rfl (Nat.le_of_ble_eq_true rfl) (by decide) rfl ⟨by omega, by omega⟩ (fun v H2 locs2 hv hS hz2 hk2 => ?_)
      obtain ⟨rfl, hc1⟩ := hv
      dsimp only [Option.toList, List.nil_append]
      have hne : ∀ z : Nat, z < H.size → H2[z]? = H1[z]? := fun z h => hk2 z (by omega) (fun e => by omega)
      replace h0 := h0.kept (hne _ hqz)
      replace hp := hp.kept (hne _ (by omega))
      replace hca := hca.kept (hne _ hcaz)
      replace hC : CuC Γ pr cs ca H2 := fun x hx => ⟨(hC x hx).1, (hC x hx).2.kept (hne _ (hlt x hx))⟩
      refine r_astQ (t := 6) C hca hc1 rfl rfl hS (Or.inr (by omega)) (vp_in_nI h6 (by omega)) dX6_init_60 (fun H3 locs3 hca oq hz3 hS => ?_)
      rw [nI_clamp (by omega), va_up_app hcs] at hca
      replace h0 := h0.kept (oq _ (by omega))
      replace hp := hp.kept (oq _ (by omega))
      replace hc1 := hc1.kept (oq _ (by show H.size ≠ ca; omega))
      replace hC : CuC Γ pr (cs ++ [H.size]) ca H3 := fun x hx => by
        rcases List.mem_append.mp hx with h | h
        · exact ⟨(hC x h).1, (hC x h).2.kept (oq _ (by have := (hC x h).1; omega))⟩
        · rw [List.mem_singleton.mp h]; exact ⟨hcaz, hc1⟩
      have hnd2 : (cs ++ [H.size]).Nodup := by
        rw [List.nodup_append]
        exact ⟨hnd, by simp, fun x hx y hy => by rw [List.mem_singleton.mp hy]; exact Nat.ne_of_lt (hlt x hx)⟩
      refine lv_iinc (k := 0) (v := nI (n + 1)) (lv' := [(1, _), (0, _)]) hx hb dX6_init_61 hl rfl (nI_1 n) (by decide) rfl (fun ls hl => ?_)
      refine lv_goto (tgt := 38) hx hb dX6_init_64 (by decide) ?_
      exact W.eqR (by omega) (by omega) (ih (n + 1) (by omega) h6 (cs ++ [H.size]) _ _ _ (by rw [List.length_append, hcs]; rfl) h0 hp hca hC hnd2 hS hl)
    have hn8 : n = 8 := by have := (not_congr (nI_ltI (a := n) (b := 8) (by omega) (by omega))).mp c_41; omega
    subst hn8
    clear ih h9
    refine lv_aload_n hx hb dX6_init_67 rfl (lv_at hl 1 rfl) ?_
    refine lv_bipush (v := 6) hx hb dX6_init_68 (by decide) ?_
    refine r_newQ (t := 7) (n := 6) C hS t_60 hAT rfl rfl (by decide) (by show 11 ≤ 40; decide) (by show 33 ≤ 200; decide) dX6_init_70 (fun H1 hz1 ho1 hqa hS => ?_)
    have hcsq : ∀ x ∈ cs, x < H.size := fun x hx => (hC x hx).2.lt
    have hcq : ca < H.size := hca.lt
    have hpq := hp.lt
    replace h0 := h0.kept (ho1 _ h0.lt)
    replace hp := hp.kept (ho1 _ hp.lt)
    replace hca := hca.kept (ho1 _ hca.lt)
    replace hC : CuC Γ pr cs ca H1 := hC.kept rfl (fun z h _ => ho1 z h)
    refine r_putFi C ck_6 h0 hS (Or.inl rfl) 2 (by decide) rfl rfl hnm rfl rfl rfl dX6_init_73 t_101 (fun x h => h) (fun H2 locs h0 oq hz2 hS => ?_)
    replace h0 : va_at (gD Γ) clX (q, .inr (6, [.ref pr, .ref ca, .ref H.size, .null, .null, .null, .null, .null, .null, .int 0, .int 0, .int 0, .int 0, .long 0, .long 0])) H2 := h0
    replace hp := hp.kept (oq _ (by show pr ≠ q; omega))
    replace hca := hca.kept (oq _ (by show ca ≠ q; omega))
    replace hC : CuC Γ pr cs ca H2 := hC.kept rfl (fun z _ h => oq z (by omega))
    replace hqa := hqa.kept (oq _ (by show H.size ≠ q; have := h0.lt; omega))
    have hqz : H.size < H2.size := by omega
    clear hz1 ho1 oq hz2
    generalize H.size = qa at h0 hqa hcsq hcq hpq hqz
    have hqa : va_at (gD Γ) clX (qa, .inl (gA Γ 7, 6, rE (fun j => (([] : List (Nat × Nat))[j]?).map Prod.fst))) H2 := by simpa using hqa
    refine lv_iconst (v := 0) hx hb dX6_init_76 (by decide) ?_
    refine lv_istore_n (lv' := [(1, _), (0, _)]) hx hb dX6_init_77 rfl hl (by decide) rfl (fun ls hl => ?_)
    suffices K78 : ∀ (n9 n : Nat), 6 - n < n9 → n ≤ 6 → ∀ (qs : List (Nat × Nat)) (H : Heap) (locs : List Loc) (ls : Array Slot), qs.length = n → va_at (gD Γ) clX (q, .inr (6, [.ref pr, .ref ca, .ref qa, .null, .null, .null, .null, .null, .null, .int 0, .int 0, .int 0, .int 0, .long 0, .long 0])) H → va_at (gD Γ) clX (qa, .inl (gA Γ 7, 6, rE (fun j => (qs[j]?).map Prod.fst))) H → QuC Γ qs qa H → ND qs → (∀ z : Nat, z < qa → z ≠ q → H[z]? = H2[z]?) → va_S (fun z => z = q ∨ N ≤ z) s.heap H locs → lv_has ls 2 [(1, .int (nI n)), (0, .ref q)] → W p l e (rmL 4 40 200) s m args below meth c H locs (11 + 2 * n) (33 + 4 * n) (MQ below (RQ (fun z => z = q ∨ N ≤ z) (fun v H => v = none ∧ DeskOk Γ N q H)) args s 40 200 (fun z => z = q ∨ N ≤ z)) (F0 m 78 ls []) by
      exact K78 _ 0 (Nat.lt_succ_self _) (Nat.zero_le _) [] _ _ _ rfl h0 hqa (fun x h => absurd h (by simp)) (fun i j a b h => absurd h (by simp)) (fun _ _ _ => rfl) hS hl
    clear h0 hqa hl hS
    intro n9
    induction n9 with
    | zero => intro n h9; exact absurd h9 (Nat.not_lt_zero _)
    | succ n9 ih =>
      intro n h9 hn qs H locs ls hqs h0 hqa hQ hnd2 hkp hS hl
      refine lv_iload_n hx hb dX6_init_78 rfl (lv_at hl 0 rfl) ?_
      refine lv_bipush (v := 6) hx hb dX6_init_79 (by decide) ?_
      refine g_icmp_ge (tgt := 103) hx hb dX6_init_81 (by decide) (fun c_81 => ?_) (fun c_81 => ?_)
      rotate_left
      · have h6 : n < 6 := (nI_ltI (b := 6) (by omega) (by omega)).mp (by first | exact c_81 | exact Decidable.of_not_not c_81)
        refine lv_aload_n hx hb dX6_init_84 rfl (lv_at hl 1 rfl) ?_
        refine r_getR C ck_6 h0 2 (by decide) t_101 (fun x h => h) (v := .ref qa) rfl dX6_init_85 ?_
        refine lv_iload_n hx hb dX6_init_88 rfl (lv_at hl 0 rfl) ?_
        have hqaz := hqa.lt
        have hqz := h0.lt
        refine r_newO C ck_5 (fs := [.null]) hS t_60 t_62 t_3 (by decide +kernel) (by show 11 + 2 * n + 1 ≤ 40; omega) (by show 33 + 4 * n + 1 ≤ 200; omega) dX6_init_89 (fun H3 hz1 ho1 hc1 hS => ?_)
        have hlt : ∀ z ∈ qs, z.1 < H.size ∧ z.2 < H.size := fun x hx => ⟨(hQ x hx).2.2.1.lt, liC_lt (hQ x hx).2.2.2⟩
        replace h0 := h0.kept (ho1 _ h0.lt)
        replace hqa := hqa.kept (ho1 _ hqa.lt)
        replace hQ : QuC Γ qs qa H3 := hQ.kept rfl (fun z h _ => ho1 z h)
        refine lv_dup hx hb dX6_init_92 rfl ?_
        refine g_rI C hS hA (P := fun H' => H'.size = H3.size ∧ gB Γ ≤ H.size ∧ gB Γ ≤ H3.size ∧ H.size < H3.size ∧ va_at (gD Γ) clX (H.size, .inr (5, [.null])) H') ⟨rfl, by omega, by omega, by omega, hc1⟩ hl (fun z h => Or.inr (by rcases h with h | h <;> omega)) (r_i5 hfl Γ H3.size H.size) kX5_init t_63 dX6_init_93 rfl rfl (Nat.le_of_ble_eq_true rfl) (by decide) rfl ⟨by omega, by omega⟩ (fun v H4 locs2 hv hS hz2 hk2 => ?_)
        obtain ⟨rfl, q2, hq2, hqq, hc1, hc2⟩ := hv
        dsimp only [Option.toList, List.nil_append]
        have hne : ∀ z : Nat, z < H.size → H4[z]? = H3[z]? := fun z h => hk2 z (by omega) (fun e => by omega)
        replace h0 := h0.kept (hne _ hqz)
        replace hqa := hqa.kept (hne _ hqaz)
        replace hQ : QuC Γ qs qa H4 := fun x hx => ⟨(hQ x hx).1, (hQ x hx).2.1, (hQ x hx).2.2.1.kept (hne _ (hlt x hx).1), liC_kept (hQ x hx).2.2.2 (hne _ (hlt x hx).2)⟩
        refine r_astQ (t := 7) C hqa hc1 rfl rfl hS (Or.inr (by omega)) (vp_in_nI h6 (by omega)) dX6_init_96 (fun H5 locs3 hqa oq hz3 hS => ?_)
        rw [nI_clamp (by omega), va_up_app2 (y := q2) hqs] at hqa
        replace h0 := h0.kept (oq _ (by omega))
        replace hc1 := hc1.kept (oq _ (by show H.size ≠ qa; omega))
        replace hc2 := liC_kept hc2 (oq _ (by omega))
        replace hQ : QuC Γ (qs ++ [(H.size, q2)]) qa H5 := fun x hx => by
          rcases List.mem_append.mp hx with h | h
          · exact ⟨(hQ x h).1, (hQ x h).2.1, (hQ x h).2.2.1.kept (oq _ (by have := (hQ x h).1; omega)), liC_kept (hQ x h).2.2.2 (oq _ (by have := (hQ x h).2.1; omega))⟩
          · rw [List.mem_singleton.mp h]; exact ⟨hqaz, by show qa < q2; omega, hc1, hc2⟩
        have hnd3 : ND (qs ++ [(H.size, q2)]) := hnd2.add hlt (Nat.le_refl _) (by omega) hqq
        replace hkp : ∀ z : Nat, z < qa → z ≠ q → H5[z]? = H2[z]? := fun z h1 h2 => (oq z (by omega)).trans ((hne z (by omega)).trans ((ho1 z (by omega)).trans (hkp z h1 h2)))
        refine lv_iinc (k := 0) (v := nI (n + 1)) (lv' := [(1, _), (0, _)]) hx hb dX6_init_97 hl rfl (nI_1 n) (by decide) rfl (fun ls hl => ?_)
        refine lv_goto (tgt := 78) hx hb dX6_init_100 (by decide) ?_
        exact W.eqR (by omega) (by omega) (ih (n + 1) (by omega) h6 (qs ++ [(H.size, q2)]) _ _ _ (by rw [List.length_append, hqs]; rfl) h0 hqa hQ hnd3 hkp hS hl)
      have hn6 : n = 6 := by have := (not_congr (nI_ltI (a := n) (b := 6) (by omega) (by omega))).mp c_81; omega
      subst hn6
      clear ih h9
      replace hp := hp.kept (hkp _ hpq (by omega))
      replace hca := hca.kept (hkp _ hcq (by omega))
      replace hC : CuC Γ pr cs ca H := fun x hx => ⟨(hC x hx).1, (hC x hx).2.kept (hkp _ (hcsq x hx) (by have := (hC x hx).1; omega))⟩
      clear hkp
      have hqsl : ∀ z ∈ qs, z.1 < H.size ∧ z.2 < H.size := fun x hx => ⟨(hQ x hx).2.2.1.lt, liC_lt (hQ x hx).2.2.2⟩
      have hlz : qa < H.size := hqa.lt
      refine lv_aload_n hx hb dX6_init_103 rfl (lv_at hl 1 rfl) ?_
      refine r_newO C ck_8 (fs := [.int 0, .null, .int 0]) hS t_97 t_68 t_6 (by decide +kernel) (by show 24 ≤ 40; decide) (by show 60 ≤ 200; decide) dX6_init_104 (fun H11 hz1 ho1 ha1 hS => ?_)
      refine lv_dup hx hb dX6_init_107 rfl ?_
      refine g_rI C hS hA (P := fun H' => gB Γ ≤ H.size ∧ va_at (gD Γ) clX (H.size, .inr (8, [.int 0, .null, .int 0])) H') ⟨by have := hqN; omega, ha1⟩ hl (fun z h => Or.inr (by rw [h]; omega)) (r_iLi hfl Γ H.size) kJx4a65c_init_da8c8 t_98 dX6_init_108 rfl rfl (Nat.le_of_ble_eq_true rfl) (by decide) rfl ⟨by decide, by decide⟩ (fun v H12 locs2 hv hS hz2 hk2 => ?_)
      obtain ⟨rfl, ha1⟩ := hv
      dsimp only [Option.toList, List.nil_append]
      have hne : ∀ z : Nat, z < H.size → H12[z]? = H[z]? := fun z h => (hk2 z (by omega) (fun e => by omega)).trans (ho1 z h)
      replace h0 := h0.kept (hne _ h0.lt)
      replace hp := hp.kept (hne _ hp.lt)
      replace hca := hca.kept (hne _ hca.lt)
      replace hqa := hqa.kept (hne _ hqa.lt)
      replace hC : CuC Γ pr cs ca H12 := hC.kept rfl (fun z h _ => hne z h)
      replace hQ : QuC Γ qs qa H12 := hQ.kept rfl (fun z h _ => hne z h)
      refine r_putFi C ck_6 h0 hS (Or.inl rfl) 3 (by decide) rfl rfl hnm rfl rfl rfl dX6_init_111 t_102 (fun x h => h) (fun H13 locs h0 oq hz3 hS => ?_)
      replace h0 : va_at (gD Γ) clX (q, .inr (6, [.ref pr, .ref ca, .ref qa, .ref H.size, .null, .null, .null, .null, .null, .int 0, .int 0, .int 0, .int 0, .long 0, .long 0])) H13 := h0
      replace ha1 := liC_kept ha1 (oq _ (by omega))
      replace hp := hp.kept (oq _ (by show pr ≠ q; omega))
      replace hca := hca.kept (oq _ (by show ca ≠ q; omega))
      replace hqa := hqa.kept (oq _ (by show qa ≠ q; omega))
      replace hC : CuC Γ pr cs ca H13 := hC.kept rfl (fun z _ h => oq z (by omega))
      replace hQ : QuC Γ qs qa H13 := hQ.kept rfl (fun z _ h => oq z (by omega))
      have hy1 : H.size < H13.size := by omega
      clear hz1 ho1 hne hk2 hz2 oq hz3
      have hl1 := ha1
      clear ha1
      generalize H.size = l1 at h0 hl1 hqsl hlz hy1
      refine lv_aload_n hx hb dX6_init_114 rfl (lv_at hl 1 rfl) ?_
      refine r_newO C ck_8 (fs := [.int 0, .null, .int 0]) hS t_97 t_68 t_6 (by decide +kernel) (by show 25 ≤ 40; decide) (by show 63 ≤ 200; decide) dX6_init_115 (fun H14 hz1 ho1 ha1 hS => ?_)
      refine lv_dup hx hb dX6_init_118 rfl ?_
      refine g_rI C hS hA (P := fun H' => gB Γ ≤ H13.size ∧ va_at (gD Γ) clX (H13.size, .inr (8, [.int 0, .null, .int 0])) H') ⟨by have := hqN; omega, ha1⟩ hl (fun z h => Or.inr (by rw [h]; omega)) (r_iLi hfl Γ H13.size) kJx4a65c_init_da8c8 t_98 dX6_init_119 rfl rfl (Nat.le_of_ble_eq_true rfl) (by decide) rfl ⟨by decide, by decide⟩ (fun v H15 locs2 hv hS hz2 hk2 => ?_)
      obtain ⟨rfl, ha1⟩ := hv
      dsimp only [Option.toList, List.nil_append]
      have hne : ∀ z : Nat, z < H13.size → H15[z]? = H13[z]? := fun z h => (hk2 z (by omega) (fun e => by omega)).trans (ho1 z h)
      replace h0 := h0.kept (hne _ h0.lt)
      replace hp := hp.kept (hne _ hp.lt)
      replace hca := hca.kept (hne _ hca.lt)
      replace hqa := hqa.kept (hne _ hqa.lt)
      replace hl1 := liC_kept hl1 (hne _ (liC_lt hl1))
      replace hC : CuC Γ pr cs ca H15 := hC.kept rfl (fun z h _ => hne z h)
      replace hQ : QuC Γ qs qa H15 := hQ.kept rfl (fun z h _ => hne z h)
      refine r_putFi C ck_6 h0 hS (Or.inl rfl) 4 (by decide) rfl rfl hnm rfl rfl rfl dX6_init_122 t_103 (fun x h => h) (fun H16 locs h0 oq hz3 hS => ?_)
      replace h0 : va_at (gD Γ) clX (q, .inr (6, [.ref pr, .ref ca, .ref qa, .ref l1, .ref H13.size, .null, .null, .null, .null, .int 0, .int 0, .int 0, .int 0, .long 0, .long 0])) H16 := h0
      replace ha1 := liC_kept ha1 (oq _ (by omega))
      replace hp := hp.kept (oq _ (by show pr ≠ q; omega))
      replace hca := hca.kept (oq _ (by show ca ≠ q; omega))
      replace hqa := hqa.kept (oq _ (by show qa ≠ q; omega))
      replace hl1 := liC_kept hl1 (oq _ (by show l1 ≠ q; omega))
      replace hC : CuC Γ pr cs ca H16 := hC.kept rfl (fun z _ h => oq z (by omega))
      replace hQ : QuC Γ qs qa H16 := hQ.kept rfl (fun z _ h => oq z (by omega))
      have hy2 : H13.size < H16.size := by omega
      clear hz1 ho1 hne hk2 hz2 oq hz3
      have hl2 := ha1
      clear ha1
      generalize H13.size = l2 at h0 hl2 hy1 hy2
      refine lv_aload_n hx hb dX6_init_125 rfl (lv_at hl 1 rfl) ?_
      refine r_newO C ck_8 (fs := [.int 0, .null, .int 0]) hS t_97 t_68 t_6 (by decide +kernel) (by show 26 ≤ 40; decide) (by show 66 ≤ 200; decide) dX6_init_126 (fun H17 hz1 ho1 ha1 hS => ?_)
      refine lv_dup hx hb dX6_init_129 rfl ?_
      refine g_rI C hS hA (P := fun H' => gB Γ ≤ H16.size ∧ va_at (gD Γ) clX (H16.size, .inr (8, [.int 0, .null, .int 0])) H') ⟨by have := hqN; omega, ha1⟩ hl (fun z h => Or.inr (by rw [h]; omega)) (r_iLi hfl Γ H16.size) kJx4a65c_init_da8c8 t_98 dX6_init_130 rfl rfl (Nat.le_of_ble_eq_true rfl) (by decide) rfl ⟨by decide, by decide⟩ (fun v H18 locs2 hv hS hz2 hk2 => ?_)
      obtain ⟨rfl, ha1⟩ := hv
      dsimp only [Option.toList, List.nil_append]
      have hne : ∀ z : Nat, z < H16.size → H18[z]? = H16[z]? := fun z h => (hk2 z (by omega) (fun e => by omega)).trans (ho1 z h)
      replace h0 := h0.kept (hne _ h0.lt)
      replace hp := hp.kept (hne _ hp.lt)
      replace hca := hca.kept (hne _ hca.lt)
      replace hqa := hqa.kept (hne _ hqa.lt)
      replace hl1 := liC_kept hl1 (hne _ (liC_lt hl1))
      replace hl2 := liC_kept hl2 (hne _ (liC_lt hl2))
      replace hC : CuC Γ pr cs ca H18 := hC.kept rfl (fun z h _ => hne z h)
      replace hQ : QuC Γ qs qa H18 := hQ.kept rfl (fun z h _ => hne z h)
      refine r_putFi C ck_6 h0 hS (Or.inl rfl) 5 (by decide) rfl rfl hnm rfl rfl rfl dX6_init_133 t_104 (fun x h => h) (fun H19 locs h0 oq hz3 hS => ?_)
      replace h0 : va_at (gD Γ) clX (q, .inr (6, [.ref pr, .ref ca, .ref qa, .ref l1, .ref l2, .ref H16.size, .null, .null, .null, .int 0, .int 0, .int 0, .int 0, .long 0, .long 0])) H19 := h0
      replace ha1 := liC_kept ha1 (oq _ (by omega))
      replace hp := hp.kept (oq _ (by show pr ≠ q; omega))
      replace hca := hca.kept (oq _ (by show ca ≠ q; omega))
      replace hqa := hqa.kept (oq _ (by show qa ≠ q; omega))
      replace hl1 := liC_kept hl1 (oq _ (by show l1 ≠ q; omega))
      replace hl2 := liC_kept hl2 (oq _ (by show l2 ≠ q; omega))
      replace hC : CuC Γ pr cs ca H19 := hC.kept rfl (fun z _ h => oq z (by omega))
      replace hQ : QuC Γ qs qa H19 := hQ.kept rfl (fun z _ h => oq z (by omega))
      have hy3 : H16.size < H19.size := by omega
      clear hz1 ho1 hne hk2 hz2 oq hz3
      have hl3 := ha1
      clear ha1
      generalize H16.size = l3 at h0 hl3 hy2 hy3
      refine lv_aload_n hx hb dX6_init_136 rfl (lv_at hl 1 rfl) ?_
      refine r_newO C ck_8 (fs := [.int 0, .null, .int 0]) hS t_97 t_68 t_6 (by decide +kernel) (by show 27 ≤ 40; decide) (by show 69 ≤ 200; decide) dX6_init_137 (fun H20 hz1 ho1 ha1 hS => ?_)
      refine lv_dup hx hb dX6_init_140 rfl ?_
      refine g_rI C hS hA (P := fun H' => gB Γ ≤ H19.size ∧ va_at (gD Γ) clX (H19.size, .inr (8, [.int 0, .null, .int 0])) H') ⟨by have := hqN; omega, ha1⟩ hl (fun z h => Or.inr (by rw [h]; omega)) (r_iLi hfl Γ H19.size) kJx4a65c_init_da8c8 t_98 dX6_init_141 rfl rfl (Nat.le_of_ble_eq_true rfl) (by decide) rfl ⟨by decide, by decide⟩ (fun v H21 locs2 hv hS hz2 hk2 => ?_)
      obtain ⟨rfl, ha1⟩ := hv
      dsimp only [Option.toList, List.nil_append]
      have hne : ∀ z : Nat, z < H19.size → H21[z]? = H19[z]? := fun z h => (hk2 z (by omega) (fun e => by omega)).trans (ho1 z h)
      replace h0 := h0.kept (hne _ h0.lt)
      replace hp := hp.kept (hne _ hp.lt)
      replace hca := hca.kept (hne _ hca.lt)
      replace hqa := hqa.kept (hne _ hqa.lt)
      replace hl1 := liC_kept hl1 (hne _ (liC_lt hl1))
      replace hl2 := liC_kept hl2 (hne _ (liC_lt hl2))
      replace hl3 := liC_kept hl3 (hne _ (liC_lt hl3))
      replace hC : CuC Γ pr cs ca H21 := hC.kept rfl (fun z h _ => hne z h)
      replace hQ : QuC Γ qs qa H21 := hQ.kept rfl (fun z h _ => hne z h)
      refine r_putFi C ck_6 h0 hS (Or.inl rfl) 6 (by decide) rfl rfl hnm rfl rfl rfl dX6_init_144 t_105 (fun x h => h) (fun H22 locs h0 oq hz3 hS => ?_)
      replace h0 : va_at (gD Γ) clX (q, .inr (6, [.ref pr, .ref ca, .ref qa, .ref l1, .ref l2, .ref l3, .ref H19.size, .null, .null, .int 0, .int 0, .int 0, .int 0, .long 0, .long 0])) H22 := h0
      replace ha1 := liC_kept ha1 (oq _ (by omega))
      replace hp := hp.kept (oq _ (by show pr ≠ q; omega))
      replace hca := hca.kept (oq _ (by show ca ≠ q; omega))
      replace hqa := hqa.kept (oq _ (by show qa ≠ q; omega))
      replace hl1 := liC_kept hl1 (oq _ (by show l1 ≠ q; omega))
      replace hl2 := liC_kept hl2 (oq _ (by show l2 ≠ q; omega))
      replace hl3 := liC_kept hl3 (oq _ (by show l3 ≠ q; omega))
      replace hC : CuC Γ pr cs ca H22 := hC.kept rfl (fun z _ h => oq z (by omega))
      replace hQ : QuC Γ qs qa H22 := hQ.kept rfl (fun z _ h => oq z (by omega))
      have hy4 : H19.size < H22.size := by omega
      clear hz1 ho1 hne hk2 hz2 oq hz3
      have hl4 := ha1
      clear ha1
      generalize H19.size = l4 at h0 hl4 hy3 hy4
      refine lv_aload_n hx hb dX6_init_147 rfl (lv_at hl 1 rfl) ?_
      refine lv_bipush (v := 10) hx hb dX6_init_148 (by decide) ?_
      refine r_newA (atype := .int) (t := 0) (n := 10) (a0 := (10, .inl (fun _ => 0))) C hS t_59 rfl (fun _ h => nomatch h) (fun cA => rfl) rfl (by decide) (by show 28 ≤ 40; decide) (by show 79 ≤ 200; decide) dX6_init_150 (fun H23 hz1 ho1 ha1 hS => ?_)
      replace h0 := h0.kept (ho1 _ h0.lt)
      replace hp := hp.kept (ho1 _ hp.lt)
      replace hca := hca.kept (ho1 _ hca.lt)
      replace hqa := hqa.kept (ho1 _ hqa.lt)
      replace hl1 := liC_kept hl1 (ho1 _ (liC_lt hl1))
      replace hl2 := liC_kept hl2 (ho1 _ (liC_lt hl2))
      replace hl3 := liC_kept hl3 (ho1 _ (liC_lt hl3))
      replace hl4 := liC_kept hl4 (ho1 _ (liC_lt hl4))
      replace hC : CuC Γ pr cs ca H23 := hC.kept rfl (fun z h _ => ho1 z h)
      replace hQ : QuC Γ qs qa H23 := hQ.kept rfl (fun z h _ => ho1 z h)
      refine r_putFi C ck_6 h0 hS (Or.inl rfl) 7 (by decide) rfl rfl hnm rfl rfl rfl dX6_init_152 t_106 (fun x h => h) (fun H24 locs h0 oq hz3 hS => ?_)
      replace h0 : va_at (gD Γ) clX (q, .inr (6, [.ref pr, .ref ca, .ref qa, .ref l1, .ref l2, .ref l3, .ref l4, .ref H22.size, .null, .int 0, .int 0, .int 0, .int 0, .long 0, .long 0])) H24 := h0
      replace ha1 := ha1.kept (oq _ (by show H22.size ≠ q; omega))
      replace hp := hp.kept (oq _ (by show pr ≠ q; omega))
      replace hca := hca.kept (oq _ (by show ca ≠ q; omega))
      replace hqa := hqa.kept (oq _ (by show qa ≠ q; omega))
      replace hl1 := liC_kept hl1 (oq _ (by show l1 ≠ q; omega))
      replace hl2 := liC_kept hl2 (oq _ (by show l2 ≠ q; omega))
      replace hl3 := liC_kept hl3 (oq _ (by show l3 ≠ q; omega))
      replace hl4 := liC_kept hl4 (oq _ (by show l4 ≠ q; omega))
      replace hC : CuC Γ pr cs ca H24 := hC.kept rfl (fun z _ h => oq z (by omega))
      replace hQ : QuC Γ qs qa H24 := hQ.kept rfl (fun z _ h => oq z (by omega))
      have hy5 : H22.size < H24.size := by omega
      clear hz1 ho1 oq hz3
      have hw6 := ha1
      clear ha1
      generalize H22.size = w6 at h0 hw6 hy4 hy5
      refine lv_aload_n hx hb dX6_init_155 rfl (lv_at hl 1 rfl) ?_
      refine lv_bipush (v := 8) hx hb dX6_init_156 (by decide) ?_
      refine r_newA (atype := .int) (t := 0) (n := 8) (a0 := (8, .inl (fun _ => 0))) C hS t_59 rfl (fun _ h => nomatch h) (fun cA => rfl) rfl (by decide) (by show 29 ≤ 40; decide) (by show 87 ≤ 200; decide) dX6_init_158 (fun H25 hz1 ho1 ha1 hS => ?_)
      replace h0 := h0.kept (ho1 _ h0.lt)
      replace hp := hp.kept (ho1 _ hp.lt)
      replace hca := hca.kept (ho1 _ hca.lt)
      replace hqa := hqa.kept (ho1 _ hqa.lt)
      replace hl1 := liC_kept hl1 (ho1 _ (liC_lt hl1))
      replace hl2 := liC_kept hl2 (ho1 _ (liC_lt hl2))
      replace hl3 := liC_kept hl3 (ho1 _ (liC_lt hl3))
      replace hl4 := liC_kept hl4 (ho1 _ (liC_lt hl4))
      replace hw6 := hw6.kept (ho1 _ hw6.lt)
      replace hC : CuC Γ pr cs ca H25 := hC.kept rfl (fun z h _ => ho1 z h)
      replace hQ : QuC Γ qs qa H25 := hQ.kept rfl (fun z h _ => ho1 z h)
      refine r_putFi C ck_6 h0 hS (Or.inl rfl) 8 (by decide) rfl rfl hnm rfl rfl rfl dX6_init_160 t_107 (fun x h => h) (fun H26 locs h0 oq hz3 hS => ?_)
      replace h0 : va_at (gD Γ) clX (q, .inr (6, [.ref pr, .ref ca, .ref qa, .ref l1, .ref l2, .ref l3, .ref l4, .ref w6, .ref H24.size, .int 0, .int 0, .int 0, .int 0, .long 0, .long 0])) H26 := h0
      replace ha1 := ha1.kept (oq _ (by show H24.size ≠ q; omega))
      replace hp := hp.kept (oq _ (by show pr ≠ q; omega))
      replace hca := hca.kept (oq _ (by show ca ≠ q; omega))
      replace hqa := hqa.kept (oq _ (by show qa ≠ q; omega))
      replace hl1 := liC_kept hl1 (oq _ (by show l1 ≠ q; omega))
      replace hl2 := liC_kept hl2 (oq _ (by show l2 ≠ q; omega))
      replace hl3 := liC_kept hl3 (oq _ (by show l3 ≠ q; omega))
      replace hl4 := liC_kept hl4 (oq _ (by show l4 ≠ q; omega))
      replace hw6 := hw6.kept (oq _ (by show w6 ≠ q; omega))
      replace hC : CuC Γ pr cs ca H26 := hC.kept rfl (fun z _ h => oq z (by omega))
      replace hQ : QuC Γ qs qa H26 := hQ.kept rfl (fun z _ h => oq z (by omega))
      have hy6 : H24.size < H26.size := by omega
      clear hz1 ho1 oq hz3
      have hw7 := ha1
      clear ha1
      generalize H24.size = w7 at h0 hw7 hy5 hy6
      exact r_vret C hr hS dX6_init_163 (by show 29 ≤ 40; decide) (by show 87 ≤ 200; decide) ⟨rfl, pr, ca, qa, l1, l2, l3, l4, w6, w7, cs, qs, hcs, hqs, hnd, hnd2, ⟨hpr, hpz, hcq, hlz, hy1, hy2, hy3, hy4, hy5⟩, hcsq, hqsl, h0, hp, hca, hC, hqa, hQ, hl1, hl2, hl3, hl4, hw6, hw7⟩
