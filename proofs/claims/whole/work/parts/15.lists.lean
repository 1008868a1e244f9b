/-! the lists' contracts over the typed memory, out of the raw ones; and the throw of java.util.NoSuchElementException -/
def insL (l : List Nat) (q x : Nat) : List Nat := l.take q ++ x :: l.drop q
theorem insA_map (g : Nat → Nat) (l : List Nat) (q x : Nat) : insA (l.map g) q (g x) = (insL l q x).map g := by
  unfold insA insL
  rw [List.map_append, List.map_cons, List.map_take, List.map_drop]
theorem getD_map9 (g : Nat → Nat) {l : List Nat} {q : Nat} (h : q < l.length) : (l.map g).getD q 0 = g (l.getD q 0) := by
  rw [List.getD_eq_getElem?_getD, List.getD_eq_getElem?_getD, List.getElem?_map, List.getElem?_eq_getElem h]; rfl
theorem erase_map9 (g : Nat → Nat) (l : List Nat) (q : Nat) : (l.map g).eraseIdx q = (l.eraseIdx q).map g := by
  induction l generalizing q with
  | nil => rfl
  | cons a l ih => cases q with
    | zero => rfl
    | succ q => rw [List.map_cons, List.eraseIdx_cons_succ, List.eraseIdx_cons_succ, List.map_cons, ih]
section CTOF
variable {l : Launch} {Γ : Gm} {A : Nat → Prop} {y : MethodName} {ws : List Cond} {n mc ms : Nat} {av : List Value} {K : Nat → Nat → Nat} {M : Mem} {xp : String → Prop}
/-- a contract over the typed memory out of raw ones, one for each shape of the cells -/
theorem ct_of {G : Type} {A' : G → Nat → Prop} {P : G → Heap → Prop} {post : G → Option Value → Heap → Prop} {Post : Option Value → (Nat → Nat → Nat) → Mem → Prop} (h : ∀ i, RTc l Γ (A' i) y ws n av (P i) (post i) mc ms)
    (go : ∀ H, gB Γ ≤ H.size → HM Γ K M H → ∃ i, P i H ∧ (∀ q, A' i q → A q) ∧ ∀ v H1, post i v H1 → H.size ≤ H1.size → (∀ q : Nat, q < H.size → ¬ A' i q → H1[q]? = H[q]?) → ∃ K' M', Post v K' M' ∧ HM Γ K' M' H1) : CT l Γ A y ws n av K M Post xp mc ms := by
  intro p e ha hc hk s m args below hf happ hp hk'
  obtain ⟨rfl, hCX, hM⟩ := hp
  obtain ⟨i, g1, g2, g3⟩ := go s.heap hCX.1 hM
  obtain ⟨n9, o, h1, h2, h3, ⟨⟨v, rfl, hv⟩, hF⟩, L, hL1, hL2⟩ := h i p e ha hc hk s m _ below hf happ ⟨rfl, hCX, g1⟩ trivial
  obtain ⟨K', M', k1, k2⟩ := g3 v _ hv hF.1 (fun q a b => hF.2 q a b)
  exact ⟨n9, _, h1, h2, h3, Or.inl ⟨⟨⟨v, K', M', rfl, k1, k2⟩, hF.1, fun q a b => hF.2 q a (fun z => b (g2 q z))⟩, L, hL1, fun q hq => g2 _ (hL2 q hq)⟩⟩
/-- a list is read -/
theorem ct_read {k i : Nat} {v0 : Value} (hk : isLs k = true) (hi : i < mN M k) (h : ∀ b, RTc l Γ pF y ws n av (LsAt Γ (K k i) b (mC M k i) ((mL M k i).map (K (eK k)))) (fun v _ => v = some v0) mc ms) : CT l Γ pF y ws n av K M (DD True (some v0) K M) xp mc ms :=
  ct_of (G := Nat) (A' := fun _ => pF) h (fun H _ hM => by
    obtain ⟨B, hB⟩ := hM.b
    exact ⟨B k i, hB.2.1 k i hk hi, fun _ z => z, fun v H1 hv hz hq => ⟨K, M, ⟨trivial, hv, rfl, rfl⟩, hM.grow (fun q hq' => hq q hq' (fun z => z))⟩⟩)
/-- a list is written -/
theorem ct_write {k i n' : Nat} {xs' : List Nat} {v0 : Option Value} {E : Nat → Heap → Prop} (hk : isLs k = true) (hi : i < mN M k) (hv : ∀ x ∈ mL M k i, x < mN M (eK k)) (hE : ∀ H B, HMB Γ K M B H → E (B k i) H)
    (h : ∀ N b, RTc l Γ (AL Γ (K k i) b N) y ws n av (fun H => LPr Γ N (K k i) b (mC M k i) ((mL M k i).map (K (eK k))) H ∧ E b H) (fun v H => v = v0 ∧ ∃ b' : Nat, (b' = b ∨ N ≤ b') ∧ LsAt Γ (K k i) b' n' (xs'.map (K (eK k))) H) mc ms) : CT l Γ (gFree Γ) y ws n av K M (DD True v0 K (sC (sL M k i xs') k i n')) xp mc ms :=
  ct_of (G := Nat × Nat) (A' := fun g => AL Γ (K k i) g.2 g.1) (fun g => h g.1 g.2) (fun H hsz hM => by
    obtain ⟨B, hB⟩ := hM.b
    have hlp := hB.lp hk hi hv hsz
    refine ⟨(H.size, B k i), ⟨hlp, hE H B hB⟩, AL.ge hlp.1, fun v H1 hv hz hq => ?_⟩
    obtain ⟨rfl, b', hb', hls⟩ := hv
    refine ⟨K, _, ⟨trivial, rfl, rfl, rfl⟩, hB.lst hk hi hls hb' (fun q q1 q2 q3 => hq q q1 (fun z => ?_))⟩
    rcases z with z | ⟨z1, z2⟩ | z
    · exact q2 z
    · exact z2 (z1.symm.trans (q3 z1))
    · exact absurd q1 (by show ¬ q < H.size; exact Nat.not_lt.mpr z))
theorem ls_elt {k i x : Nat} {B : Nat → Nat → Nat} {H : Heap} (hB : HMB Γ K M B H) (hk : isLs k = true) (hi : i < mN M k) (hx : x < mN M (eK k)) : K (eK k) x ≠ K k i ∧ K (eK k) x ≠ B k i ∧ Elt Γ (K (eK k) x) H := by
  have hM := hB.hm
  obtain ⟨h1, h2, h3, h4, h5, h6⟩ := hB
  have hk8 : 8 ≤ k := by unfold isLs at hk; simp at hk; exact hk.1
  have he5 : eK k < 5 := by unfold eK; split <;> omega
  refine ⟨fun z => by have := (h4 _ _ _ _ hx hi z).1; omega, ?_, hM.elt he5 hx⟩
  by_cases e : B k i = gE Γ
  · have := h5 _ x hx; omega
  · exact (h3 k i hk hi e).2.1 _ _ hx
theorem RTc.pre {P P' : Heap → Prop} {post : Option Value → Heap → Prop} (h : RTc l Γ A y ws n av P post mc ms) (hP : ∀ H, P' H → P H) : RTc l Γ A y ws n av P' post mc ms :=
  by unfold RTc Met at *; exact MetFree.mono h (fun a s z => ⟨z.1, z.2.1, hP _ z.2.2⟩) (fun _ _ _ _ _ z => z) (fun _ _ _ _ _ z => z)
theorem RTc.post {P : Heap → Prop} {post post' : Option Value → Heap → Prop} (h : RTc l Γ A y ws n av P post mc ms) (hP : ∀ v H, post v H → post' v H) : RTc l Γ A y ws n av P post' mc ms :=
  by unfold RTc Met at *; exact MetFree.mono h (fun a s z => z) (fun _ _ _ _ _ z => z) (fun _ _ _ _ _ z => ⟨⟨by obtain ⟨v, h1, h2⟩ := z.1.1; exact ⟨v, h1, hP _ _ h2⟩, z.1.2⟩, z.2⟩)
end CTOF

theorem c_lsize {l : Launch} (hfl : l.stackTraces = false) (Γ : Gm) (K : Nat → Nat → Nat) (M : Mem) (k i : Nat) (hk : isLs k = true) (hi : i < mN M k) : CT l Γ pF yJx4a65c_size_8abf5 (wsO yJx4a65c_size_8abf5 cJx4a65c_size_8abf5 1 (some .int)) 0 [.ref (K k i)] K M (DD True (some (.int (nI (mL M k i).length))) K M) xNo 0 0 :=
  ct_read hk hi (fun b => (r_size hfl Γ _ b _ _).post (fun v H z => by rw [z, List.length_map]))
theorem c_lempty {l : Launch} (hfl : l.stackTraces = false) (Γ : Gm) (K : Nat → Nat → Nat) (M : Mem) (k i : Nat) (hk : isLs k = true) (hi : i < mN M k) : CT l Γ pF yJx4a65c_isEmpty_aae02 (wsO yJx4a65c_isEmpty_aae02 cJx4a65c_isEmpty_aae02 1 (some .boolean)) 0 [.ref (K k i)] K M (DD True (some (.int (bI (mL M k i).isEmpty))) K M) xNo 0 0 :=
  ct_read hk hi (fun b => (r_isEmpty hfl Γ _ b _ _).post (fun v H z => by rw [z, List.isEmpty_map]))
theorem c_lget {l : Launch} (hfl : l.stackTraces = false) (Γ : Gm) (K : Nat → Nat → Nat) (M : Mem) (k i : Nat) (q : Nat) (hk : isLs k = true) (hi : i < mN M k) (hq : q < (mL M k i).length) : CT l Γ pF yJx4a65c_get_915e3 (wsO yJx4a65c_get_915e3 cJx4a65c_get_915e3 2 (some (.object "java/lang/Object"))) 3 [.ref (K k i), .int (nI q)] K M (DD True (some (.ref (K (eK k) ((mL M k i).getD q 0)))) K M) xNo 0 0 :=
  ct_read hk hi (fun b => (r_get hfl Γ _ b _ q _ (by rw [List.length_map]; exact hq)).post (fun v H z => by rw [z, getD_map9 _ hq]))
theorem c_ladd {l : Launch} (hfl : l.stackTraces = false) (Γ : Gm) (K : Nat → Nat → Nat) (M : Mem) (k i : Nat) (x : Nat) (hk : isLs k = true) (hi : i < mN M k) (hx : x < mN M (eK k)) (hl : (mL M k i).length < 80) (hv : ∀ z ∈ mL M k i, z < mN M (eK k)) : CT l Γ (gFree Γ) yJx4a65c_add_9ea2d (wsO yJx4a65c_add_9ea2d cJx4a65c_add_9ea2d 2 (some .boolean)) 6 [.ref (K k i), .ref (K (eK k) x)] K M (DD True (some (.int 1)) K (sC (sL M k i (mL M k i ++ [x])) k i 0)) xNo 1 120 :=
  ct_write (E := fun b H => K (eK k) x ≠ K k i ∧ K (eK k) x ≠ b ∧ Elt Γ (K (eK k) x) H) hk hi hv (fun H B hB => ls_elt hB hk hi hx) (fun N b => (r_add hfl Γ N _ b _ _ _ (by rw [List.length_map]; exact hl)).post (fun v H z => by rw [List.map_append]; exact z))
theorem c_lins {l : Launch} (hfl : l.stackTraces = false) (Γ : Gm) (K : Nat → Nat → Nat) (M : Mem) (k i : Nat) (q x : Nat) (hk : isLs k = true) (hi : i < mN M k) (hx : x < mN M (eK k)) (hl : (mL M k i).length < 80) (hq : q ≤ (mL M k i).length) (hv : ∀ z ∈ mL M k i, z < mN M (eK k)) : CT l Γ (gFree Γ) yJx4a65c_add_7a177 (wsO yJx4a65c_add_7a177 cJx4a65c_add_7a177 5 none) 6 [.ref (K k i), .int (nI q), .ref (K (eK k) x)] K M (DD True none K (sC (sL M k i (insL (mL M k i) q x)) k i 0)) xNo 1 120 :=
  ct_write (E := fun b H => K (eK k) x ≠ K k i ∧ K (eK k) x ≠ b ∧ Elt Γ (K (eK k) x) H) hk hi hv (fun H B hB => ls_elt hB hk hi hx) (fun N b => (r_ins hfl Γ N _ b _ q _ _ (by rw [List.length_map]; exact hl) (by rw [List.length_map]; exact hq)).post (fun v H z => by rw [insA_map] at z; exact z))
theorem c_lins0 {l : Launch} (hfl : l.stackTraces = false) (Γ : Gm) (K : Nat → Nat → Nat) (M : Mem) (k i : Nat) (q x : Nat) (hk : isLs k = true) (hi : i < mN M k) (hx : x < mN M (eK k)) (hl : (mL M k i).length < 80) (hc : 1 ≤ mC M k i) (hq : q ≤ (mL M k i).length) (hv : ∀ z ∈ mL M k i, z < mN M (eK k)) : CT l Γ (gFree Γ) yJx4a65c_add_7a177 (wsO yJx4a65c_add_7a177 cJx4a65c_add_7a177 5 none) 6 [.ref (K k i), .int (nI q), .ref (K (eK k) x)] K M (DD True none K (sC (sL M k i (insL (mL M k i) q x)) k i 0)) xNo 0 0 :=
  ct_write (E := fun b H => K (eK k) x ≠ K k i ∧ K (eK k) x ≠ b ∧ Elt Γ (K (eK k) x) H) hk hi hv (fun H B hB => ls_elt hB hk hi hx) (fun N b => (r_ins0 hfl Γ N _ b _ q _ _ (by rw [List.length_map]; exact hl) (by rw [List.length_map]; exact hq) hc).post (fun v H z => by rw [insA_map] at z; exact z))
theorem c_lremove {l : Launch} (hfl : l.stackTraces = false) (Γ : Gm) (K : Nat → Nat → Nat) (M : Mem) (k i : Nat) (q : Nat) (hk : isLs k = true) (hi : i < mN M k) (hq : q < (mL M k i).length) (hv : ∀ z ∈ mL M k i, z < mN M (eK k)) : CT l Γ (gFree Γ) yJx4a65c_remove_915e3 (wsO yJx4a65c_remove_915e3 cJx4a65c_remove_915e3 4 (some (.object "java/lang/Object"))) 3 [.ref (K k i), .int (nI q)] K M (DD True (some (.ref (K (eK k) ((mL M k i).getD q 0)))) K (sC (sL M k i ((mL M k i).eraseIdx q)) k i 1)) xNo 0 0 :=
  ct_write (E := fun _ _ => True) hk hi hv (fun _ _ _ => trivial) (fun N b => ((r_remove hfl Γ N _ b _ q _ (by rw [List.length_map]; exact hq)).pre (fun H z => z.1)).post (fun v H z => by rw [getD_map9 _ hq, erase_map9] at z; exact z))
theorem c_lclear {l : Launch} (hfl : l.stackTraces = false) (Γ : Gm) (K : Nat → Nat → Nat) (M : Mem) (k i : Nat) (hk : isLs k = true) (hi : i < mN M k) (hv : ∀ z ∈ mL M k i, z < mN M (eK k)) : CT l Γ (gFree Γ) yJx4a65c_clear_da8c8 (wsO yJx4a65c_clear_da8c8 cJx4a65c_clear_da8c8 4 none) 1 [.ref (K k i)] K M (DD True none K (sC (sL M k i []) k i 0)) xNo 0 0 :=
  ct_write (xs' := []) (E := fun _ _ => True) hk hi hv (fun _ _ _ => trivial) (fun N b => (r_clear hfl Γ N _ b _ _).pre (fun H z => z.1))
/-- a row of numbers filled -/
def fillM (M : Mem) (k i : Nat) (x : Int32) : Mem := (M.1, (fun a b c => if a = k ∧ b < aLen k ∧ c = i then x else M.2.1 a b c), M.2.2)
def filN (M : Mem) (k i n : Nat) (x : Int32) : Mem := (M.1, (fun a b c => if a = k ∧ b < n ∧ c = i then x else M.2.1 a b c), M.2.2)
theorem filN_0 {M : Mem} {k i : Nat} {x : Int32} : filN M k i 0 x = M := by
  unfold filN
  have e : (fun a b c => if a = k ∧ b < 0 ∧ c = i then x else M.2.1 a b c) = M.2.1 := by
    funext a b c
    exact if_neg (fun z => absurd z.2.1 (Nat.not_lt_zero _))
  rw [e]
theorem filN_s {M : Mem} {k i n : Nat} {x : Int32} : sT (filN M k i n x) k n i x = filN M k i (n + 1) x := by
  unfold filN sT u3
  have e : (fun a b c => if a = k ∧ b = n ∧ c = i then x else (M.1, (fun a b c => if a = k ∧ b < n ∧ c = i then x else M.2.1 a b c), M.2.2).2.1 a b c) = fun a b c => if a = k ∧ b < n + 1 ∧ c = i then x else M.2.1 a b c := by
    funext a b c
    by_cases h1 : a = k ∧ b = n ∧ c = i
    · rw [if_pos h1, if_pos ⟨h1.1, by omega, h1.2.2⟩]
    · rw [if_neg h1]
      show (if a = k ∧ b < n ∧ c = i then x else M.2.1 a b c) = _
      by_cases h2 : a = k ∧ b < n ∧ c = i
      · rw [if_pos h2, if_pos ⟨h2.1, by omega, h2.2.2⟩]
      · rw [if_neg h2, if_neg (fun z => h2 ⟨z.1, by have := fun w => h1 ⟨z.1, w, z.2.2⟩; omega, z.2.2⟩)]
  rw [e]

set_option maxHeartbeats 1500000 in
set_option maxRecDepth 100000 in
theorem c_fill {l : Launch} (hfl : l.stackTraces = false) (Γ : Gm) (K : Nat → Nat → Nat) (M : Mem) (k i : Nat) (x : Int32) (hk : RwOk k 0 (aLen k)) (hi : i < mN M k) : CT l Γ (gFree Γ) yJ7_fill_53178 (wsO yJ7_fill_53178 cJ7_fill_53178 4 none) 1 [.ref (K k i), .int x] K M (DD True none K (fillM M k i x)) xNo 0 0 := by
  refine ct_intro hfl (by decide) (Nat.le_of_ble_eq_true rfl) ?_
  intro p e s m args below meth c C ht hr hnm hM ls hl
  have hx := C.1
  have hb := C.2.1
  have hts := C.2.2.2.2.1
  have hK := C.2.2.2.2.2.2.1.2.1.1
  have hS : va_S (gFree Γ) s.heap s.heap [] := va_S.rf
  have hl : lv_has ls 4 [(0, .ref (K k i)), (1, .int x)] := hl
  have hal : aLen k ≤ 80 := by unfold aLen; split <;> omega
  refine lv_iconst (v := 0) hx hb dJ7_fill_53178_0 (by decide) ?_
  refine lv_istore_n (lv' := [(2, _), (0, _), (1, _)]) hx hb dJ7_fill_53178_1 rfl hl (by decide) rfl (fun ls hl => ?_)
  refine lv_aload_n hx hb dJ7_fill_53178_2 rfl (lv_at hl 1 rfl) ?_
  refine va_alen hx hb hK (va_P.one (hM.row hk hi)) 0 0 rfl rfl (v := nI (aLen k)) rfl dJ7_fill_53178_3 ?_
  refine lv_istore_n (lv' := [(3, _), (2, _), (0, _), (1, _)]) hx hb dJ7_fill_53178_4 rfl hl (by decide) rfl (fun ls hl => ?_)
  suffices K5 : ∀ (n9 j : Nat), aLen k - j < n9 → j ≤ aLen k → ∀ (H : Heap) (locs : List Loc) (ls : Array Slot), HM Γ K (filN M k i j x) H → va_S (gFree Γ) s.heap H locs → lv_has ls 4 [(0, .ref (K k i)), (1, .int x), (2, .int (nI j)), (3, .int (nI (aLen k)))] → W p l e (rmL 1 0 0) s m args below meth c H locs 0 0 (vx_MQ below (cQ Γ (gFree Γ) (DD True none K (fillM M k i x))) (cX Γ (gFree Γ) K M xNo) args s 0 0 (gFree Γ)) (F0 m 5 ls []) by
    exact K5 _ 0 (Nat.lt_succ_self _) (Nat.zero_le _) _ _ _ (by rw [filN_0]; exact hM) hS (lv_sub hl [2, 3, 1, 0] rfl)
  clear hl hS hM
  intro n9
  induction n9 with
  | zero => intro j h9; exact absurd h9 (Nat.not_lt_zero _)
  | succ n9 ih =>
    intro j h9 hj H locs ls hM hS hl
    refine lv_iload_n hx hb dJ7_fill_53178_5 rfl (lv_at hl 2 rfl) ?_
    refine lv_iload_n hx hb dJ7_fill_53178_6 rfl (lv_at hl 3 rfl) ?_
    refine lv_icmp_ge (tgt := 20) hx hb dJ7_fill_53178_7 (by decide) (fun c_7 => ?_) (fun c_7 => ?_)
    · have hje : j = aLen k := by
        rcases Nat.lt_or_ge j (aLen k) with h | h
        · exact absurd c_7 (nI_ge h (by omega))
        · omega
      subst hje
      exact g_vret C hr hM hS dJ7_fill_53178_20 (by decide) (by decide) ⟨trivial, rfl, rfl, rfl⟩
    · have hjl : j < aLen k := by
        rcases Nat.lt_or_ge j (aLen k) with h | h
        · exact h
        · exact absurd (nI_le (a := aLen k) (b := j) h (by omega)) c_7
      refine lv_aload_n hx hb dJ7_fill_53178_10 rfl (lv_at hl 0 rfl) ?_
      refine lv_iload_n hx hb dJ7_fill_53178_11 rfl (lv_at hl 2 rfl) ?_
      refine lv_iload_n hx hb dJ7_fill_53178_12 rfl (lv_at hl 1 rfl) ?_
      refine g_iast C hM hS hk hi j rfl hjl (by omega) dJ7_fill_53178_13 (fun H locs hM hS => ?_)
      refine lv_iinc (k := 2) (v := nI (j + 1)) (lv' := [(2, _), (0, _), (1, _), (3, _)]) hx hb dJ7_fill_53178_14 hl rfl (nI_1 j) (by decide) rfl (fun ls hl => ?_)
      refine lv_goto (tgt := 5) hx hb dJ7_fill_53178_17 (by decide) ?_
      exact ih (j + 1) (by omega) (by omega) _ _ _ (by rw [← filN_s]; exact hM) hS (lv_sub hl [1, 2, 0, 3] rfl)

theorem kJx4a65c_size_8abf5 : CeeV yJx4a65c_size_8abf5 RJx4a65c cJx4a65c_size_8abf5 1 (some .int) 0 := ⟨t_154, t_155, t_6, t_156, by decide +kernel, by decide⟩
theorem kJx4a65c_isEmpty_aae02 : CeeV yJx4a65c_isEmpty_aae02 RJx4a65c cJx4a65c_isEmpty_aae02 1 (some .boolean) 0 := ⟨t_225, t_226, t_6, t_227, by decide +kernel, by decide⟩
theorem kJx4a65c_get_915e3 : CeeV yJx4a65c_get_915e3 RJx4a65c cJx4a65c_get_915e3 2 (some (.object "java/lang/Object")) 1 := ⟨t_182, t_183, t_6, t_184, by decide +kernel, by decide⟩
theorem kJx4a65c_add_9ea2d : CeeV yJx4a65c_add_9ea2d RJx4a65c cJx4a65c_add_9ea2d 2 (some .boolean) 1 := ⟨t_820, t_821, t_6, t_822, by decide +kernel, by decide⟩
theorem kJx4a65c_add_7a177 : CeeV yJx4a65c_add_7a177 RJx4a65c cJx4a65c_add_7a177 5 none 2 := ⟨t_370, t_371, t_6, t_372, by decide +kernel, by decide⟩
theorem kJx4a65c_remove_915e3 : CeeV yJx4a65c_remove_915e3 RJx4a65c cJx4a65c_remove_915e3 4 (some (.object "java/lang/Object")) 1 := ⟨t_354, t_355, t_6, t_356, by decide +kernel, by decide⟩
theorem kJx4a65c_clear_da8c8 : CeeV yJx4a65c_clear_da8c8 RJx4a65c cJx4a65c_clear_da8c8 4 none 0 := ⟨t_1194, t_1195, t_6, t_1196, by decide +kernel, by decide⟩
theorem kJ7_fill_53178 : CeeS yJ7_fill_53178 cJ7_fill_53178 4 none 2 := ⟨t_1255, t_22, t_1256, by decide +kernel, by decide⟩
section RECV
variable {p : Program} {l : Launch} {e : Env} {R : Room} {s : State} {m : MethodId} {args : Array Value} {below : List Frame} {meth : Method} {c : Code} {H : Heap} {locs : List Loc} {cells slots : Nat} {Q : State → Prop}
variable {cc : ByteArray} {nL : Nat} {own : String} {Γ : Gm} {A : Nat → Prop} {K : Nat → Nat → Nat} {M : Mem} {pc : Nat} {ls : Array Slot} {rest : List Value} {lvs : List (Nat × Value)} {n mc0 ms0 mc ms : Nat} {xp : String → Prop}
theorem HM.recvL {k i : Nat} (C : Cx Γ p l s m args meth c cc nL own) (h : HM Γ K M H) (hk : isLs k = true) (hi : i < mN M k) : ∃ cell : Cell, H[K k i]? = some cell ∧ cell.vm.isStatics = false ∧ s.vm.findClass RJx4a65c = some cell.cls := by
  obtain ⟨-, ⟨B, h2, -⟩, -⟩ := h
  obtain ⟨m0, cap, f, h1, -⟩ := h2 k i hk hi
  exact va_recv (q := (RJx4a65c, TJx4a65c, 3)) (C.2.2.2.2.2.2.1.2.1.1) (va_P.one h1) rfl (q0 := 0) rfl
end RECV
theorem wn0 {M : Mem} (w : Wf M) : mN M 0 ≤ 6 := w.1.1
theorem wn1 {M : Mem} (w : Wf M) : mN M 1 = 8 := w.1.2.1
theorem wn2 {M : Mem} (w : Wf M) : mN M 2 ≤ 80 := w.1.2.2.1
theorem wn3 {M : Mem} (w : Wf M) : mN M 3 ≤ 8 := w.1.2.2.2.1
theorem wn4 {M : Mem} (w : Wf M) : mN M 4 ≤ 40 := w.1.2.2.2.2.1
theorem wn5 {M : Mem} (w : Wf M) : mN M 5 = 6 := w.1.2.2.2.2.2.1
theorem wn6 {M : Mem} (w : Wf M) : 0 < mN M 6 := by rw [w.1.2.2.2.2.2.2.1]; decide
theorem wn8 {M : Mem} {i : Nat} (w : Wf M) (h : i < mN M 4) : i < mN M 8 := by rw [w.1.2.2.2.2.2.2.2.1]; exact h
theorem wn9 {M : Mem} {i : Nat} (w : Wf M) (h : i < 6) : i < mN M 9 := by rw [w.1.2.2.2.2.2.2.2.2.1]; exact h
theorem wn10 {M : Mem} (w : Wf M) : 0 < mN M 10 := by rw [w.1.2.2.2.2.2.2.2.2.2.1]; decide
theorem wn11 {M : Mem} (w : Wf M) : 0 < mN M 11 := by rw [w.1.2.2.2.2.2.2.2.2.2.2.1]; decide
theorem wn12 {M : Mem} (w : Wf M) : 0 < mN M 12 := by rw [w.1.2.2.2.2.2.2.2.2.2.2.2.1]; decide
theorem wn13 {M : Mem} (w : Wf M) : 0 < mN M 13 := by rw [w.1.2.2.2.2.2.2.2.2.2.2.2.2.1]; decide
theorem wn14 {M : Mem} {i : Nat} (w : Wf M) (h : i < mN M 3) : i < mN M 14 := by rw [w.1.2.2.2.2.2.2.2.2.2.2.2.2.2.1]; exact h
theorem wn15 {M : Mem} (w : Wf M) : 0 < mN M 15 := by rw [w.1.2.2.2.2.2.2.2.2.2.2.2.2.2.2.1]; decide
theorem wn16 {M : Mem} (w : Wf M) : 0 < mN M 16 := by rw [w.1.2.2.2.2.2.2.2.2.2.2.2.2.2.2.2.1]; decide
theorem wn17 {M : Mem} (w : Wf M) : 0 < mN M 17 := by rw [w.1.2.2.2.2.2.2.2.2.2.2.2.2.2.2.2.2.1]; decide
theorem wn18 {M : Mem} (w : Wf M) : 0 < mN M 18 := by rw [w.1.2.2.2.2.2.2.2.2.2.2.2.2.2.2.2.2.2.1]; decide
theorem wn19 {M : Mem} (w : Wf M) : 0 < mN M 19 := by rw [w.1.2.2.2.2.2.2.2.2.2.2.2.2.2.2.2.2.2.2]; decide
/-- a number of an object, given as an int -/
def ix (x : Int32) : Nat := x.toNatClampNeg
theorem ix_nI {q : Nat} (h : q < 2 ^ 31) : ix (nI q) = q := nI_clamp h
def inN (x : Int32) (n : Nat) : Bool := inB x 0 (nI n - 1)
theorem inN_of {x : Int32} {n : Nat} (h : inN x n = true) (hn : n < 2 ^ 31) : ∃ q : Nat, q < n ∧ x = nI q := by
  unfold inN inB at h
  rw [Bool.and_eq_true] at h
  obtain ⟨h1, h2⟩ := h
  have h1 : ¬ x < 0 := by simpa using h1
  have h2 : ¬ nI n - 1 < x := by simpa using h2
  obtain ⟨j, hj, rfl⟩ := nI_of h1
  refine ⟨j, ?_, rfl⟩
  rcases Nat.lt_or_ge j n with q | q
  · exact q
  · exfalso
    refine h2 ?_
    rw [Int32.lt_iff_toInt_lt, nI_toInt hj]
    cases n with
    | zero => rw [show nI 0 - 1 = (-1 : Int32) by decide, show (-1 : Int32).toInt = -1 by decide]; omega
    | succ n => rw [nI_pred, nI_toInt (by omega)]; omega
theorem inN_nI {q n : Nat} (h : q < n) (hn : n < 2 ^ 31) : inN (nI q) n = true := by
  unfold inN inB
  cases n with
  | zero => omega
  | succ n =>
    rw [nI_pred, decide_eq_false (nI_pos (n := q) (by omega)), decide_eq_false (nI_nlt (by omega) (by omega))]
    rfl
theorem inN_ix {x : Int32} {n : Nat} (h : inN x n = true) (hn : n < 2 ^ 31) : ix x < n ∧ x = nI (ix x) := by
  obtain ⟨q, hq, rfl⟩ := inN_of h hn
  rw [ix_nI (by omega)]
  exact ⟨hq, rfl⟩
section DESKLISTS
variable {l : Launch}
theorem c_size10 (hfl : l.stackTraces = false) (Γ : Gm) (K : Nat → Nat → Nat) (M : Mem) (w : Wf M) : CT l Γ pF yJx4a65c_size_8abf5 (wsO yJx4a65c_size_8abf5 cJx4a65c_size_8abf5 1 (some .int)) 0 [.ref (K 10 0)] K M (DD True (some (.int (nI (mN M 2)))) K M) xNo 0 0 := by
  have h := c_lsize hfl Γ K M 10 0 rfl (wn10 w)
  rwa [w.2.2.2.1.1, List.length_range] at h
theorem c_get10 (hfl : l.stackTraces = false) (Γ : Gm) (K : Nat → Nat → Nat) (M : Mem) (x : Int32) (w : Wf M) (hx : inN x (mN M 2) = true) : CT l Γ pF yJx4a65c_get_915e3 (wsO yJx4a65c_get_915e3 cJx4a65c_get_915e3 2 (some (.object "java/lang/Object"))) 3 [.ref (K 10 0), .int x] K M (DD True (some (.ref (K 2 (ix x)))) K M) xNo 0 0 := by
  obtain ⟨h1, h2⟩ := inN_ix hx (by have := wn2 w; omega)
  have h := c_lget hfl Γ K M 10 0 (ix x) rfl (wn10 w) (by rw [w.2.2.2.1.1, List.length_range]; exact h1)
  have e : (List.range (mN M 2)).getD (ix x) 0 = ix x := by rw [List.getD_eq_getElem?_getD, List.getElem?_range h1]; rfl
  rw [w.2.2.2.1.1, e] at h
  rw [h2, ix_nI (by have := wn2 w; omega)]
  exact h
theorem c_size11 (hfl : l.stackTraces = false) (Γ : Gm) (K : Nat → Nat → Nat) (M : Mem) (w : Wf M) : CT l Γ pF yJx4a65c_size_8abf5 (wsO yJx4a65c_size_8abf5 cJx4a65c_size_8abf5 1 (some .int)) 0 [.ref (K 11 0)] K M (DD True (some (.int (nI (mN M 4)))) K M) xNo 0 0 := by
  have h := c_lsize hfl Γ K M 11 0 rfl (wn11 w)
  rwa [w.2.2.2.1.2.1, List.length_range] at h
theorem c_get11 (hfl : l.stackTraces = false) (Γ : Gm) (K : Nat → Nat → Nat) (M : Mem) (x : Int32) (w : Wf M) (hx : inN x (mN M 4) = true) : CT l Γ pF yJx4a65c_get_915e3 (wsO yJx4a65c_get_915e3 cJx4a65c_get_915e3 2 (some (.object "java/lang/Object"))) 3 [.ref (K 11 0), .int x] K M (DD True (some (.ref (K 4 (ix x)))) K M) xNo 0 0 := by
  obtain ⟨h1, h2⟩ := inN_ix hx (by have := wn4 w; omega)
  have h := c_lget hfl Γ K M 11 0 (ix x) rfl (wn11 w) (by rw [w.2.2.2.1.2.1, List.length_range]; exact h1)
  have e : (List.range (mN M 4)).getD (ix x) 0 = ix x := by rw [List.getD_eq_getElem?_getD, List.getElem?_range h1]; rfl
  rw [w.2.2.2.1.2.1, e] at h
  rw [h2, ix_nI (by have := wn4 w; omega)]
  exact h
theorem c_size12 (hfl : l.stackTraces = false) (Γ : Gm) (K : Nat → Nat → Nat) (M : Mem) (w : Wf M) : CT l Γ pF yJx4a65c_size_8abf5 (wsO yJx4a65c_size_8abf5 cJx4a65c_size_8abf5 1 (some .int)) 0 [.ref (K 12 0)] K M (DD True (some (.int (nI (mN M 0)))) K M) xNo 0 0 := by
  have h := c_lsize hfl Γ K M 12 0 rfl (wn12 w)
  rwa [w.2.2.2.1.2.2.1, List.length_range] at h
theorem c_get12 (hfl : l.stackTraces = false) (Γ : Gm) (K : Nat → Nat → Nat) (M : Mem) (x : Int32) (w : Wf M) (hx : inN x (mN M 0) = true) : CT l Γ pF yJx4a65c_get_915e3 (wsO yJx4a65c_get_915e3 cJx4a65c_get_915e3 2 (some (.object "java/lang/Object"))) 3 [.ref (K 12 0), .int x] K M (DD True (some (.ref (K 0 (ix x)))) K M) xNo 0 0 := by
  obtain ⟨h1, h2⟩ := inN_ix hx (by have := wn0 w; omega)
  have h := c_lget hfl Γ K M 12 0 (ix x) rfl (wn12 w) (by rw [w.2.2.2.1.2.2.1, List.length_range]; exact h1)
  have e : (List.range (mN M 0)).getD (ix x) 0 = ix x := by rw [List.getD_eq_getElem?_getD, List.getElem?_range h1]; rfl
  rw [w.2.2.2.1.2.2.1, e] at h
  rw [h2, ix_nI (by have := wn0 w; omega)]
  exact h
theorem c_size13 (hfl : l.stackTraces = false) (Γ : Gm) (K : Nat → Nat → Nat) (M : Mem) (w : Wf M) : CT l Γ pF yJx4a65c_size_8abf5 (wsO yJx4a65c_size_8abf5 cJx4a65c_size_8abf5 1 (some .int)) 0 [.ref (K 13 0)] K M (DD True (some (.int (nI (mN M 3)))) K M) xNo 0 0 := by
  have h := c_lsize hfl Γ K M 13 0 rfl (wn13 w)
  rwa [w.2.2.2.1.2.2.2, List.length_range] at h
theorem c_get13 (hfl : l.stackTraces = false) (Γ : Gm) (K : Nat → Nat → Nat) (M : Mem) (x : Int32) (w : Wf M) (hx : inN x (mN M 3) = true) : CT l Γ pF yJx4a65c_get_915e3 (wsO yJx4a65c_get_915e3 cJx4a65c_get_915e3 2 (some (.object "java/lang/Object"))) 3 [.ref (K 13 0), .int x] K M (DD True (some (.ref (K 3 (ix x)))) K M) xNo 0 0 := by
  obtain ⟨h1, h2⟩ := inN_ix hx (by have := wn3 w; omega)
  have h := c_lget hfl Γ K M 13 0 (ix x) rfl (wn13 w) (by rw [w.2.2.2.1.2.2.2, List.length_range]; exact h1)
  have e : (List.range (mN M 3)).getD (ix x) 0 = ix x := by rw [List.getD_eq_getElem?_getD, List.getElem?_range h1]; rfl
  rw [w.2.2.2.1.2.2.2, e] at h
  rw [h2, ix_nI (by have := wn3 w; omega)]
  exact h
end DESKLISTS
