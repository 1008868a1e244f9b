section OPT
variable {p : Program} {l : Launch} {e : Env} {R : Room} {s : State} {m : MethodId} {args : Array Value} {below : List Frame} {meth : Method} {c : Code} {H : Heap} {locs : List Loc} {cells slots : Nat} {Q : State → Prop}
variable {cc : ByteArray} {nL : Nat} {own : String} {Γ : Gm} {A : Nat → Prop} {K : Nat → Nat → Nat} {M : Mem} {pc : Nat} {ls : Array Slot} {rest : List Value} {lvs : List (Nat × Value)} {n mc0 ms0 mc ms : Nat} {xp : String → Prop} {o : Option Nat}
theorem g_aload_nO (hexec : p.tables.exec = Jvm.exec) (hb : c.code = cc) {k : Fin 4} {i : Nat} (hdg : decode cc pc = .ok (.aload_n k, 1)) (hi : (k : Nat) = i) (hl : ls[i]? = some (.val (va_rf o)))
    (kk : W p l e R s m args below meth c H locs cells slots Q (F0 m (pc + 1) ls (va_rf o :: rest))) : W p l e R s m args below meth c H locs cells slots Q (F0 m pc ls rest) := by
  cases o with
  | none => exact lv_aload_nN hexec hb hdg hi hl kk
  | some a => exact lv_aload_n hexec hb hdg hi hl kk
theorem g_aloadO (hexec : p.tables.exec = Jvm.exec) (hb : c.code = cc) {i : Nat} (hdg : decode cc pc = .ok (.aload i, 2)) (hl : ls[i]? = some (.val (va_rf o)))
    (kk : W p l e R s m args below meth c H locs cells slots Q (F0 m (pc + 2) ls (va_rf o :: rest))) : W p l e R s m args below meth c H locs cells slots Q (F0 m pc ls rest) := by
  cases o with
  | none => exact lv_aloadN hexec hb hdg hl kk
  | some a => exact lv_aload hexec hb hdg hl kk
theorem g_astore_nO (hexec : p.tables.exec = Jvm.exec) (hb : c.code = cc) {k : Fin 4} {i nL : Nat} {lv lv' : List (Nat × Value)} (hdg : decode cc pc = .ok (.astore_n k, 1)) (hi : (k : Nat) = i) (h : lv_has ls nL lv) (hn : i < nL) (hl : (i, va_rf o) :: lv.filter (fun q => !(q.1 == i) && !(q.1 + 1 == i && q.2.category == 2)) = lv')
    (kk : ∀ ls' : Array Slot, lv_has ls' nL lv' → W p l e R s m args below meth c H locs cells slots Q (F0 m (pc + 1) ls' rest)) : W p l e R s m args below meth c H locs cells slots Q (F0 m pc ls (va_rf o :: rest)) := by
  cases o with
  | none => exact lv_astore_nN hexec hb hdg hi h hn hl kk
  | some a => exact lv_astore_n hexec hb hdg hi h hn hl kk
theorem g_astoreO (hexec : p.tables.exec = Jvm.exec) (hb : c.code = cc) {i nL : Nat} {lv lv' : List (Nat × Value)} (hdg : decode cc pc = .ok (.astore i, 2)) (h : lv_has ls nL lv) (hn : i < nL) (hl : (i, va_rf o) :: lv.filter (fun q => !(q.1 == i) && !(q.1 + 1 == i && q.2.category == 2)) = lv')
    (kk : ∀ ls' : Array Slot, lv_has ls' nL lv' → W p l e R s m args below meth c H locs cells slots Q (F0 m (pc + 2) ls' rest)) : W p l e R s m args below meth c H locs cells slots Q (F0 m pc ls (va_rf o :: rest)) := by
  cases o with
  | none => exact lv_astoreN hexec hb hdg h hn hl kk
  | some a => exact lv_astore hexec hb hdg h hn hl kk
theorem g_aretO {ty : FieldType} {K0 : Nat → Nat → Nat} {M0 : Mem} {post : Option Value → (Nat → Nat → Nat) → Mem → Prop} (C : Cx Γ p l s m args meth c cc nL own) (hr : meth.sig.returnType = some ty) (hM : HM Γ K M H) (hS : va_S A s.heap H locs) (hrt : (∃ n, ty = .object n) ∨ ∃ t, ty = .array t) (hdg : decode cc pc = .ok (.areturn, 1)) (hc : cells ≤ mc) (hs : slots ≤ ms) (hp : post (some (va_rf o)) K M) :
    W p l e R s m args below meth c H locs cells slots (vx_MQ below (cQ Γ A post) (cX Γ A K0 M0 xp) args s mc ms A) (F0 m pc ls [va_rf o]) := by
  cases o with
  | none => exact g_aretN C hr hM hS hrt hdg hc hs hp
  | some a => exact g_aretR C hr hM hS hrt hdg hc hs hp
theorem va_cat (o : Option Nat) : (va_rf o).category = 1 := by cases o <;> rfl
theorem fl_eq {lv : List (Nat × Value)} {i : Nat} (h : ∀ q ∈ lv, q.1 + 1 = i → q.2.category ≠ 2) : lv.filter (fun q => !(q.1 == i) && !(q.1 + 1 == i && q.2.category == 2)) = lv.filter (fun q => !(q.1 == i)) := by
  refine List.filter_congr fun q hq => ?_
  by_cases e : q.1 + 1 = i
  · rw [beq_eq_false_iff_ne.mpr (h q hq e), Bool.and_false]; simp
  · rw [beq_eq_false_iff_ne.mpr e, Bool.false_and]; simp
theorem g_iincO (hexec : p.tables.exec = Jvm.exec) (hb : c.code = cc) {i nL k : Nat} {n : Int} {x v : Int32} {lv lv' : List (Nat × Value)} (hdg : decode cc pc = .ok (.iinc i n, 3)) (h : lv_has ls nL lv) (hcat : ∀ q ∈ lv, q.1 + 1 = i → q.2.category ≠ 2) (hk : lv[k]? = some (i, .int x)) (hv : x + Int32.ofInt n = v) (hn : i < nL) (hl : (i, Value.int v) :: lv.filter (fun q => !(q.1 == i)) = lv')
    (kk : ∀ ls' : Array Slot, lv_has ls' nL lv' → W p l e R s m args below meth c H locs cells slots Q (F0 m (pc + 3) ls' rest)) : W p l e R s m args below meth c H locs cells slots Q (F0 m pc ls rest) :=
  lv_iinc hexec hb hdg h hk hv hn (by rw [fl_eq hcat]; exact hl) kk
end OPT
theorem kX5_length : CeeV yX5_length RX5 cX5_length 1 (some .int) 0 := ⟨t_1096, t_1097, t_3, t_1098, by decide +kernel, by decide⟩
theorem kX5_head : CeeV yX5_head RX5 cX5_head 1 (some (.object "TicketWeaver$Ticket")) 0 := ⟨t_221, t_222, t_3, t_223, by decide +kernel, by decide⟩
theorem kX5_add : CeeV yX5_add RX5 cX5_add 2 none 1 := ⟨t_874, t_875, t_3, t_876, by decide +kernel, by decide⟩
theorem kX5_remove : CeeV yX5_remove RX5 cX5_remove 3 none 1 := ⟨t_832, t_833, t_3, t_834, by decide +kernel, by decide⟩
theorem kX5_orderAnew : CeeV yX5_orderAnew RX5 cX5_orderAnew 2 none 0 := ⟨t_349, t_350, t_3, t_351, by decide +kernel, by decide⟩
theorem kX5_insertBelow : CeeV yX5_insertBelow RX5 cX5_insertBelow 4 none 2 := ⟨t_366, s_7, t_3, t_367, by decide +kernel, by decide⟩
theorem wq5 {M : Mem} {q : Nat} (w : Wf M) (h : q < 6) : q < mN M 5 := by rw [wn5 w]; exact h
theorem getD_lt {M : Mem} {q p : Nat} (w : Wf M) (hq : q < 6) (hp : p < (mL M 9 q).length) : (mL M 9 q).getD p 0 < mN M 4 := by
  refine w.2.2.2.2.2.1 q hq _ ?_
  rw [List.getD_eq_getElem?_getD, List.getElem?_eq_getElem hp]
  exact List.getElem_mem hp
def insPos (M : Mem) (l : List Nat) (t : Nat) : Nat → Nat
  | 0 => 0
  | p + 1 => if befM M t (l.getD p 0) = true then insPos M l t p else p + 1
def hdM (M : Mem) (q : Nat) : Option Nat := if (mL M 9 q).isEmpty = true then none else some ((mL M 9 q).getD 0 0)
def qinsM (M : Mem) (q e t : Nat) : Mem := sC (sL M 9 q (insL (mL M 9 q) (insPos M (mL M 9 q) t e) t)) 9 q 0
def qremM (M : Mem) (q t : Nat) : Mem := if t ∈ mL M 9 q then sC (sL M 9 q ((mL M 9 q).erase t)) 9 q 1 else M
set_option maxHeartbeats 1500000 in
set_option maxRecDepth 100000 in
theorem c_length {l : Launch} (hfl : l.stackTraces = false) (Γ : Gm) (K : Nat → Nat → Nat) (M : Mem) (q : Nat) (w : Wf M) (hq : q < 6) : CT l Γ pF yX5_length (wsO yX5_length cX5_length 1 (some .int)) 1 [.ref (K 5 q)] K M (DD True (some (.int (nI (mL M 9 q).length))) K M) xNo 0 0 := by
  refine ct_intro hfl (by decide) (Nat.le_of_ble_eq_true rfl) ?_
  intro p e s m args below meth c C ht hr hnm hM ls hl
  have hx := C.1
  have hb := C.2.1
  have hS : va_S pF s.heap s.heap [] := va_S.rf
  have hl : lv_has ls 1 [(0, .ref (K 5 q))] := hl
  refine lv_aload_n hx hb dX5_length_0 rfl (lv_at hl 0 rfl) ?_
  refine g_get C hM clo_5 0 (by decide) (wq5 w hq) t_93 rfl (v := _) (fv3 rfl) dX5_length_1 ?_
  refine g_cV C hS (fun _ h => h.elim) hM hl (fun _ h => h) (c_lsize hfl Γ _ _ 9 _ rfl (wn9 (by assumption) (by assumption))) kJx4a65c_size_8abf5 t_352 (HM.recvL C hM rfl (wn9 (by assumption) (by assumption))) dX5_length_4 rfl rfl (Nat.le_of_ble_eq_true rfl) (by decide) rfl ⟨by decide, by decide⟩ xNo_goes (fun H locs hc_4 hM hS => ?_)
  exact g_iret C hr hM hS dX5_length_7 (by decide) (by decide) ⟨trivial, rfl, rfl, rfl⟩

set_option maxHeartbeats 1500000 in
set_option maxRecDepth 100000 in
theorem c_head {l : Launch} (hfl : l.stackTraces = false) (Γ : Gm) (K : Nat → Nat → Nat) (M : Mem) (q : Nat) (w : Wf M) (hq : q < 6) : CT l Γ pF yX5_head (wsO yX5_head cX5_head 1 (some (.object "TicketWeaver$Ticket"))) 4 [.ref (K 5 q)] K M (DD True (some (va_rf ((hdM M q).map (K 4)))) K M) xNo 0 0 := by
  refine ct_intro hfl (by decide) (Nat.le_of_ble_eq_true rfl) ?_
  intro p e s m args below meth c C ht hr hnm hM ls hl
  have hx := C.1
  have hb := C.2.1
  have hS : va_S pF s.heap s.heap [] := va_S.rf
  have hl : lv_has ls 1 [(0, .ref (K 5 q))] := hl
  refine lv_aload_n hx hb dX5_head_0 rfl (lv_at hl 0 rfl) ?_
  refine g_get C hM clo_5 0 (by decide) (wq5 w hq) t_93 rfl (v := _) (fv3 rfl) dX5_head_1 ?_
  refine g_cV C hS (fun _ h => h.elim) hM hl (fun _ h => h) (c_lempty hfl Γ _ _ 9 _ rfl (wn9 (by assumption) (by assumption))) kJx4a65c_isEmpty_aae02 t_224 (HM.recvL C hM rfl (wn9 (by assumption) (by assumption))) dX5_head_4 rfl rfl (Nat.le_of_ble_eq_true rfl) (by decide) rfl ⟨by decide, by decide⟩ xNo_goes (fun H locs hc_4 hM hS => ?_)
  refine g_ifeqB (tgt := 14) hx hb dX5_head_7 (by decide) (fun c_7 => ?_) (fun c_7 => ?_)
  · skip
    refine lv_aload_n hx hb dX5_head_14 rfl (lv_at hl 0 rfl) ?_
    refine g_get C hM clo_5 0 (by decide) (wq5 w hq) t_93 rfl (v := _) (fv3 rfl) dX5_head_15 ?_
    refine lv_iconst (v := 0) hx hb dX5_head_18 (by decide) ?_
    refine g_cV C hS (fun _ h => h.elim) hM hl (fun _ h => h) (c_lget hfl Γ _ _ 9 _ 0 rfl (wn9 w hq) (List.length_pos_iff.mpr (by simpa using c_7))) kJx4a65c_get_915e3 t_228 (HM.recvL C hM rfl (wn9 (by assumption) (by assumption))) dX5_head_19 rfl rfl (Nat.le_of_ble_eq_true rfl) (by decide) rfl ⟨by decide, by decide⟩ xNo_goes (fun H locs hc_19 hM hS => ?_)
    refine g_chk C hM clo_4 (getD_lt w hq (List.length_pos_iff.mpr (by simpa using c_7))) t_229 dX5_head_22 ?_
    exact g_aretR C hr hM hS (Or.inl ⟨_, rfl⟩) dX5_head_25 (by decide) (by decide) ⟨trivial, by rw [hdM, if_neg (by rw [c_7]; decide)]; rfl, rfl, rfl⟩
  · skip
    refine lv_null hx hb dX5_head_10 ?_
    refine lv_goto (tgt := 25) hx hb dX5_head_11 (by decide) ?_
    exact g_aretN C hr hM hS (Or.inl ⟨_, rfl⟩) dX5_head_25 (by decide) (by decide) ⟨trivial, by rw [hdM, if_pos c_7]; rfl, rfl, rfl⟩

set_option maxHeartbeats 1500000 in
set_option maxRecDepth 100000 in
theorem c_insertBelow {l : Launch} (hfl : l.stackTraces = false) (Γ : Gm) (K : Nat → Nat → Nat) (M : Mem) (q e5 t : Nat) (w : Wf M) (hq : q < 6) (ht4 : t < mN M 4) (he : e5 ≤ (mL M 9 q).length) : CT l Γ (gFree Γ) yX5_insertBelow (wsO yX5_insertBelow cX5_insertBelow 4 none) 7 [.ref (K 5 q), .int (nI e5), .ref (K 4 t)] K M (DD True none K (qinsM M q e5 t)) xNo 1 120 := by
  refine ct_intro hfl (by decide) (Nat.le_of_ble_eq_true rfl) ?_
  intro p e s m args below meth c C ht hr hnm hM ls hl
  have hx := C.1
  have hb := C.2.1
  have hS : va_S (gFree Γ) s.heap s.heap [] := va_S.rf
  have hl : lv_has ls 4 [(0, .ref (K 5 q)), (1, .int (nI e5)), (2, .ref (K 4 t))] := hl
  have hl9 := wline w hq
  refine lv_iload_n hx hb dX5_insertBelow_0 rfl (lv_at hl 1 rfl) ?_
  refine lv_istore_n (lv' := [(3, _), (0, _), (1, _), (2, _)]) hx hb dX5_insertBelow_1 rfl hl (by decide) rfl (fun ls hl => ?_)
  suffices K2 : ∀ (n9 : Nat) (p5 : Nat), p5 < n9 → (p5 ≤ e5) → (insPos M (mL M 9 q) t e5 = insPos M (mL M 9 q) t p5) → ∀ (H : Heap) (locs : List Loc) (ls : Array Slot), HM Γ K M H → va_S (gFree Γ) s.heap H locs → lv_has ls 4 [(0, .ref (K 5 q)), (1, .int (nI e5)), (2, .ref (K 4 t)), (3, .int (nI p5))] → W p l e (rmL 7 1 120) s m args below meth c H locs 0 0 (vx_MQ below (cQ Γ (gFree Γ) (DD True none K (qinsM M q e5 t))) (cX Γ (gFree Γ) K M xNo) args s 1 120 (gFree Γ)) (F0 m 2 ls []) by
    exact K2 _ e5 (Nat.lt_succ_self _) (Nat.le_refl _) rfl _ _ _ hM hS (lv_sub hl [1, 2, 3, 0] rfl)
  intro n9
  induction n9 with
  | zero => intro p5 h9; exact absurd h9 (Nat.not_lt_zero _)
  | succ n9 ih =>
    intro p5 h9 hp hi H locs ls hM hS hl
    refine lv_iload_n hx hb dX5_insertBelow_2 rfl (lv_at hl 3 rfl) ?_
    refine g_if_le (tgt := 32) hx hb dX5_insertBelow_3 (by decide) (fun c_3 => ?_) (fun c_3 => ?_)
    · skip
      refine lv_aload_n hx hb dX5_insertBelow_32 rfl (lv_at hl 0 rfl) ?_
      refine g_get C hM clo_5 0 (by decide) (wq5 w hq) t_93 rfl (v := _) (fv3 rfl) dX5_insertBelow_33 ?_
      refine lv_iload_n hx hb dX5_insertBelow_36 rfl (lv_at hl 3 rfl) ?_
      refine lv_aload_n hx hb dX5_insertBelow_37 rfl (lv_at hl 2 rfl) ?_
      refine g_cV C hS (fun _ h => h) hM hl (fun _ h => h) (c_lins hfl Γ _ _ 9 q _ t rfl (wn9 w hq) ht4 (by have := wline w hq; omega) (by omega) (w.2.2.2.2.2.1 q hq)) kJx4a65c_add_7a177 t_369 (HM.recvL C hM rfl (wn9 w hq)) dX5_insertBelow_38 rfl rfl (Nat.le_of_ble_eq_true rfl) (by decide) rfl ⟨by decide, by decide⟩ xNo_goes (fun H locs hc_38 hM hS => ?_)
      exact g_vret C hr hM hS dX5_insertBelow_41 (by decide) (by decide) ⟨trivial, rfl, rfl, by rw [qinsM, hi, show p5 = 0 from Nat.eq_zero_of_not_pos (fun z => c_3 (by rw [← nI_0]; exact nI_lt z (by omega)))]; rfl⟩
    · skip
      obtain ⟨p5, rfl⟩ : ∃ z, p5 = z + 1 := ⟨p5 - 1, by have h0 : p5 ≠ 0 := fun z => absurd c_3 (by rw [z]; decide); omega⟩
      have hpl : p5 < (mL M 9 q).length := by omega
      refine lv_aload_n hx hb dX5_insertBelow_6 rfl (lv_at hl 2 rfl) ?_
      refine lv_aload_n hx hb dX5_insertBelow_7 rfl (lv_at hl 0 rfl) ?_
      refine g_get C hM clo_5 0 (by decide) (wq5 w hq) t_93 rfl (v := _) (fv3 rfl) dX5_insertBelow_8 ?_
      refine lv_iload_n hx hb dX5_insertBelow_11 rfl (lv_at hl 3 rfl) ?_
      refine lv_iconst (v := 1) hx hb dX5_insertBelow_12 (by decide) ?_
      refine lv_isub hx hb dX5_insertBelow_13 ?_
      rw [nI_pred]
      refine g_cV C hS (fun _ h => h) hM hl (fun _ h => h.elim) (c_lget hfl Γ _ _ 9 _ p5 rfl (wn9 w hq) hpl) kJx4a65c_get_915e3 t_228 (HM.recvL C hM rfl (wn9 (by assumption) (by assumption))) dX5_insertBelow_14 rfl rfl (Nat.le_of_ble_eq_true rfl) (by decide) rfl ⟨by decide, by decide⟩ xNo_goes (fun H locs hc_14 hM hS => ?_)
      refine g_chk C hM clo_4 (getD_lt w hq hpl) t_229 dX5_insertBelow_17 ?_
      refine g_cV C hS (fun _ h => h) hM hl (fun _ h => h.elim) (c_isBefore hfl Γ _ _ _ _ w ht4 (getD_lt w hq hpl)) kX4_isBefore t_368 (HM.recv C hM clo_4 ht4) dX5_insertBelow_20 rfl rfl (Nat.le_of_ble_eq_true rfl) (by decide) rfl ⟨by decide, by decide⟩ xNo_goes (fun H locs hc_20 hM hS => ?_)
      refine g_ifeqB (tgt := 32) hx hb dX5_insertBelow_23 (by decide) (fun c_23 => ?_) (fun c_23 => ?_)
      · skip
        refine lv_aload_n hx hb dX5_insertBelow_32 rfl (lv_at hl 0 rfl) ?_
        refine g_get C hM clo_5 0 (by decide) (wq5 w hq) t_93 rfl (v := _) (fv3 rfl) dX5_insertBelow_33 ?_
        refine lv_iload_n hx hb dX5_insertBelow_36 rfl (lv_at hl 3 rfl) ?_
        refine lv_aload_n hx hb dX5_insertBelow_37 rfl (lv_at hl 2 rfl) ?_
        refine g_cV C hS (fun _ h => h) hM hl (fun _ h => h) (c_lins hfl Γ _ _ 9 q _ t rfl (wn9 w hq) ht4 (by have := wline w hq; omega) (by omega) (w.2.2.2.2.2.1 q hq)) kJx4a65c_add_7a177 t_369 (HM.recvL C hM rfl (wn9 w hq)) dX5_insertBelow_38 rfl rfl (Nat.le_of_ble_eq_true rfl) (by decide) rfl ⟨by decide, by decide⟩ xNo_goes (fun H locs hc_38 hM hS => ?_)
        exact g_vret C hr hM hS dX5_insertBelow_41 (by decide) (by decide) ⟨trivial, rfl, rfl, by rw [qinsM, hi]; simp only [insPos, c_23]; rfl⟩
      · skip
        refine lv_iinc (k := 3) (v := nI p5) (lv' := [(3, _), (0, _), (1, _), (2, _)]) hx hb dX5_insertBelow_26 hl rfl (pk_m1 p5) (by decide) rfl (fun ls hl => ?_)
        refine lv_goto (tgt := 2) hx hb dX5_insertBelow_29 (by decide) ?_
        exact ih p5 (by omega) (by omega) (by rw [hi]; simp only [insPos, c_23, if_true]) _ _ _ hM hS (lv_sub hl [1, 2, 3, 0] rfl)

set_option maxHeartbeats 1500000 in
set_option maxRecDepth 100000 in
theorem c_insertBelow0 {l : Launch} (hfl : l.stackTraces = false) (Γ : Gm) (K : Nat → Nat → Nat) (M : Mem) (q e5 t : Nat) (w : Wf M) (hq : q < 6) (ht4 : t < mN M 4) (he : e5 ≤ (mL M 9 q).length) (hs : 1 ≤ mC M 9 q) : CT l Γ (gFree Γ) yX5_insertBelow (wsO yX5_insertBelow cX5_insertBelow 4 none) 7 [.ref (K 5 q), .int (nI e5), .ref (K 4 t)] K M (DD True none K (qinsM M q e5 t)) xNo 0 0 := by
  refine ct_intro hfl (by decide) (Nat.le_of_ble_eq_true rfl) ?_
  intro p e s m args below meth c C ht hr hnm hM ls hl
  have hx := C.1
  have hb := C.2.1
  have hS : va_S (gFree Γ) s.heap s.heap [] := va_S.rf
  have hl : lv_has ls 4 [(0, .ref (K 5 q)), (1, .int (nI e5)), (2, .ref (K 4 t))] := hl
  have hl9 := wline w hq
  refine lv_iload_n hx hb dX5_insertBelow_0 rfl (lv_at hl 1 rfl) ?_
  refine lv_istore_n (lv' := [(3, _), (0, _), (1, _), (2, _)]) hx hb dX5_insertBelow_1 rfl hl (by decide) rfl (fun ls hl => ?_)
  suffices K2 : ∀ (n9 : Nat) (p5 : Nat), p5 < n9 → (p5 ≤ e5) → (insPos M (mL M 9 q) t e5 = insPos M (mL M 9 q) t p5) → ∀ (H : Heap) (locs : List Loc) (ls : Array Slot), HM Γ K M H → va_S (gFree Γ) s.heap H locs → lv_has ls 4 [(0, .ref (K 5 q)), (1, .int (nI e5)), (2, .ref (K 4 t)), (3, .int (nI p5))] → W p l e (rmL 7 0 0) s m args below meth c H locs 0 0 (vx_MQ below (cQ Γ (gFree Γ) (DD True none K (qinsM M q e5 t))) (cX Γ (gFree Γ) K M xNo) args s 0 0 (gFree Γ)) (F0 m 2 ls []) by
    exact K2 _ e5 (Nat.lt_succ_self _) (Nat.le_refl _) rfl _ _ _ hM hS (lv_sub hl [1, 2, 3, 0] rfl)
  intro n9
  induction n9 with
  | zero => intro p5 h9; exact absurd h9 (Nat.not_lt_zero _)
  | succ n9 ih =>
    intro p5 h9 hp hi H locs ls hM hS hl
    refine lv_iload_n hx hb dX5_insertBelow_2 rfl (lv_at hl 3 rfl) ?_
    refine g_if_le (tgt := 32) hx hb dX5_insertBelow_3 (by decide) (fun c_3 => ?_) (fun c_3 => ?_)
    · skip
      refine lv_aload_n hx hb dX5_insertBelow_32 rfl (lv_at hl 0 rfl) ?_
      refine g_get C hM clo_5 0 (by decide) (wq5 w hq) t_93 rfl (v := _) (fv3 rfl) dX5_insertBelow_33 ?_
      refine lv_iload_n hx hb dX5_insertBelow_36 rfl (lv_at hl 3 rfl) ?_
      refine lv_aload_n hx hb dX5_insertBelow_37 rfl (lv_at hl 2 rfl) ?_
      refine g_cV C hS (fun _ h => h) hM hl (fun _ h => h) (c_lins0 hfl Γ _ _ 9 q _ t rfl (wn9 w hq) ht4 (by have := wline w hq; omega) hs (by omega) (w.2.2.2.2.2.1 q hq)) kJx4a65c_add_7a177 t_369 (HM.recvL C hM rfl (wn9 w hq)) dX5_insertBelow_38 rfl rfl (Nat.le_of_ble_eq_true rfl) (by decide) rfl ⟨by decide, by decide⟩ xNo_goes (fun H locs hc_38 hM hS => ?_)
      exact g_vret C hr hM hS dX5_insertBelow_41 (by decide) (by decide) ⟨trivial, rfl, rfl, by rw [qinsM, hi, show p5 = 0 from Nat.eq_zero_of_not_pos (fun z => c_3 (by rw [← nI_0]; exact nI_lt z (by omega)))]; rfl⟩
    · skip
      obtain ⟨p5, rfl⟩ : ∃ z, p5 = z + 1 := ⟨p5 - 1, by have h0 : p5 ≠ 0 := fun z => absurd c_3 (by rw [z]; decide); omega⟩
      have hpl : p5 < (mL M 9 q).length := by omega
      refine lv_aload_n hx hb dX5_insertBelow_6 rfl (lv_at hl 2 rfl) ?_
      refine lv_aload_n hx hb dX5_insertBelow_7 rfl (lv_at hl 0 rfl) ?_
      refine g_get C hM clo_5 0 (by decide) (wq5 w hq) t_93 rfl (v := _) (fv3 rfl) dX5_insertBelow_8 ?_
      refine lv_iload_n hx hb dX5_insertBelow_11 rfl (lv_at hl 3 rfl) ?_
      refine lv_iconst (v := 1) hx hb dX5_insertBelow_12 (by decide) ?_
      refine lv_isub hx hb dX5_insertBelow_13 ?_
      rw [nI_pred]
      refine g_cV C hS (fun _ h => h) hM hl (fun _ h => h.elim) (c_lget hfl Γ _ _ 9 _ p5 rfl (wn9 w hq) hpl) kJx4a65c_get_915e3 t_228 (HM.recvL C hM rfl (wn9 (by assumption) (by assumption))) dX5_insertBelow_14 rfl rfl (Nat.le_of_ble_eq_true rfl) (by decide) rfl ⟨by decide, by decide⟩ xNo_goes (fun H locs hc_14 hM hS => ?_)
      refine g_chk C hM clo_4 (getD_lt w hq hpl) t_229 dX5_insertBelow_17 ?_
      refine g_cV C hS (fun _ h => h) hM hl (fun _ h => h.elim) (c_isBefore hfl Γ _ _ _ _ w ht4 (getD_lt w hq hpl)) kX4_isBefore t_368 (HM.recv C hM clo_4 ht4) dX5_insertBelow_20 rfl rfl (Nat.le_of_ble_eq_true rfl) (by decide) rfl ⟨by decide, by decide⟩ xNo_goes (fun H locs hc_20 hM hS => ?_)
      refine g_ifeqB (tgt := 32) hx hb dX5_insertBelow_23 (by decide) (fun c_23 => ?_) (fun c_23 => ?_)
      · skip
        refine lv_aload_n hx hb dX5_insertBelow_32 rfl (lv_at hl 0 rfl) ?_
        refine g_get C hM clo_5 0 (by decide) (wq5 w hq) t_93 rfl (v := _) (fv3 rfl) dX5_insertBelow_33 ?_
        refine lv_iload_n hx hb dX5_insertBelow_36 rfl (lv_at hl 3 rfl) ?_
        refine lv_aload_n hx hb dX5_insertBelow_37 rfl (lv_at hl 2 rfl) ?_
        refine g_cV C hS (fun _ h => h) hM hl (fun _ h => h) (c_lins0 hfl Γ _ _ 9 q _ t rfl (wn9 w hq) ht4 (by have := wline w hq; omega) hs (by omega) (w.2.2.2.2.2.1 q hq)) kJx4a65c_add_7a177 t_369 (HM.recvL C hM rfl (wn9 w hq)) dX5_insertBelow_38 rfl rfl (Nat.le_of_ble_eq_true rfl) (by decide) rfl ⟨by decide, by decide⟩ xNo_goes (fun H locs hc_38 hM hS => ?_)
        exact g_vret C hr hM hS dX5_insertBelow_41 (by decide) (by decide) ⟨trivial, rfl, rfl, by rw [qinsM, hi]; simp only [insPos, c_23]; rfl⟩
      · skip
        refine lv_iinc (k := 3) (v := nI p5) (lv' := [(3, _), (0, _), (1, _), (2, _)]) hx hb dX5_insertBelow_26 hl rfl (pk_m1 p5) (by decide) rfl (fun ls hl => ?_)
        refine lv_goto (tgt := 2) hx hb dX5_insertBelow_29 (by decide) ?_
        exact ih p5 (by omega) (by omega) (by rw [hi]; simp only [insPos, c_23, if_true]) _ _ _ hM hS (lv_sub hl [1, 2, 3, 0] rfl)

set_option maxHeartbeats 1500000 in
set_option maxRecDepth 100000 in
theorem c_qadd {l : Launch} (hfl : l.stackTraces = false) (Γ : Gm) (K : Nat → Nat → Nat) (M : Mem) (q t : Nat) (w : Wf M) (hq : q < 6) (ht4 : t < mN M 4) : CT l Γ (gFree Γ) yX5_add (wsO yX5_add cX5_add 2 none) 8 [.ref (K 5 q), .ref (K 4 t)] K M (DD True none K (qinsM M q (mL M 9 q).length t)) xNo 1 120 := by
  refine ct_intro hfl (by decide) (Nat.le_of_ble_eq_true rfl) ?_
  intro p e s m args below meth c C ht hr hnm hM ls hl
  have hx := C.1
  have hb := C.2.1
  have hS : va_S (gFree Γ) s.heap s.heap [] := va_S.rf
  have hl : lv_has ls 2 [(0, .ref (K 5 q)), (1, .ref (K 4 t))] := hl
  refine lv_aload_n hx hb dX5_add_0 rfl (lv_at hl 0 rfl) ?_
  refine lv_aload_n hx hb dX5_add_1 rfl (lv_at hl 0 rfl) ?_
  refine g_get C hM clo_5 0 (by decide) (wq5 w hq) t_93 rfl (v := _) (fv3 rfl) dX5_add_2 ?_
  refine g_cV C hS (fun _ h => h) hM hl (fun _ h => h.elim) (c_lsize hfl Γ _ _ 9 _ rfl (wn9 (by assumption) (by assumption))) kJx4a65c_size_8abf5 t_352 (HM.recvL C hM rfl (wn9 (by assumption) (by assumption))) dX5_add_5 rfl rfl (Nat.le_of_ble_eq_true rfl) (by decide) rfl ⟨by decide, by decide⟩ xNo_goes (fun H locs hc_5 hM hS => ?_)
  refine lv_aload_n hx hb dX5_add_8 rfl (lv_at hl 1 rfl) ?_
  refine g_cV C hS (fun _ h => h) hM hl (fun _ h => h) (c_insertBelow hfl Γ _ _ q _ t w hq ht4 (Nat.le_refl _)) kX5_insertBelow t_364 (HM.recv C hM clo_5 (wq5 (by assumption) (by assumption))) dX5_add_9 rfl rfl (Nat.le_of_ble_eq_true rfl) (by decide) rfl ⟨by decide, by decide⟩ xNo_goes (fun H locs hc_9 hM hS => ?_)
  exact g_vret C hr hM hS dX5_add_12 (by decide) (by decide) ⟨trivial, rfl, rfl, rfl⟩

theorem rem_found {M : Mem} {q t j : Nat} (hj : j < (mL M 9 q).length) (he : (mL M 9 q).getD j 0 = t) (hn : ∀ z, z < j → (mL M 9 q).getD z 0 ≠ t) : qremM M q t = sC (sL M 9 q ((mL M 9 q).eraseIdx j)) 9 q 1 := by
  have hg : ∀ z, z < (mL M 9 q).length → (mL M 9 q).getD z 0 = (mL M 9 q)[z]! := fun z hz => by simp [List.getD_eq_getElem?_getD, hz]
  have hm : t ∈ mL M 9 q := by rw [← he, List.getD_eq_getElem?_getD, List.getElem?_eq_getElem hj]; exact List.getElem_mem hj
  unfold qremM
  rw [if_pos hm]
  generalize mL M 9 q = l at *
  have e : l.erase t = l.eraseIdx j := by
    clear hm hg
    induction l generalizing j with
    | nil => exact absurd hj (Nat.not_lt_zero _)
    | cons a l ih =>
      cases j with
      | zero =>
        have ha : a = t := he
        rw [ha, List.erase_cons_head]; rfl
      | succ j =>
        have ha : a ≠ t := hn 0 (by omega)
        rw [List.erase_cons_tail (by simpa using ha), List.eraseIdx_cons_succ, ih (Nat.lt_of_succ_lt_succ hj) he (fun z hz => hn (z + 1) (by omega))]
  rw [e]
theorem rem_none {M : Mem} {q t : Nat} (hn : ∀ z, z < (mL M 9 q).length → (mL M 9 q).getD z 0 ≠ t) : qremM M q t = M := by
  unfold qremM
  rw [if_neg]
  intro hm
  obtain ⟨z, hz, e⟩ := List.getElem_of_mem hm
  exact hn z hz (by rw [List.getD_eq_getElem?_getD, List.getElem?_eq_getElem hz]; exact e)
set_option maxHeartbeats 1500000 in
set_option maxRecDepth 100000 in
theorem c_qremove {l : Launch} (hfl : l.stackTraces = false) (Γ : Gm) (K : Nat → Nat → Nat) (M : Mem) (q t : Nat) (w : Wf M) (hq : q < 6) (ht4 : t < mN M 4) : CT l Γ (gFree Γ) yX5_remove (wsO yX5_remove cX5_remove 3 none) 4 [.ref (K 5 q), .ref (K 4 t)] K M (DD True none K (qremM M q t)) xNo 0 0 := by
  refine ct_intro hfl (by decide) (Nat.le_of_ble_eq_true rfl) ?_
  intro p e s m args below meth c C ht hr hnm hM ls hl
  have hx := C.1
  have hb := C.2.1
  have hS : va_S (gFree Γ) s.heap s.heap [] := va_S.rf
  have hl : lv_has ls 3 [(0, .ref (K 5 q)), (1, .ref (K 4 t))] := hl
  have hl9 := wline w hq
  refine lv_iconst (v := 0) hx hb dX5_remove_0 (by decide) ?_
  refine lv_istore_n (lv' := [(2, _), (0, _), (1, _)]) hx hb dX5_remove_1 rfl hl (by decide) rfl (fun ls hl => ?_)
  suffices K2 : ∀ (n9 : Nat) (j : Nat), (mL M 9 q).length - j < n9 → (j ≤ (mL M 9 q).length) → (∀ z, z < j → (mL M 9 q).getD z 0 ≠ t) → ∀ (H : Heap) (locs : List Loc) (ls : Array Slot), HM Γ K M H → va_S (gFree Γ) s.heap H locs → lv_has ls 3 [(0, .ref (K 5 q)), (1, .ref (K 4 t)), (2, .int (nI j))] → W p l e (rmL 4 0 0) s m args below meth c H locs 0 0 (vx_MQ below (cQ Γ (gFree Γ) (DD True none K (qremM M q t))) (cX Γ (gFree Γ) K M xNo) args s 0 0 (gFree Γ)) (F0 m 2 ls []) by
    exact K2 _ 0 (Nat.lt_succ_self _) (Nat.zero_le _) (fun z h => absurd h (Nat.not_lt_zero _)) _ _ _ hM hS (lv_sub hl [1, 2, 0] rfl)
  intro n9
  induction n9 with
  | zero => intro j h9; exact absurd h9 (Nat.not_lt_zero _)
  | succ n9 ih =>
    intro j h9 hj hn H locs ls hM hS hl
    refine lv_iload_n hx hb dX5_remove_2 rfl (lv_at hl 2 rfl) ?_
    refine lv_aload_n hx hb dX5_remove_3 rfl (lv_at hl 0 rfl) ?_
    refine g_get C hM clo_5 0 (by decide) (wq5 w hq) t_93 rfl (v := _) (fv3 rfl) dX5_remove_4 ?_
    refine g_cV C hS (fun _ h => h) hM hl (fun _ h => h.elim) (c_lsize hfl Γ _ _ 9 _ rfl (wn9 (by assumption) (by assumption))) kJx4a65c_size_8abf5 t_352 (HM.recvL C hM rfl (wn9 (by assumption) (by assumption))) dX5_remove_7 rfl rfl (Nat.le_of_ble_eq_true rfl) (by decide) rfl ⟨by decide, by decide⟩ xNo_goes (fun H locs hc_7 hM hS => ?_)
    refine g_icmp_ge (tgt := 41) hx hb dX5_remove_10 (by decide) (fun c_10 => ?_) (fun c_10 => ?_)
    · skip
      exact g_vret C hr hM hS dX5_remove_41 (by decide) (by decide) ⟨trivial, rfl, rfl, (rem_none (fun z hz => hn z (by have := (not_congr (nI_ltI (a := j) (b := (mL M 9 q).length) (by omega) (by omega))).mp c_10; omega))).symm⟩
    · skip
      have hjl : j < (mL M 9 q).length := (nI_ltI (by omega) (by omega)).mp c_10
      refine lv_aload_n hx hb dX5_remove_13 rfl (lv_at hl 0 rfl) ?_
      refine g_get C hM clo_5 0 (by decide) (wq5 w hq) t_93 rfl (v := _) (fv3 rfl) dX5_remove_14 ?_
      refine lv_iload_n hx hb dX5_remove_17 rfl (lv_at hl 2 rfl) ?_
      refine g_cV C hS (fun _ h => h) hM hl (fun _ h => h.elim) (c_lget hfl Γ _ _ 9 _ j rfl (wn9 w hq) hjl) kJx4a65c_get_915e3 t_228 (HM.recvL C hM rfl (wn9 (by assumption) (by assumption))) dX5_remove_18 rfl rfl (Nat.le_of_ble_eq_true rfl) (by decide) rfl ⟨by decide, by decide⟩ xNo_goes (fun H locs hc_18 hM hS => ?_)
      refine lv_aload_n hx hb dX5_remove_21 rfl (lv_at hl 1 rfl) ?_
      refine g_acmp_neR (tgt := 35) hx hb dX5_remove_22 (by decide) (fun c_22 => ?_) (fun c_22 => ?_)
      · skip
        refine lv_iinc (k := 2) (v := nI (j + 1)) (lv' := [(2, _), (0, _), (1, _)]) hx hb dX5_remove_35 hl rfl (nI_1 j) (by decide) rfl (fun ls hl => ?_)
        refine lv_goto (tgt := 2) hx hb dX5_remove_38 (by decide) ?_
        exact ih (j + 1) (by omega) (by omega) (fun z h => by rcases Nat.lt_or_ge z j with h0 | h0; exact hn z h0; rw [show z = j by omega]; exact fun e => c_22 (by rw [← e]; rfl)) _ _ _ hM hS (lv_sub hl [1, 2, 0] rfl)
      · skip
        have hje : (mL M 9 q).getD j 0 = t := (hM.2.2.1 4 _ 4 _ (getD_lt w hq hjl) ht4 c_22.symm).2
        refine lv_aload_n hx hb dX5_remove_25 rfl (lv_at hl 0 rfl) ?_
        refine g_get C hM clo_5 0 (by decide) (wq5 w hq) t_93 rfl (v := _) (fv3 rfl) dX5_remove_26 ?_
        refine lv_iload_n hx hb dX5_remove_29 rfl (lv_at hl 2 rfl) ?_
        refine g_cV C hS (fun _ h => h) hM hl (fun _ h => h) (c_lremove hfl Γ _ _ 9 q j rfl (wn9 w hq) hjl (w.2.2.2.2.2.1 q hq)) kJx4a65c_remove_915e3 t_353 (HM.recvL C hM rfl (wn9 w hq)) dX5_remove_30 rfl rfl (Nat.le_of_ble_eq_true rfl) (by decide) rfl ⟨by decide, by decide⟩ xNo_goes (fun H locs hc_30 hM hS => ?_)
        refine lv_pop hx hb dX5_remove_33 rfl ?_
        exact g_vret C hr hM hS dX5_remove_34 (by decide) (by decide) ⟨trivial, rfl, rfl, (rem_found hjl hje hn).symm⟩

theorem insL_perm (l : List Nat) (p x : Nat) : (insL l p x).Perm (x :: l) := by
  have h := @List.perm_middle _ x (l.take p) (l.drop p)
  rwa [List.take_append_drop] at h
theorem insL_len (l : List Nat) (p x : Nat) : (insL l p x).length = l.length + 1 := (insL_perm l p x).length_eq
theorem insPos_le {M : Mem} {l : List Nat} {t : Nat} : ∀ e, insPos M l t e ≤ e
  | 0 => Nat.le_refl _
  | e + 1 => by
    unfold insPos
    split
    · exact Nat.le_succ_of_le (insPos_le e)
    · exact Nat.le_refl _
theorem qins_perm {M : Mem} {q e t : Nat} : (mL (qinsM M q e t) 9 q).Perm (t :: mL M 9 q) := by
  show (mL (sC (sL M 9 q _) 9 q 0) 9 q).Perm _
  rw [mL_sC, mL_sL, if_pos ⟨rfl, rfl⟩]
  exact insL_perm _ _ _
theorem qins_ne {M : Mem} {q e t k i : Nat} (h : ¬ (k = 9 ∧ i = q)) : mL (qinsM M q e t) k i = mL M k i := by
  show mL (sC (sL M 9 q _) 9 q 0) k i = _
  rw [mL_sC, mL_sL, if_neg h]
theorem wf_qins {M : Mem} {q e t : Nat} (w : Wf M) (hq : q < 6) (ht : t < mN M 4) (hn : t ∉ mL M 9 q) : Wf (qinsM M q e t) := by
  refine wf_sC (wf_line ?_ ?_ w)
  · intro x hx
    rcases List.mem_cons.mp ((insL_perm _ _ _).mem_iff.mp hx) with rfl | h
    · exact ht
    · exact w.2.2.2.2.2.1 q hq x h
  · exact (insL_perm _ _ _).nodup_iff.mpr (List.nodup_cons.mpr ⟨hn, w.2.2.2.2.2.2 q hq⟩)
theorem wf_qrem {M : Mem} {q t : Nat} (w : Wf M) (hq : q < 6) : Wf (qremM M q t) := by
  unfold qremM
  split
  · exact wf_sC (wf_line (fun x hx => w.2.2.2.2.2.1 q hq x (List.mem_of_mem_erase hx)) ((w.2.2.2.2.2.2 q hq).erase _) w)
  · exact w
theorem qrem_q {M : Mem} {q t : Nat} : mL (qremM M q t) 9 q = (mL M 9 q).erase t := by
  unfold qremM
  split
  · rw [mL_sC, mL_sL, if_pos ⟨rfl, rfl⟩]
  · rename_i h; exact (List.erase_of_not_mem h).symm
theorem qrem_ne {M : Mem} {q t k i : Nat} (h : ¬ (k = 9 ∧ i = q)) : mL (qremM M q t) k i = mL M k i := by
  unfold qremM
  split
  · rw [mL_sC, mL_sL, if_neg h]
  · rfl
def oaS (M : Mem) (q j : Nat) : Mem := qinsM (sC (sL M 9 q ((mL M 9 q).eraseIdx j)) 9 q 1) q j ((mL M 9 q).getD j 0)
def oaN (M : Mem) (q : Nat) : Nat → Mem
  | 0 => M
  | n + 1 => oaS (oaN M q n) q (n + 1)
def oaM (M : Mem) (q : Nat) : Mem := oaN M q ((mL M 9 q).length - 1)
theorem ers_perm {l : List Nat} {j : Nat} (h : j < l.length) : (l.getD j 0 :: l.eraseIdx j).Perm l := by
  induction l generalizing j with
  | nil => exact absurd h (Nat.not_lt_zero _)
  | cons a l ih =>
    cases j with
    | zero => exact List.Perm.refl _
    | succ j =>
      have h1 := ih (j := j) (Nat.lt_of_succ_lt_succ h)
      show (l.getD j 0 :: a :: l.eraseIdx j).Perm (a :: l)
      exact (List.Perm.swap a _ _).trans (h1.cons a)
theorem oaS_perm {M : Mem} {q j : Nat} (h : j < (mL M 9 q).length) : (mL (oaS M q j) 9 q).Perm (mL M 9 q) := by
  refine List.Perm.trans qins_perm ?_
  rw [mL_sC, mL_sL, if_pos ⟨rfl, rfl⟩]
  exact ers_perm h
theorem wf_ers {M : Mem} {q j : Nat} (w : Wf M) (hq : q < 6) : Wf (sC (sL M 9 q ((mL M 9 q).eraseIdx j)) 9 q 1) :=
  wf_sC (wf_line (fun x hx => w.2.2.2.2.2.1 q hq x (List.mem_of_mem_eraseIdx hx)) ((w.2.2.2.2.2.2 q hq).eraseIdx _) w)
theorem wf_oaS {M : Mem} {q j : Nat} (w : Wf M) (hq : q < 6) (h : j < (mL M 9 q).length) : Wf (oaS M q j) := by
  refine wf_qins (wf_ers w hq) hq (getD_lt w hq h) ?_
  rw [mL_sC, mL_sL, if_pos ⟨rfl, rfl⟩]
  exact (List.nodup_cons.mp ((ers_perm h).nodup_iff.mpr (w.2.2.2.2.2.2 q hq))).1
set_option maxHeartbeats 1500000 in
set_option maxRecDepth 100000 in
theorem c_orderAnew {l : Launch} (hfl : l.stackTraces = false) (Γ : Gm) (K : Nat → Nat → Nat) (M : Mem) (q : Nat) (w : Wf M) (hq : q < 6) : CT l Γ (gFree Γ) yX5_orderAnew (wsO yX5_orderAnew cX5_orderAnew 2 none) 8 [.ref (K 5 q)] K M (DD True none K (oaM M q)) xNo 0 0 := by
  refine ct_intro hfl (by decide) (Nat.le_of_ble_eq_true rfl) ?_
  intro p e s m args below meth c C ht hr hnm hM ls hl
  have hx := C.1
  have hb := C.2.1
  have hS : va_S (gFree Γ) s.heap s.heap [] := va_S.rf
  have hl : lv_has ls 2 [(0, .ref (K 5 q))] := hl
  refine lv_iconst (v := 1) hx hb dX5_orderAnew_0 (by decide) ?_
  refine lv_istore_n (lv' := [(1, _), (0, _)]) hx hb dX5_orderAnew_1 rfl hl (by decide) rfl (fun ls hl => ?_)
  suffices K2 : ∀ (n9 : Nat) (n : Nat), (mL M 9 q).length - n < n9 → (Wf (oaN M q n)) → ((mL (oaN M q n) 9 q).length = (mL M 9 q).length) → (n ≤ (mL M 9 q).length - 1) → ∀ (H : Heap) (locs : List Loc) (ls : Array Slot), HM Γ K (oaN M q n) H → va_S (gFree Γ) s.heap H locs → lv_has ls 2 [(0, .ref (K 5 q)), (1, .int (nI (n + 1)))] → W p l e (rmL 8 0 0) s m args below meth c H locs 0 0 (vx_MQ below (cQ Γ (gFree Γ) (DD True none K (oaM M q))) (cX Γ (gFree Γ) K M xNo) args s 0 0 (gFree Γ)) (F0 m 2 ls []) by
    exact K2 _ 0 (Nat.lt_succ_self _) w rfl (Nat.zero_le _) _ _ _ hM hS (lv_sub hl [1, 0] rfl)
  intro n9
  induction n9 with
  | zero => intro n h9; exact absurd h9 (Nat.not_lt_zero _)
  | succ n9 ih =>
    intro n h9 wz hz hn H locs ls hM hS hl
    refine lv_iload_n hx hb dX5_orderAnew_2 rfl (lv_at hl 1 rfl) ?_
    refine lv_aload_n hx hb dX5_orderAnew_3 rfl (lv_at hl 0 rfl) ?_
    refine g_get C hM clo_5 0 (by decide) (wq5 wz hq) t_93 rfl (v := _) (fv3 rfl) dX5_orderAnew_4 ?_
    have hl9 := wline wz hq
    refine g_cV C hS (fun _ h => h) hM hl (fun _ h => h.elim) (c_lsize hfl Γ _ _ 9 _ rfl (wn9 (by assumption) (by assumption))) kJx4a65c_size_8abf5 t_352 (HM.recvL C hM rfl (wn9 (by assumption) (by assumption))) dX5_orderAnew_7 rfl rfl (Nat.le_of_ble_eq_true rfl) (by decide) rfl ⟨by decide, by decide⟩ xNo_goes (fun H locs hc_7 hM hS => ?_)
    refine g_icmp_ge (tgt := 35) hx hb dX5_orderAnew_10 (by decide) (fun c_10 => ?_) (fun c_10 => ?_)
    · skip
      exact g_vret C hr hM hS dX5_orderAnew_35 (by decide) (by decide) ⟨trivial, rfl, rfl, congrArg (oaN M q) (by have := (not_congr (nI_ltI (a := n + 1) (b := (mL (oaN M q n) 9 q).length) (by omega) (by omega))).mp c_10; omega)⟩
    · skip
      have hj : n + 1 < (mL (oaN M q n) 9 q).length := (nI_ltI (by omega) (by omega)).mp c_10
      refine lv_aload_n hx hb dX5_orderAnew_13 rfl (lv_at hl 0 rfl) ?_
      refine lv_iload_n hx hb dX5_orderAnew_14 rfl (lv_at hl 1 rfl) ?_
      refine lv_aload_n hx hb dX5_orderAnew_15 rfl (lv_at hl 0 rfl) ?_
      refine g_get C hM clo_5 0 (by decide) (wq5 wz hq) t_93 rfl (v := _) (fv3 rfl) dX5_orderAnew_16 ?_
      refine lv_iload_n hx hb dX5_orderAnew_19 rfl (lv_at hl 1 rfl) ?_
      refine g_cV C hS (fun _ h => h) hM hl (fun _ h => h) (c_lremove hfl Γ _ _ 9 q (n + 1) rfl (wn9 wz hq) hj (wz.2.2.2.2.2.1 q hq)) kJx4a65c_remove_915e3 t_353 (HM.recvL C hM rfl (wn9 wz hq)) dX5_orderAnew_20 rfl rfl (Nat.le_of_ble_eq_true rfl) (by decide) rfl ⟨by decide, by decide⟩ xNo_goes (fun H locs hc_20 hM hS => ?_)
      refine g_chk C hM clo_4 (getD_lt wz hq hj) t_229 dX5_orderAnew_23 ?_
      refine g_cV C hS (fun _ h => h) hM hl (fun _ h => h) (c_insertBelow0 hfl Γ _ _ q (n + 1) ((mL (oaN M q n) 9 q).getD (n + 1) 0) (wf_ers wz hq) hq (show _ < mN (oaN M q n) 4 from getD_lt wz hq hj) (by rw [mL_sC, mL_sL, if_pos ⟨rfl, rfl⟩, List.length_eraseIdx, if_pos hj]; omega) (by rw [mC_sC, if_pos ⟨rfl, rfl⟩]; exact Nat.le_refl 1)) kX5_insertBelow t_364 (HM.recv C hM clo_5 (wq5 (wf_ers wz hq) hq)) dX5_orderAnew_26 rfl rfl (Nat.le_of_ble_eq_true rfl) (by decide) rfl ⟨by decide, by decide⟩ xNo_goes (fun H locs hc_26 hM hS => ?_)
      refine lv_iinc (k := 1) (v := nI (n + 1 + 1)) (lv' := [(1, _), (0, _)]) hx hb dX5_orderAnew_29 hl rfl (nI_1 (n + 1)) (by decide) rfl (fun ls hl => ?_)
      refine lv_goto (tgt := 2) hx hb dX5_orderAnew_32 (by decide) ?_
      exact ih (n + 1) (by omega) (wf_oaS wz hq hj) ((oaS_perm hj).length_eq.trans hz) (by omega) _ _ _ hM hS (lv_sub hl [1, 0] rfl)

