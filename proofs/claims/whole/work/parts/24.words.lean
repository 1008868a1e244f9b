section ALEN
variable {p : Program} {l : Launch} {e : Env} {R : Room} {s : State} {m : MethodId} {args : Array Value} {below : List Frame} {meth : Method} {c : Code} {H : Heap} {locs : List Loc} {cells slots : Nat} {Q : State → Prop}
variable {cc : ByteArray} {nL : Nat} {own : String} {Γ : Gm} {A : Nat → Prop} {K : Nat → Nat → Nat} {M : Mem} {pc k i : Nat} {ls : Array Slot} {rest : List Value}
theorem g_alen {n : Nat} (C : Cx Γ p l s m args meth c cc nL own) (hM : HM Γ K M H) (o : RwOk k 0 n) (hi : i < mN M k) (hdg : decode cc pc = .ok (.arraylength, 1))
    (kk : W p l e R s m args below meth c H locs cells slots Q (F0 m (pc + 1) ls (.int (nI n) :: rest))) : W p l e R s m args below meth c H locs cells slots Q (F0 m pc ls (.ref (K k i) :: rest)) :=
  va_alen C.1 C.2.1 C.2.2.2.2.2.2.1.2.1.1 (va_P.one (hM.row o hi)) 0 0 rfl rfl rfl hdg kk
end ALEN
def ush (x y : Int32) : Int32 := (x.toUInt32 >>> (y.toUInt32 &&& Int32.toUInt32 31)).toInt32
def pop1 (i : Int32) : Int32 := i - (ush i 1 &&& 1431655765)
def pop2 (a : Int32) : Int32 := (a &&& 858993459) + (ush a 2 &&& 858993459)
def pop3 (b : Int32) : Int32 := (b + ush b 4) &&& 252645135
def pop4 (c : Int32) : Int32 := c + ush c 8
def pop5 (d : Int32) : Int32 := (d + ush d 16) &&& 63
def popC (i : Int32) : Int32 := pop5 (pop4 (pop3 (pop2 (pop1 i))))
theorem kJ6_bitCount_0f7a4 : CeeS yJ6_bitCount_0f7a4 cJ6_bitCount_0f7a4 1 (some .int) 1 := ⟨t_1042, t_25, t_1043, by decide +kernel, by decide⟩
set_option maxHeartbeats 4000000 in
set_option maxRecDepth 100000 in
theorem c_bitCount {l : Launch} (hfl : l.stackTraces = false) (Γ : Gm) (K : Nat → Nat → Nat) (M : Mem) (x : Int32) : CT l Γ pF yJ6_bitCount_0f7a4 (wsO yJ6_bitCount_0f7a4 cJ6_bitCount_0f7a4 1 (some .int)) 0 [.int x] K M (DD True (some (.int (popC x))) K M) xNo 0 0 := by
  refine ct_intro hfl (by decide) (Nat.le_of_ble_eq_true rfl) ?_
  intro p e s m args below meth c C ht hr hnm hM ls hl
  have hx := C.1
  have hb := C.2.1
  have hS : va_S pF s.heap s.heap [] := va_S.rf
  have hl : lv_has ls 1 [(0, .int x)] := hl
  refine lv_iload_n hx hb dJ6_bitCount_0f7a4_0 rfl (lv_at hl 0 rfl) ?_
  refine lv_iload_n hx hb dJ6_bitCount_0f7a4_1 rfl (lv_at hl 0 rfl) ?_
  refine lv_iconst (v := 1) hx hb dJ6_bitCount_0f7a4_2 (by decide) ?_
  refine lv_iushr hx hb dJ6_bitCount_0f7a4_3 rfl ?_
  refine lv_ldcw hx hb C.2.2.2.1 (C.2.2.2.2.1 _ t_1044) dJ6_bitCount_0f7a4_4 ?_
  refine lv_iand hx hb dJ6_bitCount_0f7a4_7 ?_
  refine lv_isub hx hb dJ6_bitCount_0f7a4_8 ?_
  refine lv_istore_n (lv' := [(0, _)]) hx hb dJ6_bitCount_0f7a4_9 rfl hl (by decide) rfl (fun ls hl => ?_)
  refine lv_iload_n hx hb dJ6_bitCount_0f7a4_10 rfl (lv_at hl 0 rfl) ?_
  refine lv_ldcw hx hb C.2.2.2.1 (C.2.2.2.2.1 _ t_1045) dJ6_bitCount_0f7a4_11 ?_
  refine lv_iand hx hb dJ6_bitCount_0f7a4_14 ?_
  refine lv_iload_n hx hb dJ6_bitCount_0f7a4_15 rfl (lv_at hl 0 rfl) ?_
  refine lv_iconst (v := 2) hx hb dJ6_bitCount_0f7a4_16 (by decide) ?_
  refine lv_iushr hx hb dJ6_bitCount_0f7a4_17 rfl ?_
  refine lv_ldcw hx hb C.2.2.2.1 (C.2.2.2.2.1 _ t_1045) dJ6_bitCount_0f7a4_18 ?_
  refine lv_iand hx hb dJ6_bitCount_0f7a4_21 ?_
  refine lv_iadd hx hb dJ6_bitCount_0f7a4_22 ?_
  refine lv_istore_n (lv' := [(0, _)]) hx hb dJ6_bitCount_0f7a4_23 rfl hl (by decide) rfl (fun ls hl => ?_)
  refine lv_iload_n hx hb dJ6_bitCount_0f7a4_24 rfl (lv_at hl 0 rfl) ?_
  refine lv_iload_n hx hb dJ6_bitCount_0f7a4_25 rfl (lv_at hl 0 rfl) ?_
  refine lv_iconst (v := 4) hx hb dJ6_bitCount_0f7a4_26 (by decide) ?_
  refine lv_iushr hx hb dJ6_bitCount_0f7a4_27 rfl ?_
  refine lv_iadd hx hb dJ6_bitCount_0f7a4_28 ?_
  refine lv_ldcw hx hb C.2.2.2.1 (C.2.2.2.2.1 _ t_1046) dJ6_bitCount_0f7a4_29 ?_
  refine lv_iand hx hb dJ6_bitCount_0f7a4_32 ?_
  refine lv_istore_n (lv' := [(0, _)]) hx hb dJ6_bitCount_0f7a4_33 rfl hl (by decide) rfl (fun ls hl => ?_)
  refine lv_iload_n hx hb dJ6_bitCount_0f7a4_34 rfl (lv_at hl 0 rfl) ?_
  refine lv_iload_n hx hb dJ6_bitCount_0f7a4_35 rfl (lv_at hl 0 rfl) ?_
  refine lv_bipush (v := 8) hx hb dJ6_bitCount_0f7a4_36 (by decide) ?_
  refine lv_iushr hx hb dJ6_bitCount_0f7a4_38 rfl ?_
  refine lv_iadd hx hb dJ6_bitCount_0f7a4_39 ?_
  refine lv_istore_n (lv' := [(0, _)]) hx hb dJ6_bitCount_0f7a4_40 rfl hl (by decide) rfl (fun ls hl => ?_)
  refine lv_iload_n hx hb dJ6_bitCount_0f7a4_41 rfl (lv_at hl 0 rfl) ?_
  refine lv_iload_n hx hb dJ6_bitCount_0f7a4_42 rfl (lv_at hl 0 rfl) ?_
  refine lv_bipush (v := 16) hx hb dJ6_bitCount_0f7a4_43 (by decide) ?_
  refine lv_iushr hx hb dJ6_bitCount_0f7a4_45 rfl ?_
  refine lv_iadd hx hb dJ6_bitCount_0f7a4_46 ?_
  refine lv_istore_n (lv' := [(0, _)]) hx hb dJ6_bitCount_0f7a4_47 rfl hl (by decide) rfl (fun ls hl => ?_)
  refine lv_iload_n hx hb dJ6_bitCount_0f7a4_48 rfl (lv_at hl 0 rfl) ?_
  refine lv_bipush (v := 63) hx hb dJ6_bitCount_0f7a4_49 (by decide) ?_
  refine lv_iand hx hb dJ6_bitCount_0f7a4_51 ?_
  exact g_iret C hr hM hS dJ6_bitCount_0f7a4_52 (by decide) (by decide) ⟨trivial, rfl, rfl, rfl⟩

theorem wf_skill {M : Mem} {a : Nat} {v : Int32} (w : Wf M) : Wf (sT M 0 1 a v) := wf_sT (by decide) (by decide) w
def rLearn (M : Mem) (x : Int32) (y : Int32) : Nat := if inN x (mN M 0) = true then (if inB y 0 5 = true then (if hsM M (ix x) y = true then 3 else 0) else 2) else 1
set_option maxHeartbeats 4000000 in
set_option maxRecDepth 100000 in
theorem c_learn {l : Launch} (hfl : l.stackTraces = false) (Γ : Gm) (K : Nat → Nat → Nat) (M : Mem) (x : Int32) (y : Int32) (w : Wf M) : CT l Γ (gFree Γ) yX6_learn (wsO yX6_learn cX6_learn 4 (some .int)) 8 [.ref (K 6 0), .int x, .int y] K M (DD (rLearn M x y = 0) (some (.int (popC (mT M 0 1 (ix x) ||| (1 <<< (y &&& 31)))))) K (sT M 0 1 (ix x) (mT M 0 1 (ix x) ||| (1 <<< (y &&& 31))))) (XP ["java/lang/IndexOutOfBoundsException", "java/lang/IllegalArgumentException", "java/lang/UnsupportedOperationException"] (rLearn M x y)) 3 20 := by
  refine ct_intro hfl (by decide) (Nat.le_of_ble_eq_true rfl) ?_
  intro p e s m args below meth c C ht hr hnm hM ls hl
  have hx := C.1
  have hb := C.2.1
  have hS : va_S (gFree Γ) s.heap s.heap [] := va_S.rf
  have hl : lv_has ls 4 [(0, .ref (K 6 0)), (1, .int x), (2, .int y)] := hl
  have hb4 := wn4 w
  have hb0 := wn0 w
  have hb2 := wn2 w
  refine lv_aload_n hx hb dX6_learn_0 rfl (lv_at hl 0 rfl) ?_
  refine lv_iload_n hx hb dX6_learn_1 rfl (lv_at hl 1 rfl) ?_
  refine g_cV C hS (fun _ h => h) hM hl (fun _ h => h.elim) (c_agentNumbered hfl Γ _ _ _ (by assumption)) kX6_agentNumbered t_1020 (HM.recv C hM clo_6 (wn6 (by assumption))) dX6_learn_2 rfl rfl (Nat.le_of_ble_eq_true rfl) (by decide) rfl ⟨by decide, by decide⟩ (g_pass C ht (fun E h => xp_of 0 (by simp [rLearn, h.2]) h.1) (by decide) (by decide)) (fun H locs hc_2 hM hS => ?_)
  have hq_2 := (inN_ix hc_2 (by have := wn0 w; omega)).1
  refine lv_astore_n (lv' := [(3, _), (0, _), (1, _), (2, _)]) hx hb dX6_learn_5 rfl hl (by decide) rfl (fun ls hl => ?_)
  refine lv_iload_n hx hb dX6_learn_6 rfl (lv_at hl 3 rfl) ?_
  refine g_cS C hS (fun _ h => h) hM hl (fun _ h => h.elim) (c_isTopic hfl Γ _ _ _) kX6_isTopic t_699 dX6_learn_7 rfl rfl (Nat.le_of_ble_eq_true rfl) (by decide) rfl ⟨by decide, by decide⟩ xNo_goes (fun H locs hc_7 hM hS => ?_)
  refine g_ifneB (tgt := 23) hx hb dX6_learn_10 (by decide) (fun c_10 => ?_) (fun c_10 => ?_)
  · skip
    refine lv_aload_n hx hb dX6_learn_23 rfl (lv_at hl 0 rfl) ?_
    refine lv_iload_n hx hb dX6_learn_24 rfl (lv_at hl 3 rfl) ?_
    refine g_cV C hS (fun _ h => h) hM hl (fun _ h => h.elim) (c_hasSkill hfl Γ _ _ _ _ (by assumption)) kX0_hasSkill t_954 (HM.recv C hM clo_0 (by assumption)) dX6_learn_25 rfl rfl (Nat.le_of_ble_eq_true rfl) (by decide) rfl ⟨by decide, by decide⟩ xNo_goes (fun H locs hc_25 hM hS => ?_)
    refine g_ifeqB (tgt := 41) hx hb dX6_learn_28 (by decide) (fun c_28 => ?_) (fun c_28 => ?_)
    · skip
      refine lv_aload_n hx hb dX6_learn_41 rfl (lv_at hl 0 rfl) ?_
      refine lv_dup hx hb dX6_learn_42 rfl ?_
      refine g_getN C hM clo_0 1 (by decide) (by assumption) n_998 rfl (v := .int (mT _ 0 1 _)) rfl dX6_learn_43 ?_
      refine lv_iconst (v := 1) hx hb dX6_learn_46 (by decide) ?_
      refine lv_iload_n hx hb dX6_learn_47 rfl (lv_at hl 3 rfl) ?_
      refine lv_ishl hx hb dX6_learn_48 ?_
      refine lv_ior hx hb dX6_learn_49 ?_
      refine g_putI C hM hS clo_0 1 (by decide) rfl (by assumption) rfl rfl rfl rfl dX6_learn_50 (Or.inr n_998) (fun H locs hM hS => ?_)
      refine lv_aload_n hx hb dX6_learn_53 rfl (lv_at hl 0 rfl) ?_
      refine g_getN C hM clo_0 1 (by decide) (by assumption) n_998 rfl (v := .int (mT _ 0 1 _)) rfl dX6_learn_54 ?_
      refine g_cS C hS (fun _ h => h) hM hl (fun _ h => h.elim) (c_bitCount hfl Γ _ _ _) kJ6_bitCount_0f7a4 t_1041 dX6_learn_57 rfl rfl (Nat.le_of_ble_eq_true rfl) (by decide) rfl ⟨by decide, by decide⟩ xNo_goes (fun H locs hc_57 hM hS => ?_)
      exact g_iret C hr hM hS dX6_learn_60 (by decide) (by decide) ⟨by simp [rLearn, hc_2, c_10, c_28], by rw [mT_sT, if_pos ⟨rfl, rfl, rfl⟩], rfl, rfl⟩
    · skip
      exact g_throw C ht (xp_of 2 (by simp [rLearn, hc_2, c_10, c_28]) rfl) hM hS (fun _ h => h) hl thr_214 (strX_15) dX6_learn_31 dX6_learn_34 dX6_learn_35 dX6_learn_37 dX6_learn_40 rfl (Nat.le_of_ble_eq_true rfl) ⟨by decide, by decide⟩ (by decide) (by decide)
  · skip
    exact g_throw C ht (xp_of 1 (by simp [rLearn, hc_2, c_10]) rfl) hM hS (fun _ h => h) hl thr_59 (strX_10) dX6_learn_13 dX6_learn_16 dX6_learn_17 dX6_learn_19 dX6_learn_22 rfl (Nat.le_of_ble_eq_true rfl) ⟨by decide, by decide⟩ (by decide) (by decide)

def coM (M : Mem) (t n : Nat) : Int32 := popC (mT M 3 0 n &&& mT M 4 5 t)
def baS (M : Mem) (t n : Nat) (z : Int32 × Int32) : Int32 × Int32 := if 0 < coM M t n ∧ z.2 < 10 * coM M t n + mT M 14 (toM M t) n then (nI n, 10 * coM M t n + mT M 14 (toM M t) n) else z
def baN (M : Mem) (t : Nat) : Nat → Int32 × Int32
  | 0 => (-1, 0)
  | n + 1 => baS M t n (baN M t n)
def bwS (M : Mem) (t n : Nat) (z : Int32 × Int32) : Int32 × Int32 := if 0 < mT M 17 n 0 ∧ z.2 < mT M 17 n 0 + mT M 14 (toM M t) n then (nI n, mT M 17 n 0 + mT M 14 (toM M t) n) else z
def bwN (M : Mem) (t : Nat) : Nat → Int32 × Int32
  | 0 => (-1, 0)
  | n + 1 => bwS M t n (bwN M t n)
set_option maxHeartbeats 4000000 in
set_option maxRecDepth 100000 in
theorem c_bestFromAnswers {l : Launch} (hfl : l.stackTraces = false) (Γ : Gm) (K : Nat → Nat → Nat) (M : Mem) (i : Nat) (w : Wf M) (hi : i < mN M 4) : CT l Γ pF yX6_bestFromAnswers (wsO yX6_bestFromAnswers cX6_bestFromAnswers 8 (some .int)) 5 [.ref (K 6 0), .ref (K 4 i)] K M (DD True (some (.int (baN M i (mN M 3)).1)) K M) xNo 0 0 := by
  refine ct_intro hfl (by decide) (Nat.le_of_ble_eq_true rfl) ?_
  intro p e s m args below meth c C ht hr hnm hM ls hl
  have hx := C.1
  have hb := C.2.1
  have hS : va_S pF s.heap s.heap [] := va_S.rf
  have hl : lv_has ls 8 [(0, .ref (K 6 0)), (1, .ref (K 4 i))] := hl
  have hb3 := wn3 w
  have h1 := w.2.2.1 i hi
  refine lv_iconst (v := -1) hx hb dX6_bestFromAnswers_0 (by decide) ?_
  refine lv_istore_n (lv' := [(2, _), (0, _), (1, _)]) hx hb dX6_bestFromAnswers_1 rfl hl (by decide) rfl (fun ls hl => ?_)
  refine lv_iconst (v := 0) hx hb dX6_bestFromAnswers_2 (by decide) ?_
  refine lv_istore_n (lv' := [(3, _), (2, _), (0, _), (1, _)]) hx hb dX6_bestFromAnswers_3 rfl hl (by decide) rfl (fun ls hl => ?_)
  refine lv_iconst (v := 0) hx hb dX6_bestFromAnswers_4 (by decide) ?_
  refine lv_istore (lv' := [(4, _), (3, _), (2, _), (0, _), (1, _)]) hx hb dX6_bestFromAnswers_5 hl (by decide) rfl (fun ls hl => ?_)
  suffices K7 : ∀ (n9 : Nat) (n : Nat), mN M 3 - n < n9 → (n ≤ mN M 3) → ∀ (H : Heap) (locs : List Loc) (ls : Array Slot), HM Γ K M H → va_S pF s.heap H locs → lv_has ls 8 [(0, .ref (K 6 0)), (1, .ref (K 4 i)), (2, .int (baN M i n).1), (3, .int (baN M i n).2), (4, .int (nI n))] → W p l e (rmL 5 0 0) s m args below meth c H locs 0 0 (vx_MQ below (cQ Γ pF (DD True (some (.int (baN M i (mN M 3)).1)) K M)) (cX Γ pF K M xNo) args s 0 0 pF) (F0 m 7 ls []) by
    exact K7 _ 0 (Nat.lt_succ_self _) (Nat.zero_le _) _ _ _ hM hS (lv_sub hl [3, 4, 2, 1, 0] rfl)
  intro n9
  induction n9 with
  | zero => intro n h9; exact absurd h9 (Nat.not_lt_zero _)
  | succ n9 ih =>
    intro n h9 hn H locs ls hM hS hl
    refine lv_iload hx hb dX6_bestFromAnswers_7 (lv_at hl 4 rfl) ?_
    refine lv_aload_n hx hb dX6_bestFromAnswers_9 rfl (lv_at hl 0 rfl) ?_
    refine g_get C hM clo_6 6 (by decide) (wn6 w) t_105 rfl (v := _) (fv4 rfl) dX6_bestFromAnswers_10 ?_
    refine g_cV C hS (fun _ h => h.elim) hM hl (fun _ h => h) (c_size13 hfl Γ _ _ (by assumption)) kJx4a65c_size_8abf5 t_153 (HM.recvL C hM rfl (wn13 (by assumption))) dX6_bestFromAnswers_13 rfl rfl (Nat.le_of_ble_eq_true rfl) (by decide) rfl ⟨by decide, by decide⟩ xNo_goes (fun H locs hc_13 hM hS => ?_)
    refine g_icmp_ge (tgt := 89) hx hb dX6_bestFromAnswers_16 (by decide) (fun c_16 => ?_) (fun c_16 => ?_)
    · skip
      refine lv_iload_n hx hb dX6_bestFromAnswers_89 rfl (lv_at hl 2 rfl) ?_
      exact g_iret C hr hM hS dX6_bestFromAnswers_90 (by decide) (by decide) ⟨trivial, by rw [show n = mN M 3 by have := (not_congr (nI_ltI (a := n) (b := mN M 3) (by omega) (by omega))).mp c_16; omega], rfl, rfl⟩
    · skip
      have h6 : n < mN M 3 := (nI_ltI (by omega) (by omega)).mp c_16
      have hx6 : inN (nI n) (mN M 3) = true := inN_nI h6 (by omega)
      have hx7 := ix_nI (q := n) (by omega)
      refine lv_aload_n hx hb dX6_bestFromAnswers_19 rfl (lv_at hl 0 rfl) ?_
      refine g_get C hM clo_6 6 (by decide) (wn6 w) t_105 rfl (v := _) (fv4 rfl) dX6_bestFromAnswers_20 ?_
      refine lv_iload hx hb dX6_bestFromAnswers_23 (lv_at hl 4 rfl) ?_
      refine g_cV C hS (fun _ h => h.elim) hM hl (fun _ h => h) (c_get13 hfl Γ _ _ _ (by assumption) (by assumption)) kJx4a65c_get_915e3 t_181 (HM.recvL C hM rfl (wn13 (by assumption))) dX6_bestFromAnswers_25 rfl rfl (Nat.le_of_ble_eq_true rfl) (by decide) rfl ⟨by decide, by decide⟩ xNo_goes (fun H locs hc_25 hM hS => ?_)
      rw [hx7]
      refine g_chk C hM clo_3 (by first | assumption | omega) t_1156 dX6_bestFromAnswers_28 ?_
      refine lv_astore (lv' := [(5, _), (0, _), (1, _), (2, _), (3, _), (4, _)]) hx hb dX6_bestFromAnswers_31 hl (by decide) rfl (fun ls hl => ?_)
      refine lv_aload hx hb dX6_bestFromAnswers_33 (lv_at hl 0 rfl) ?_
      refine g_getN C hM clo_3 0 (by decide) h6 n_1212 rfl (v := .int (mT _ 3 0 _)) rfl dX6_bestFromAnswers_35 ?_
      refine lv_aload_n hx hb dX6_bestFromAnswers_38 rfl (lv_at hl 2 rfl) ?_
      refine g_getN C hM clo_4 5 (by decide) hi n_774 rfl (v := .int (mT _ 4 5 _)) rfl dX6_bestFromAnswers_39 ?_
      refine lv_iand hx hb dX6_bestFromAnswers_42 ?_
      refine g_cS C hS (fun _ h => h.elim) hM hl (fun _ h => h) (c_bitCount hfl Γ _ _ _) kJ6_bitCount_0f7a4 t_1041 dX6_bestFromAnswers_43 rfl rfl (Nat.le_of_ble_eq_true rfl) (by decide) rfl ⟨by decide, by decide⟩ xNo_goes (fun H locs hc_43 hM hS => ?_)
      refine lv_istore (lv' := [(6, _), (5, _), (0, _), (1, _), (2, _), (3, _), (4, _)]) hx hb dX6_bestFromAnswers_46 hl (by decide) rfl (fun ls hl => ?_)
      refine lv_bipush (v := 10) hx hb dX6_bestFromAnswers_48 (by decide) ?_
      refine lv_iload hx hb dX6_bestFromAnswers_50 (lv_at hl 0 rfl) ?_
      refine lv_imul hx hb dX6_bestFromAnswers_52 ?_
      refine lv_aload hx hb dX6_bestFromAnswers_53 (lv_at hl 1 rfl) ?_
      refine g_getN C hM clo_3 1 (by decide) h6 n_1214 rfl (v := _) (fv3 rfl) dX6_bestFromAnswers_55 ?_
      refine lv_aload_n hx hb dX6_bestFromAnswers_58 rfl (lv_at hl 3 rfl) ?_
      refine g_getN C hM clo_4 4 (by decide) hi n_772 rfl (v := .int (mT _ 4 4 _)) rfl dX6_bestFromAnswers_59 ?_
      refine g_iald C hM rw_14 (wn14 w h6) (toM M i) h1.2.2.1 h1.2.2.2.1 (by decide) dX6_bestFromAnswers_62 ?_
      refine lv_iadd hx hb dX6_bestFromAnswers_63 ?_
      refine lv_istore (lv' := [(7, _), (6, _), (5, _), (0, _), (1, _), (2, _), (3, _), (4, _)]) hx hb dX6_bestFromAnswers_64 hl (by decide) rfl (fun ls hl => ?_)
      refine lv_iload hx hb dX6_bestFromAnswers_66 (lv_at hl 1 rfl) ?_
      refine g_if_le (tgt := 83) hx hb dX6_bestFromAnswers_68 (by decide) (fun c_68 => ?_) (fun c_68 => ?_)
      · skip
        refine lv_iinc (k := 7) (v := nI (n + 1)) (lv' := [(4, _), (7, _), (6, _), (5, _), (0, _), (1, _), (2, _), (3, _)]) hx hb dX6_bestFromAnswers_83 hl rfl (nI_1 n) (by decide) rfl (fun ls hl => ?_)
        refine lv_goto (tgt := 7) hx hb dX6_bestFromAnswers_86 (by decide) ?_
        exact ih (n + 1) (by omega) h6 _ _ _ hM hS ((by rw [baN, baS, if_neg (fun z => c_68 z.1)]; exact lv_sub hl [4, 5, 6, 7, 0] rfl))
      · skip
        refine lv_iload hx hb dX6_bestFromAnswers_71 (lv_at hl 0 rfl) ?_
        refine lv_iload_n hx hb dX6_bestFromAnswers_73 rfl (lv_at hl 6 rfl) ?_
        refine g_icmp_le (tgt := 83) hx hb dX6_bestFromAnswers_74 (by decide) (fun c_74 => ?_) (fun c_74 => ?_)
        · skip
          refine lv_iinc (k := 7) (v := nI (n + 1)) (lv' := [(4, _), (7, _), (6, _), (5, _), (0, _), (1, _), (2, _), (3, _)]) hx hb dX6_bestFromAnswers_83 hl rfl (nI_1 n) (by decide) rfl (fun ls hl => ?_)
          refine lv_goto (tgt := 7) hx hb dX6_bestFromAnswers_86 (by decide) ?_
          exact ih (n + 1) (by omega) h6 _ _ _ hM hS ((by rw [baN, baS, if_neg (fun z => c_74 z.2)]; exact lv_sub hl [4, 5, 6, 7, 0] rfl))
        · skip
          refine lv_iload hx hb dX6_bestFromAnswers_77 (lv_at hl 7 rfl) ?_
          refine lv_istore_n (lv' := [(2, _), (7, _), (6, _), (5, _), (0, _), (1, _), (3, _), (4, _)]) hx hb dX6_bestFromAnswers_79 rfl hl (by decide) rfl (fun ls hl => ?_)
          refine lv_iload hx hb dX6_bestFromAnswers_80 (lv_at hl 1 rfl) ?_
          refine lv_istore_n (lv' := [(3, _), (2, _), (7, _), (6, _), (5, _), (0, _), (1, _), (4, _)]) hx hb dX6_bestFromAnswers_82 rfl hl (by decide) rfl (fun ls hl => ?_)
          refine lv_iinc (k := 7) (v := nI (n + 1)) (lv' := [(4, _), (3, _), (2, _), (7, _), (6, _), (5, _), (0, _), (1, _)]) hx hb dX6_bestFromAnswers_83 hl rfl (nI_1 n) (by decide) rfl (fun ls hl => ?_)
          refine lv_goto (tgt := 7) hx hb dX6_bestFromAnswers_86 (by decide) ?_
          exact ih (n + 1) (by omega) h6 _ _ _ hM hS ((by rw [baN, baS, if_pos ⟨c_68, c_74⟩]; exact lv_sub hl [6, 7, 2, 1, 0] rfl))

def swS (M : Mem) (v i : Nat) : Mem := if (mT M 16 v 0 >>> (nI i &&& 31)) &&& 1 = 1 then sT M 17 i 0 (mT M 17 i 0 + 10) else M
def swN (M : Mem) (v : Nat) : Nat → Mem
  | 0 => M
  | i + 1 => swS (swN M v i) v i
theorem wf_17 {M : Mem} {j i : Nat} {v : Int32} (w : Wf M) : Wf (sT M 17 j i v) := wf_sT (fun z => absurd z.1 (by decide)) (fun z => absurd z.1 (by decide)) w
theorem wf_swS {M : Mem} {v i : Nat} (w : Wf M) : Wf (swS M v i) := by
  unfold swS
  split
  · exact wf_17 w
  · exact w
theorem wf_sw {M : Mem} {v : Nat} (w : Wf M) : ∀ i, Wf (swN M v i)
  | 0 => w
  | i + 1 => wf_swS (wf_sw w i)
def ssS (M : Mem) (x : Int32) (v : Nat) : Mem := if (x >>> (nI v &&& 31)) &&& 1 = 1 then swN M v 8 else M
def ssN (M : Mem) (x : Int32) : Nat → Mem
  | 0 => M
  | v + 1 => ssS (ssN M x v) x v
theorem wf_ssS {M : Mem} {x : Int32} {v : Nat} (w : Wf M) : Wf (ssS M x v) := by
  unfold ssS
  split
  · exact wf_sw w 8
  · exact w
theorem wf_ss {M : Mem} {x : Int32} (w : Wf M) : ∀ v, Wf (ssN M x v)
  | 0 => w
  | v + 1 => wf_ssS (wf_ss w v)
theorem wf_fill {M : Mem} {x : Int32} (w : Wf M) : Wf (fillM M 17 0 x) := by
  have e : ∀ k j c, k ≠ 17 → mT (fillM M 17 0 x) k j c = mT M k j c := fun k j c h => if_neg (fun z => h z.1)
  have e1 : ∀ c, mT (fillM M 17 0 x) 1 1 c = mT M 1 1 c := fun c => e _ _ _ (by decide)
  have e2 : ∀ c, mT (fillM M 17 0 x) 4 4 c = mT M 4 4 c := fun c => e _ _ _ (by decide)
  have n1 : mN (fillM M 17 0 x) = mN M := rfl
  have n2 : mP (fillM M 17 0 x) = mP M := rfl
  have n3 : mL (fillM M 17 0 x) = mL M := rfl
  simpa only [Wf, WfN, WfT, WfL, lvM, toM, cuM, n1, n2, n3, e1, e2] using w
def scoM (M : Mem) (x : Int32) : Mem := ssN (fillM M 17 0 0) x 10
set_option maxHeartbeats 4000000 in
set_option maxRecDepth 100000 in
theorem c_scoreWord {l : Launch} (hfl : l.stackTraces = false) (Γ : Gm) (K : Nat → Nat → Nat) (M : Mem) (v : Nat) (w : Wf M) (hv : v < 10) : CT l Γ (gFree Γ) yX6_scoreWord (wsO yX6_scoreWord cX6_scoreWord 3 none) 1 [.ref (K 6 0), .int (nI v)] K M (DD True none K (swN M v 8)) xNo 0 0 := by
  refine ct_intro hfl (by decide) (Nat.le_of_ble_eq_true rfl) ?_
  intro p e s m args below meth c C ht hr hnm hM ls hl
  have hx := C.1
  have hb := C.2.1
  have hS : va_S (gFree Γ) s.heap s.heap [] := va_S.rf
  have hl : lv_has ls 3 [(0, .ref (K 6 0)), (1, .int (nI v))] := hl
  refine lv_iconst (v := 0) hx hb dX6_scoreWord_0 (by decide) ?_
  refine lv_istore_n (lv' := [(2, _), (0, _), (1, _)]) hx hb dX6_scoreWord_1 rfl hl (by decide) rfl (fun ls hl => ?_)
  suffices K2 : ∀ (n9 : Nat) (n : Nat), 8 - n < n9 → (Wf (swN M v n)) → (n ≤ 8) → ∀ (H : Heap) (locs : List Loc) (ls : Array Slot), HM Γ K (swN M v n) H → va_S (gFree Γ) s.heap H locs → lv_has ls 3 [(0, .ref (K 6 0)), (1, .int (nI v)), (2, .int (nI n))] → W p l e (rmL 1 0 0) s m args below meth c H locs 0 0 (vx_MQ below (cQ Γ (gFree Γ) (DD True none K (swN M v 8))) (cX Γ (gFree Γ) K M xNo) args s 0 0 (gFree Γ)) (F0 m 2 ls []) by
    exact K2 _ 0 (Nat.lt_succ_self _) w (Nat.zero_le _) _ _ _ hM hS (lv_sub hl [1, 2, 0] rfl)
  intro n9
  induction n9 with
  | zero => intro n h9; exact absurd h9 (Nat.not_lt_zero _)
  | succ n9 ih =>
    intro n h9 wz hn H locs ls hM hS hl
    refine lv_iload_n hx hb dX6_scoreWord_2 rfl (lv_at hl 2 rfl) ?_
    refine lv_aload_n hx hb dX6_scoreWord_3 rfl (lv_at hl 0 rfl) ?_
    refine g_get C hM clo_6 8 (by decide) (wn6 wz) t_107 rfl (v := _) (fv4 rfl) dX6_scoreWord_4 ?_
    refine g_alen C hM rw_17 (wn17 wz) dX6_scoreWord_7 ?_
    refine g_icmp_ge (tgt := 42) hx hb dX6_scoreWord_8 (by decide) (fun c_8 => ?_) (fun c_8 => ?_)
    · skip
      exact g_vret C hr hM hS dX6_scoreWord_42 (by decide) (by decide) ⟨trivial, rfl, rfl, congrArg (swN M v) (by have := (not_congr (nI_ltI (a := n) (b := 8) (by omega) (by omega))).mp c_8; omega)⟩
    · skip
      have h6 : n < 8 := (nI_ltI (b := 8) (by omega) (by omega)).mp c_8
      refine lv_aload_n hx hb dX6_scoreWord_11 rfl (lv_at hl 0 rfl) ?_
      refine g_get C hM clo_6 7 (by decide) (wn6 wz) t_106 rfl (v := _) (fv4 rfl) dX6_scoreWord_12 ?_
      refine lv_iload_n hx hb dX6_scoreWord_15 rfl (lv_at hl 1 rfl) ?_
      refine g_iald C hM rw_16 (wn16 wz) v rfl hv (by decide) dX6_scoreWord_16 ?_
      refine lv_iload_n hx hb dX6_scoreWord_17 rfl (lv_at hl 2 rfl) ?_
      refine lv_ishr hx hb dX6_scoreWord_18 ?_
      refine lv_iconst (v := 1) hx hb dX6_scoreWord_19 (by decide) ?_
      refine lv_iand hx hb dX6_scoreWord_20 ?_
      refine lv_iconst (v := 1) hx hb dX6_scoreWord_21 (by decide) ?_
      refine lv_icmp_ne (tgt := 36) hx hb dX6_scoreWord_22 (by decide) (fun c_22 => ?_) (fun c_22 => ?_)
      · skip
        refine lv_iinc (k := 2) (v := nI (n + 1)) (lv' := [(2, _), (0, _), (1, _)]) hx hb dX6_scoreWord_36 hl rfl (nI_1 n) (by decide) rfl (fun ls hl => ?_)
        refine lv_goto (tgt := 2) hx hb dX6_scoreWord_39 (by decide) ?_
        exact ih (n + 1) (by omega) (wf_swS wz) h6 _ _ _ (by rw [swN, swS, if_neg c_22]; exact hM) hS (lv_sub hl [1, 2, 0] rfl)
      · skip
        refine lv_aload_n hx hb dX6_scoreWord_25 rfl (lv_at hl 0 rfl) ?_
        refine g_get C hM clo_6 8 (by decide) (wn6 wz) t_107 rfl (v := _) (fv4 rfl) dX6_scoreWord_26 ?_
        refine lv_iload_n hx hb dX6_scoreWord_29 rfl (lv_at hl 2 rfl) ?_
        refine lv_dup2_11 hx hb dX6_scoreWord_30 rfl rfl ?_
        refine g_iald C hM rw_17 (wn17 wz) n rfl h6 (by decide) dX6_scoreWord_31 ?_
        refine lv_bipush (v := 10) hx hb dX6_scoreWord_32 (by decide) ?_
        refine lv_iadd hx hb dX6_scoreWord_34 ?_
        refine g_iast C hM hS rw_17 (wn17 wz) n rfl h6 (by decide) dX6_scoreWord_35 (fun H locs hM hS => ?_)
        refine lv_iinc (k := 2) (v := nI (n + 1)) (lv' := [(2, _), (0, _), (1, _)]) hx hb dX6_scoreWord_36 hl rfl (nI_1 n) (by decide) rfl (fun ls hl => ?_)
        refine lv_goto (tgt := 2) hx hb dX6_scoreWord_39 (by decide) ?_
        exact ih (n + 1) (by omega) (wf_swS wz) h6 _ _ _ (by rw [swN, swS, if_pos c_22]; exact hM) hS (lv_sub hl [1, 2, 0] rfl)

set_option maxHeartbeats 4000000 in
set_option maxRecDepth 100000 in
theorem c_scoreWords {l : Launch} (hfl : l.stackTraces = false) (Γ : Gm) (K : Nat → Nat → Nat) (M : Mem) (x : Int32) (w : Wf M) : CT l Γ (gFree Γ) yX6_scoreWords (wsO yX6_scoreWords cX6_scoreWords 3 none) 2 [.ref (K 6 0), .int x] K M (DD True none K (scoM M x)) xNo 0 0 := by
  refine ct_intro hfl (by decide) (Nat.le_of_ble_eq_true rfl) ?_
  intro p e s m args below meth c C ht hr hnm hM ls hl
  have hx := C.1
  have hb := C.2.1
  have hS : va_S (gFree Γ) s.heap s.heap [] := va_S.rf
  have hl : lv_has ls 3 [(0, .ref (K 6 0)), (1, .int x)] := hl
  refine lv_aload_n hx hb dX6_scoreWords_0 rfl (lv_at hl 0 rfl) ?_
  refine g_get C hM clo_6 8 (by decide) (wn6 w) t_107 rfl (v := _) (fv4 rfl) dX6_scoreWords_1 ?_
  refine lv_iconst (v := 0) hx hb dX6_scoreWords_4 (by decide) ?_
  refine g_cS C hS (fun _ h => h) hM hl (fun _ h => h) (c_fill hfl Γ _ _ 17 0 _ rw_17 (wn17 w)) kJ7_fill_53178 t_1254 dX6_scoreWords_5 rfl rfl (Nat.le_of_ble_eq_true rfl) (by decide) rfl ⟨by decide, by decide⟩ xNo_goes (fun H locs hc_5 hM hS => ?_)
  refine lv_iconst (v := 0) hx hb dX6_scoreWords_8 (by decide) ?_
  refine lv_istore_n (lv' := [(2, _), (0, _), (1, _)]) hx hb dX6_scoreWords_9 rfl hl (by decide) rfl (fun ls hl => ?_)
  suffices K10 : ∀ (n9 : Nat) (n : Nat), 10 - n < n9 → (Wf (ssN (fillM M 17 0 0) x n)) → (n ≤ 10) → ∀ (H : Heap) (locs : List Loc) (ls : Array Slot), HM Γ K (ssN (fillM M 17 0 0) x n) H → va_S (gFree Γ) s.heap H locs → lv_has ls 3 [(0, .ref (K 6 0)), (1, .int x), (2, .int (nI n))] → W p l e (rmL 2 0 0) s m args below meth c H locs 0 0 (vx_MQ below (cQ Γ (gFree Γ) (DD True none K (scoM M x))) (cX Γ (gFree Γ) K M xNo) args s 0 0 (gFree Γ)) (F0 m 10 ls []) by
    exact K10 _ 0 (Nat.lt_succ_self _) (wf_fill w) (Nat.zero_le _) _ _ _ hM hS (lv_sub hl [1, 2, 0] rfl)
  intro n9
  induction n9 with
  | zero => intro n h9; exact absurd h9 (Nat.not_lt_zero _)
  | succ n9 ih =>
    intro n h9 wz hn H locs ls hM hS hl
    refine lv_iload_n hx hb dX6_scoreWords_10 rfl (lv_at hl 2 rfl) ?_
    refine lv_bipush (v := 10) hx hb dX6_scoreWords_11 (by decide) ?_
    refine g_icmp_ge (tgt := 36) hx hb dX6_scoreWords_13 (by decide) (fun c_13 => ?_) (fun c_13 => ?_)
    · skip
      exact g_vret C hr hM hS dX6_scoreWords_36 (by decide) (by decide) ⟨trivial, rfl, rfl, congrArg (ssN (fillM M 17 0 0) x) (by have := (not_congr (nI_ltI (a := n) (b := 10) (by omega) (by omega))).mp c_13; omega)⟩
    · skip
      have h6 : n < 10 := (nI_ltI (b := 10) (by omega) (by omega)).mp c_13
      refine lv_iload_n hx hb dX6_scoreWords_16 rfl (lv_at hl 1 rfl) ?_
      refine lv_iload_n hx hb dX6_scoreWords_17 rfl (lv_at hl 2 rfl) ?_
      refine lv_ishr hx hb dX6_scoreWords_18 ?_
      refine lv_iconst (v := 1) hx hb dX6_scoreWords_19 (by decide) ?_
      refine lv_iand hx hb dX6_scoreWords_20 ?_
      refine lv_iconst (v := 1) hx hb dX6_scoreWords_21 (by decide) ?_
      refine lv_icmp_ne (tgt := 30) hx hb dX6_scoreWords_22 (by decide) (fun c_22 => ?_) (fun c_22 => ?_)
      · skip
        refine lv_iinc (k := 2) (v := nI (n + 1)) (lv' := [(2, _), (0, _), (1, _)]) hx hb dX6_scoreWords_30 hl rfl (nI_1 n) (by decide) rfl (fun ls hl => ?_)
        refine lv_goto (tgt := 10) hx hb dX6_scoreWords_33 (by decide) ?_
        exact ih (n + 1) (by omega) (wf_ssS wz) h6 _ _ _ (by rw [ssN, ssS, if_neg c_22]; exact hM) hS (lv_sub hl [1, 2, 0] rfl)
      · skip
        refine lv_aload_n hx hb dX6_scoreWords_25 rfl (lv_at hl 0 rfl) ?_
        refine lv_iload_n hx hb dX6_scoreWords_26 rfl (lv_at hl 2 rfl) ?_
        refine g_cV C hS (fun _ h => h) hM hl (fun _ h => h) (c_scoreWord hfl Γ _ _ n wz h6) kX6_scoreWord t_1257 (HM.recv C hM clo_6 (wn6 wz)) dX6_scoreWords_27 rfl rfl (Nat.le_of_ble_eq_true rfl) (by decide) rfl ⟨by decide, by decide⟩ xNo_goes (fun H locs hc_27 hM hS => ?_)
        refine lv_iinc (k := 2) (v := nI (n + 1)) (lv' := [(2, _), (0, _), (1, _)]) hx hb dX6_scoreWords_30 hl rfl (nI_1 n) (by decide) rfl (fun ls hl => ?_)
        refine lv_goto (tgt := 10) hx hb dX6_scoreWords_33 (by decide) ?_
        exact ih (n + 1) (by omega) (wf_ssS wz) h6 _ _ _ (by rw [ssN, ssS, if_pos c_22]; exact hM) hS (lv_sub hl [1, 2, 0] rfl)

theorem mN_swS {M : Mem} {v i : Nat} : mN (swS M v i) = mN M := by unfold swS; split <;> rfl
theorem mN_sw {M : Mem} {v : Nat} : ∀ i, mN (swN M v i) = mN M
  | 0 => rfl
  | i + 1 => mN_swS.trans (mN_sw i)
theorem mN_ss {M : Mem} {x : Int32} : ∀ v, mN (ssN M x v) = mN M
  | 0 => rfl
  | v + 1 => by
    unfold ssN ssS
    split
    · rw [mN_sw]; exact mN_ss v
    · exact mN_ss v
theorem mN_sco {M : Mem} {x : Int32} : mN (scoM M x) = mN M := mN_ss 10
set_option maxHeartbeats 4000000 in
set_option maxRecDepth 100000 in
theorem c_bestFromWords {l : Launch} (hfl : l.stackTraces = false) (Γ : Gm) (K : Nat → Nat → Nat) (M : Mem) (i : Nat) (w : Wf M) (hi : i < mN M 4) : CT l Γ (gFree Γ) yX6_bestFromWords (wsO yX6_bestFromWords cX6_bestFromWords 6 (some .int)) 5 [.ref (K 6 0), .ref (K 4 i)] K M (DD True (some (.int (bwN (scoM M (mT M 4 5 i)) i (mN M 3)).1)) K (scoM M (mT M 4 5 i))) xNo 0 0 := by
  refine ct_intro hfl (by decide) (Nat.le_of_ble_eq_true rfl) ?_
  intro p e s m args below meth c C ht hr hnm hM ls hl
  have hx := C.1
  have hb := C.2.1
  have hS : va_S (gFree Γ) s.heap s.heap [] := va_S.rf
  have hl : lv_has ls 6 [(0, .ref (K 6 0)), (1, .ref (K 4 i))] := hl
  refine lv_aload_n hx hb dX6_bestFromWords_0 rfl (lv_at hl 0 rfl) ?_
  refine lv_aload_n hx hb dX6_bestFromWords_1 rfl (lv_at hl 1 rfl) ?_
  refine g_getN C hM clo_4 5 (by decide) hi n_774 rfl (v := .int (mT _ 4 5 _)) rfl dX6_bestFromWords_2 ?_
  refine g_cV C hS (fun _ h => h) hM hl (fun _ h => h) (c_scoreWords hfl Γ _ _ _ w) kX6_scoreWords t_1250 (HM.recv C hM clo_6 (wn6 w)) dX6_bestFromWords_5 rfl rfl (Nat.le_of_ble_eq_true rfl) (by decide) rfl ⟨by decide, by decide⟩ xNo_goes (fun H locs hc_5 hM hS => ?_)
  have wz : Wf (scoM M (mT M 4 5 i)) := wf_ss (wf_fill w) 10
  have hN := mN_sco (M := M) (x := mT M 4 5 i)
  have hiz : i < mN (scoM M (mT M 4 5 i)) 4 := by rw [hN]; exact hi
  have h1 := wz.2.2.1 i hiz
  have hb3 := wn3 wz
  refine lv_iconst (v := -1) hx hb dX6_bestFromWords_8 (by decide) ?_
  refine lv_istore_n (lv' := [(2, _), (0, _), (1, _)]) hx hb dX6_bestFromWords_9 rfl hl (by decide) rfl (fun ls hl => ?_)
  refine lv_iconst (v := 0) hx hb dX6_bestFromWords_10 (by decide) ?_
  refine lv_istore_n (lv' := [(3, _), (2, _), (0, _), (1, _)]) hx hb dX6_bestFromWords_11 rfl hl (by decide) rfl (fun ls hl => ?_)
  refine lv_iconst (v := 0) hx hb dX6_bestFromWords_12 (by decide) ?_
  refine lv_istore (lv' := [(4, _), (3, _), (2, _), (0, _), (1, _)]) hx hb dX6_bestFromWords_13 hl (by decide) rfl (fun ls hl => ?_)
  suffices K15 : ∀ (n9 : Nat) (n : Nat), mN (scoM M (mT M 4 5 i)) 3 - n < n9 → (n ≤ mN (scoM M (mT M 4 5 i)) 3) → ∀ (H : Heap) (locs : List Loc) (ls : Array Slot), HM Γ K (scoM M (mT M 4 5 i)) H → va_S (gFree Γ) s.heap H locs → lv_has ls 6 [(0, .ref (K 6 0)), (1, .ref (K 4 i)), (2, .int (bwN (scoM M (mT M 4 5 i)) i n).1), (3, .int (bwN (scoM M (mT M 4 5 i)) i n).2), (4, .int (nI n))] → W p l e (rmL 5 0 0) s m args below meth c H locs 0 0 (vx_MQ below (cQ Γ (gFree Γ) (DD True (some (.int (bwN (scoM M (mT M 4 5 i)) i (mN M 3)).1)) K (scoM M (mT M 4 5 i)))) (cX Γ (gFree Γ) K M xNo) args s 0 0 (gFree Γ)) (F0 m 15 ls []) by
    exact K15 _ 0 (Nat.lt_succ_self _) (Nat.zero_le _) _ _ _ hM hS (lv_sub hl [3, 4, 2, 1, 0] rfl)
  intro n9
  induction n9 with
  | zero => intro n h9; exact absurd h9 (Nat.not_lt_zero _)
  | succ n9 ih =>
    intro n h9 hn H locs ls hM hS hl
    refine lv_iload hx hb dX6_bestFromWords_15 (lv_at hl 4 rfl) ?_
    refine lv_aload_n hx hb dX6_bestFromWords_17 rfl (lv_at hl 0 rfl) ?_
    refine g_get C hM clo_6 6 (by decide) (wn6 wz) t_105 rfl (v := _) (fv4 rfl) dX6_bestFromWords_18 ?_
    refine g_cV C hS (fun _ h => h) hM hl (fun _ h => h.elim) (c_size13 hfl Γ _ _ (by assumption)) kJx4a65c_size_8abf5 t_153 (HM.recvL C hM rfl (wn13 (by assumption))) dX6_bestFromWords_21 rfl rfl (Nat.le_of_ble_eq_true rfl) (by decide) rfl ⟨by decide, by decide⟩ xNo_goes (fun H locs hc_21 hM hS => ?_)
    refine g_icmp_ge (tgt := 95) hx hb dX6_bestFromWords_24 (by decide) (fun c_24 => ?_) (fun c_24 => ?_)
    · skip
      refine lv_iload_n hx hb dX6_bestFromWords_95 rfl (lv_at hl 2 rfl) ?_
      exact g_iret C hr hM hS dX6_bestFromWords_96 (by decide) (by decide) ⟨trivial, by rw [← hN, show n = mN (scoM M (mT M 4 5 i)) 3 by have := (not_congr (nI_ltI (a := n) (b := mN (scoM M (mT M 4 5 i)) 3) (by omega) (by omega))).mp c_24; omega], rfl, rfl⟩
    · skip
      have h6 : n < mN (scoM M (mT M 4 5 i)) 3 := (nI_ltI (by omega) (by omega)).mp c_24
      have hx6 : inN (nI n) (mN (scoM M (mT M 4 5 i)) 3) = true := inN_nI h6 (by omega)
      have hx7 := ix_nI (q := n) (by omega)
      refine lv_iload hx hb dX6_bestFromWords_27 (lv_at hl 4 rfl) ?_
      refine lv_aload_n hx hb dX6_bestFromWords_29 rfl (lv_at hl 0 rfl) ?_
      refine g_get C hM clo_6 8 (by decide) (wn6 wz) t_107 rfl (v := _) (fv4 rfl) dX6_bestFromWords_30 ?_
      refine g_alen C hM rw_17 (wn17 wz) dX6_bestFromWords_33 ?_
      refine g_icmp_ge (tgt := 95) hx hb dX6_bestFromWords_34 (by decide) (fun c_34 => ?_) (fun c_34 => ?_)
      · skip
        refine lv_iload_n hx hb dX6_bestFromWords_95 rfl (lv_at hl 2 rfl) ?_
        exact g_iret C hr hM hS dX6_bestFromWords_96 (by decide) (by decide) ⟨trivial, by rw [← hN, show n = mN (scoM M (mT M 4 5 i)) 3 by have := (not_congr (nI_ltI (a := n) (b := 8) (by omega) (by omega))).mp c_34; omega], rfl, rfl⟩
      · skip
        have h8 : n < 8 := by omega
        refine lv_aload_n hx hb dX6_bestFromWords_37 rfl (lv_at hl 0 rfl) ?_
        refine g_get C hM clo_6 8 (by decide) (wn6 wz) t_107 rfl (v := _) (fv4 rfl) dX6_bestFromWords_38 ?_
        refine lv_iload hx hb dX6_bestFromWords_41 (lv_at hl 4 rfl) ?_
        refine g_iald C hM rw_17 (wn17 wz) n rfl h8 (by decide) dX6_bestFromWords_43 ?_
        refine lv_aload_n hx hb dX6_bestFromWords_44 rfl (lv_at hl 0 rfl) ?_
        refine g_get C hM clo_6 6 (by decide) (wn6 wz) t_105 rfl (v := _) (fv4 rfl) dX6_bestFromWords_45 ?_
        refine lv_iload hx hb dX6_bestFromWords_48 (lv_at hl 4 rfl) ?_
        refine g_cV C hS (fun _ h => h) hM hl (fun _ h => h.elim) (c_get13 hfl Γ _ _ _ (by assumption) (by assumption)) kJx4a65c_get_915e3 t_181 (HM.recvL C hM rfl (wn13 (by assumption))) dX6_bestFromWords_50 rfl rfl (Nat.le_of_ble_eq_true rfl) (by decide) rfl ⟨by decide, by decide⟩ xNo_goes (fun H locs hc_50 hM hS => ?_)
        rw [hx7]
        refine g_chk C hM clo_3 (by first | assumption | omega) t_1156 dX6_bestFromWords_53 ?_
        refine g_getN C hM clo_3 1 (by decide) h6 n_1214 rfl (v := _) (fv3 rfl) dX6_bestFromWords_56 ?_
        refine lv_aload_n hx hb dX6_bestFromWords_59 rfl (lv_at hl 1 rfl) ?_
        refine g_getN C hM clo_4 4 (by decide) hiz n_772 rfl (v := .int (mT _ 4 4 _)) rfl dX6_bestFromWords_60 ?_
        refine g_iald C hM rw_14 (wn14 wz h6) (toM (scoM M (mT M 4 5 i)) i) h1.2.2.1 h1.2.2.2.1 (by decide) dX6_bestFromWords_63 ?_
        refine lv_iadd hx hb dX6_bestFromWords_64 ?_
        refine lv_istore (lv' := [(5, _), (0, _), (1, _), (2, _), (3, _), (4, _)]) hx hb dX6_bestFromWords_65 hl (by decide) rfl (fun ls hl => ?_)
        refine lv_aload_n hx hb dX6_bestFromWords_67 rfl (lv_at hl 1 rfl) ?_
        refine g_get C hM clo_6 8 (by decide) (wn6 wz) t_107 rfl (v := _) (fv4 rfl) dX6_bestFromWords_68 ?_
        refine lv_iload hx hb dX6_bestFromWords_71 (lv_at hl 5 rfl) ?_
        refine g_iald C hM rw_17 (wn17 wz) n rfl h8 (by decide) dX6_bestFromWords_73 ?_
        refine g_if_le (tgt := 89) hx hb dX6_bestFromWords_74 (by decide) (fun c_74 => ?_) (fun c_74 => ?_)
        · skip
          refine lv_iinc (k := 5) (v := nI (n + 1)) (lv' := [(4, _), (5, _), (0, _), (1, _), (2, _), (3, _)]) hx hb dX6_bestFromWords_89 hl rfl (nI_1 n) (by decide) rfl (fun ls hl => ?_)
          refine lv_goto (tgt := 15) hx hb dX6_bestFromWords_92 (by decide) ?_
          exact ih (n + 1) (by omega) h6 _ _ _ hM hS ((by rw [bwN, bwS, if_neg (fun z => c_74 z.1)]; exact lv_sub hl [2, 3, 4, 5, 0] rfl))
        · skip
          refine lv_iload hx hb dX6_bestFromWords_77 (lv_at hl 0 rfl) ?_
          refine lv_iload_n hx hb dX6_bestFromWords_79 rfl (lv_at hl 4 rfl) ?_
          refine g_icmp_le (tgt := 89) hx hb dX6_bestFromWords_80 (by decide) (fun c_80 => ?_) (fun c_80 => ?_)
          · skip
            refine lv_iinc (k := 5) (v := nI (n + 1)) (lv' := [(4, _), (5, _), (0, _), (1, _), (2, _), (3, _)]) hx hb dX6_bestFromWords_89 hl rfl (nI_1 n) (by decide) rfl (fun ls hl => ?_)
            refine lv_goto (tgt := 15) hx hb dX6_bestFromWords_92 (by decide) ?_
            exact ih (n + 1) (by omega) h6 _ _ _ hM hS ((by rw [bwN, bwS, if_neg (fun z => c_80 z.2)]; exact lv_sub hl [2, 3, 4, 5, 0] rfl))
          · skip
            refine lv_iload hx hb dX6_bestFromWords_83 (lv_at hl 5 rfl) ?_
            refine lv_istore_n (lv' := [(2, _), (5, _), (0, _), (1, _), (3, _), (4, _)]) hx hb dX6_bestFromWords_85 rfl hl (by decide) rfl (fun ls hl => ?_)
            refine lv_iload hx hb dX6_bestFromWords_86 (lv_at hl 1 rfl) ?_
            refine lv_istore_n (lv' := [(3, _), (2, _), (5, _), (0, _), (1, _), (4, _)]) hx hb dX6_bestFromWords_88 rfl hl (by decide) rfl (fun ls hl => ?_)
            refine lv_iinc (k := 5) (v := nI (n + 1)) (lv' := [(4, _), (3, _), (2, _), (5, _), (0, _), (1, _)]) hx hb dX6_bestFromWords_89 hl rfl (nI_1 n) (by decide) rfl (fun ls hl => ?_)
            refine lv_goto (tgt := 15) hx hb dX6_bestFromWords_92 (by decide) ?_
            exact ih (n + 1) (by omega) h6 _ _ _ hM hS ((by rw [bwN, bwS, if_pos ⟨c_74, c_80⟩]; exact lv_sub hl [4, 5, 2, 1, 0] rfl))

def rSuggestion (M : Mem) (x : Int32) : Nat := if inN x (mN M 4) = true then (if (baN M (ix x) (mN M 3)).1 = -1 then 2 else 0) else 1
set_option maxHeartbeats 4000000 in
set_option maxRecDepth 100000 in
theorem c_suggestion {l : Launch} (hfl : l.stackTraces = false) (Γ : Gm) (K : Nat → Nat → Nat) (M : Mem) (x : Int32) (w : Wf M) : CT l Γ pF yX6_suggestion (wsO yX6_suggestion cX6_suggestion 3 (some .int)) 8 [.ref (K 6 0), .int x] K M (DD (rSuggestion M x = 0) (some (.int (baN M (ix x) (mN M 3)).1)) K (M)) (XP ["java/lang/IndexOutOfBoundsException", "java/util/NoSuchElementException"] (rSuggestion M x)) 3 20 := by
  refine ct_intro hfl (by decide) (Nat.le_of_ble_eq_true rfl) ?_
  intro p e s m args below meth c C ht hr hnm hM ls hl
  have hx := C.1
  have hb := C.2.1
  have hS : va_S pF s.heap s.heap [] := va_S.rf
  have hl : lv_has ls 3 [(0, .ref (K 6 0)), (1, .int x)] := hl
  have hb4 := wn4 w
  have hb0 := wn0 w
  have hb2 := wn2 w
  refine lv_aload_n hx hb dX6_suggestion_0 rfl (lv_at hl 0 rfl) ?_
  refine lv_aload_n hx hb dX6_suggestion_1 rfl (lv_at hl 0 rfl) ?_
  refine lv_iload_n hx hb dX6_suggestion_2 rfl (lv_at hl 1 rfl) ?_
  refine g_cV C hS (fun _ h => h.elim) hM hl (fun _ h => h) (c_ticketNumbered hfl Γ _ _ _ (by assumption)) kX6_ticketNumbered t_908 (HM.recv C hM clo_6 (wn6 (by assumption))) dX6_suggestion_3 rfl rfl (Nat.le_of_ble_eq_true rfl) (by decide) rfl ⟨by decide, by decide⟩ (g_pass C ht (fun E h => xp_of 0 (by simp [rSuggestion, h.2]) h.1) (by decide) (by decide)) (fun H locs hc_3 hM hS => ?_)
  have hq_3 := (inN_ix hc_3 (by have := wn4 w; omega)).1
  refine g_cV C hS (fun _ h => h.elim) hM hl (fun _ h => h) (c_bestFromAnswers hfl Γ _ _ _ (by assumption) (by assumption)) kX6_bestFromAnswers t_1234 (HM.recv C hM clo_6 (wn6 (by assumption))) dX6_suggestion_6 rfl rfl (Nat.le_of_ble_eq_true rfl) (by decide) rfl ⟨by decide, by decide⟩ xNo_goes (fun H locs hc_6 hM hS => ?_)
  refine lv_istore_n (lv' := [(2, _), (0, _), (1, _)]) hx hb dX6_suggestion_9 rfl hl (by decide) rfl (fun ls hl => ?_)
  refine lv_iload_n hx hb dX6_suggestion_10 rfl (lv_at hl 0 rfl) ?_
  refine lv_iconst (v := -1) hx hb dX6_suggestion_11 (by decide) ?_
  refine lv_icmp_ne (tgt := 26) hx hb dX6_suggestion_12 (by decide) (fun c_12 => ?_) (fun c_12 => ?_)
  · skip
    refine lv_iload_n hx hb dX6_suggestion_26 rfl (lv_at hl 0 rfl) ?_
    exact g_iret C hr hM hS dX6_suggestion_27 (by decide) (by decide) ⟨by simp [rSuggestion, hc_3, c_12], rfl, rfl, rfl⟩
  · skip
    exact g_throwEW C ht (xp_of 1 (by simp [rSuggestion, hc_3, c_12]) rfl) hM hS (fun _ h => h.elim) hl (strX_30) dX6_suggestion_15 dX6_suggestion_18 dX6_suggestion_19 dX6_suggestion_22 dX6_suggestion_25 rfl (Nat.le_of_ble_eq_true rfl) ⟨by decide, by decide⟩ (by decide) (by decide)

