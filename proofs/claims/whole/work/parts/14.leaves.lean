theorem kX6_isWithin : CeeS yX6_isWithin cX6_isWithin 3 (some .boolean) 3 := ⟨t_258, t_1, t_259, by decide +kernel, by decide⟩
theorem kX6_isTopic : CeeS yX6_isTopic cX6_isTopic 1 (some .boolean) 1 := ⟨t_700, t_1, t_701, by decide +kernel, by decide⟩
theorem kX6_areWords : CeeS yX6_areWords cX6_areWords 1 (some .boolean) 1 := ⟨t_703, t_1, t_704, by decide +kernel, by decide⟩
theorem kX4_isOpenOrHeld : CeeV yX4_isOpenOrHeld RX4 cX4_isOpenOrHeld 1 (some .boolean) 0 := ⟨t_950, t_951, t_28, t_952, by decide +kernel, by decide⟩
theorem kX4_isWaiting : CeeV yX4_isWaiting RX4 cX4_isWaiting 1 (some .boolean) 0 := ⟨t_246, t_247, t_28, t_248, by decide +kernel, by decide⟩
theorem kX4_canBeJoined : CeeV yX4_canBeJoined RX4 cX4_canBeJoined 2 (some .boolean) 1 := ⟨t_728, t_729, t_28, t_730, by decide +kernel, by decide⟩
theorem kX4_minutesLeft : CeeV yX4_minutesLeft RX4 cX4_minutesLeft 1 (some .int) 0 := ⟨t_238, t_239, t_28, t_240, by decide +kernel, by decide⟩
theorem kX4_isBefore : CeeV yX4_isBefore RX4 cX4_isBefore 2 (some .boolean) 1 := ⟨t_234, t_235, t_28, t_236, by decide +kernel, by decide⟩
theorem kX4_countMinutes : CeeV yX4_countMinutes RX4 cX4_countMinutes 2 (some .boolean) 1 := ⟨t_333, t_334, t_28, t_335, by decide +kernel, by decide⟩
theorem kX4_beginAnew : CeeV yX4_beginAnew RX4 cX4_beginAnew 1 none 0 := ⟨t_861, t_862, t_28, t_863, by decide +kernel, by decide⟩
theorem kX4_joinAgent : CeeV yX4_joinAgent RX4 cX4_joinAgent 2 none 1 := ⟨t_1108, t_1109, t_28, t_1110, by decide +kernel, by decide⟩
theorem kX4_leaveAgent : CeeV yX4_leaveAgent RX4 cX4_leaveAgent 1 none 0 := ⟨t_956, t_957, t_28, t_958, by decide +kernel, by decide⟩
theorem kX0_hasSkill : CeeV yX0_hasSkill RX0 cX0_hasSkill 2 (some .boolean) 1 := ⟨t_217, t_218, t_31, t_219, by decide +kernel, by decide⟩
theorem kX0_canAnswer : CeeV yX0_canAnswer RX0 cX0_canAnswer 2 (some .boolean) 1 := ⟨t_213, t_214, t_31, t_215, by decide +kernel, by decide⟩
theorem kX3_gainWeight : CeeV yX3_gainWeight RX3 cX3_gainWeight 2 none 1 := ⟨t_1170, t_1171, t_33, t_1172, by decide +kernel, by decide⟩
theorem kX3_loseWeight : CeeV yX3_loseWeight RX3 cX3_loseWeight 2 none 1 := ⟨t_865, t_866, t_33, t_867, by decide +kernel, by decide⟩
set_option maxHeartbeats 4000000 in
set_option maxRecDepth 100000 in
theorem c_isWithin {l : Launch} (hfl : l.stackTraces = false) (Γ : Gm) (K : Nat → Nat → Nat) (M : Mem) (a lo hi : Int32) : CT l Γ pF yX6_isWithin (wsO yX6_isWithin cX6_isWithin 3 (some .boolean)) 0 [.int a, .int lo, .int hi] K M (DD True (some (.int (bI (inB a lo hi)))) K M) xNo 0 0 := by
  refine ct_intro hfl (by decide) (Nat.le_of_ble_eq_true rfl) ?_
  intro p e s m args below meth c C ht hr hnm hM ls hl
  have hx := C.1
  have hb := C.2.1
  have hS : va_S pF s.heap s.heap [] := va_S.rf
  have hl : lv_has ls 3 [(0, .int a), (1, .int lo), (2, .int hi)] := hl
  refine lv_iload_n hx hb dX6_isWithin_0 rfl (lv_at hl 0 rfl) ?_
  refine lv_iload_n hx hb dX6_isWithin_1 rfl (lv_at hl 1 rfl) ?_
  refine lv_icmp_lt (tgt := 14) hx hb dX6_isWithin_2 (by decide) (fun c_2 => ?_) (fun c_2 => ?_)
  · skip
    refine lv_iconst (v := 0) hx hb dX6_isWithin_14 (by decide) ?_
    exact g_zret C hr rfl hM hS dX6_isWithin_15 (by decide) (by decide) ⟨trivial, by rw [inB_f1 c_2]; rfl, rfl, rfl⟩
  · skip
    refine lv_iload_n hx hb dX6_isWithin_5 rfl (lv_at hl 0 rfl) ?_
    refine lv_iload_n hx hb dX6_isWithin_6 rfl (lv_at hl 2 rfl) ?_
    refine lv_icmp_gt (tgt := 14) hx hb dX6_isWithin_7 (by decide) (fun c_7 => ?_) (fun c_7 => ?_)
    · skip
      refine lv_iconst (v := 0) hx hb dX6_isWithin_14 (by decide) ?_
      exact g_zret C hr rfl hM hS dX6_isWithin_15 (by decide) (by decide) ⟨trivial, by rw [inB_f2 c_7]; rfl, rfl, rfl⟩
    · skip
      refine lv_iconst (v := 1) hx hb dX6_isWithin_10 (by decide) ?_
      refine lv_goto (tgt := 15) hx hb dX6_isWithin_11 (by decide) ?_
      exact g_zret C hr rfl hM hS dX6_isWithin_15 (by decide) (by decide) ⟨trivial, by rw [inB_t c_2 c_7]; rfl, rfl, rfl⟩

set_option maxHeartbeats 4000000 in
set_option maxRecDepth 100000 in
theorem c_isTopic {l : Launch} (hfl : l.stackTraces = false) (Γ : Gm) (K : Nat → Nat → Nat) (M : Mem) (a : Int32) : CT l Γ pF yX6_isTopic (wsO yX6_isTopic cX6_isTopic 1 (some .boolean)) 1 [.int a] K M (DD True (some (.int (bI (inB a 0 5)))) K M) xNo 0 0 := by
  refine ct_intro hfl (by decide) (Nat.le_of_ble_eq_true rfl) ?_
  intro p e s m args below meth c C ht hr hnm hM ls hl
  have hx := C.1
  have hb := C.2.1
  have hS : va_S pF s.heap s.heap [] := va_S.rf
  have hl : lv_has ls 1 [(0, .int a)] := hl
  refine lv_iload_n hx hb dX6_isTopic_0 rfl (lv_at hl 0 rfl) ?_
  refine lv_iconst (v := 0) hx hb dX6_isTopic_1 (by decide) ?_
  refine lv_iconst (v := 5) hx hb dX6_isTopic_2 (by decide) ?_
  refine g_cS C hS (fun _ h => h.elim) hM hl (fun _ h => h) (c_isWithin hfl Γ _ _ _ _ _) kX6_isWithin t_257 dX6_isTopic_3 rfl rfl (by decide) (by decide) rfl ⟨by decide, by decide⟩ xNo_goes (fun H locs hc_3 hM hS => ?_)
  exact g_zret C hr (bI_narrow _) hM hS dX6_isTopic_6 (by decide) (by decide) ⟨trivial, rfl, rfl, rfl⟩

set_option maxHeartbeats 4000000 in
set_option maxRecDepth 100000 in
theorem c_areWords {l : Launch} (hfl : l.stackTraces = false) (Γ : Gm) (K : Nat → Nat → Nat) (M : Mem) (a : Int32) : CT l Γ pF yX6_areWords (wsO yX6_areWords cX6_areWords 1 (some .boolean)) 1 [.int a] K M (DD True (some (.int (bI (inB a 0 1023)))) K M) xNo 0 0 := by
  refine ct_intro hfl (by decide) (Nat.le_of_ble_eq_true rfl) ?_
  intro p e s m args below meth c C ht hr hnm hM ls hl
  have hx := C.1
  have hb := C.2.1
  have hS : va_S pF s.heap s.heap [] := va_S.rf
  have hl : lv_has ls 1 [(0, .int a)] := hl
  refine lv_iload_n hx hb dX6_areWords_0 rfl (lv_at hl 0 rfl) ?_
  refine lv_iconst (v := 0) hx hb dX6_areWords_1 (by decide) ?_
  refine lv_sipush (v := 1023) hx hb dX6_areWords_2 (by decide) ?_
  refine g_cS C hS (fun _ h => h.elim) hM hl (fun _ h => h) (c_isWithin hfl Γ _ _ _ _ _) kX6_isWithin t_257 dX6_areWords_5 rfl rfl (by decide) (by decide) rfl ⟨by decide, by decide⟩ xNo_goes (fun H locs hc_5 hM hS => ?_)
  exact g_zret C hr (bI_narrow _) hM hS dX6_areWords_8 (by decide) (by decide) ⟨trivial, rfl, rfl, rfl⟩

set_option maxHeartbeats 4000000 in
set_option maxRecDepth 100000 in
theorem c_minutesLeft {l : Launch} (hfl : l.stackTraces = false) (Γ : Gm) (K : Nat → Nat → Nat) (M : Mem) (i : Nat) (w : Wf M) (hi : i < mN M 4) : CT l Γ pF yX4_minutesLeft (wsO yX4_minutesLeft cX4_minutesLeft 1 (some .int)) 0 [.ref (K 4 i)] K M (DD True (some (.int (leftM M i))) K M) xNo 0 0 := by
  refine ct_intro hfl (by decide) (Nat.le_of_ble_eq_true rfl) ?_
  intro p e s m args below meth c C ht hr hnm hM ls hl
  have hx := C.1
  have hb := C.2.1
  have hS : va_S pF s.heap s.heap [] := va_S.rf
  have hl : lv_has ls 1 [(0, .ref (K 4 i))] := hl
  have h1 := w.2.2.1 i hi
  have h2 := h1.1
  refine lv_aload_n hx hb dX4_minutesLeft_0 rfl (lv_at hl 0 rfl) ?_
  refine g_get C hM clo_4 1 (by decide) hi t_765 rfl (v := _) (fvR rfl (by assumption)) dX4_minutesLeft_1 ?_
  refine g_getN C hM clo_1 0 (by decide) (by rw [w.1.2.1]; exact h1.2.1) n_51 rfl (v := _) (fv4 rfl) dX4_minutesLeft_4 ?_
  refine lv_aload_n hx hb dX4_minutesLeft_7 rfl (lv_at hl 0 rfl) ?_
  refine g_get C hM clo_4 1 (by decide) hi t_765 rfl (v := _) (fvR rfl (by assumption)) dX4_minutesLeft_8 ?_
  refine g_getN C hM clo_1 1 (by decide) (by rw [w.1.2.1]; exact h1.2.1) n_53 rfl (v := .int (mT _ 1 1 _)) rfl dX4_minutesLeft_11 ?_
  refine g_iald C hM rw_15 (by rw [w.1.2.2.2.2.2.2.2.2.2.2.2.2.2.2.1]; decide) _ (w.2.1 _ h1.2.1).1 (w.2.1 _ h1.2.1).2 (by decide) dX4_minutesLeft_14 ?_
  refine lv_aload_n hx hb dX4_minutesLeft_15 rfl (lv_at hl 0 rfl) ?_
  refine g_get C hM clo_4 7 (by decide) hi t_777 rfl (v := .int (mT _ 4 7 _)) rfl dX4_minutesLeft_16 ?_
  refine lv_isub hx hb dX4_minutesLeft_19 ?_
  exact g_iret C hr hM hS dX4_minutesLeft_20 (by decide) (by decide) ⟨trivial, rfl, rfl, rfl⟩

