theorem kX6_isWithin : CeeS yX6_isWithin cX6_isWithin 3 (some .boolean) 3 := ⟨t_258, t_1, t_259, by decide +kernel, by decide⟩
theorem kX6_isTopic : CeeS yX6_isTopic cX6_isTopic 1 (some .boolean) 1 := ⟨t_700, t_1, t_701, by decide +kernel, by decide⟩
theorem kX6_areWords : CeeS yX6_areWords cX6_areWords 1 (some .boolean) 1 := ⟨t_703, t_1, t_704, by decide +kernel, by decide⟩
theorem kX4_isOpenOrHeld : CeeV yX4_isOpenOrHeld RX4 cX4_isOpenOrHeld 1 (some .boolean) 0 := ⟨t_950, t_951, t_28, t_952, by decide +kernel, by decide⟩
theorem kX4_isWaiting : CeeV yX4_isWaiting RX4 cX4_isWaiting 1 (some .boolean) 0 := ⟨t_246, t_247, t_28, t_248, by decide +kernel, by decide⟩
theorem kX4_canBeJoined : CeeV yX4_canBeJoined RX4 cX4_canBeJoined 2 (some .boolean) 1 := ⟨t_728, t_729, t_28, t_730, by decide +kernel, by decide⟩
theorem kX4_minutesLeft : CeeV yX4_minutesLeft RX4 cX4_minutesLeft 1 (some .int) 0 := ⟨t_238, t_239, t_28, t_240, by decide +kernel, by decide⟩
theorem kX4_isBefore : CeeV yX4_isBefore RX4 cX4_isBefore 2 (some .boolean) 1 := ⟨t_234, t_235, t_28, t_236, by decide +kernel, by decide⟩
theorem kX4_countMinutes : CeeV yX4_countMinutes RX4 cX4_countMinutes 2 (some .boolean) 1 := ⟨t_333, t_334, t_28, t_335, by decide +kernel, by decide⟩
theorem kX4_beginAnew : CeeV yX4_beginAnew RX4 cX4_beginAnew 1 none 0 := ⟨t_861, t_862, t_28, t_863, by decide +kernel, by decide⟩
theorem kX4_joinAgent : CeeV yX4_joinAgent RX4 cX4_joinAgent 2 none 1 := ⟨t_1108, t_1109, t_28, t_1110, by decide +kernel, by decide⟩
theorem kX4_leaveAgent : CeeV yX4_leaveAgent RX4 cX4_leaveAgent 1 none 0 := ⟨t_956, t_957, t_28, t_958, by decide +kernel, by decide⟩
theorem kX0_hasSkill : CeeV yX0_hasSkill RX0 cX0_hasSkill 2 (some .boolean) 1 := ⟨t_217, t_218, t_31, t_219, by decide +kernel, by decide⟩
theorem kX0_canAnswer : CeeV yX0_canAnswer RX0 cX0_canAnswer 2 (some .boolean) 1 := ⟨t_213, t_214, t_31, t_215, by decide +kernel, by decide⟩
theorem kX3_gainWeight : CeeV yX3_gainWeight RX3 cX3_gainWeight 2 none 1 := ⟨t_1170, t_1171, t_33, t_1172, by decide +kernel, by decide⟩
theorem kX3_loseWeight : CeeV yX3_loseWeight RX3 cX3_loseWeight 2 none 1 := ⟨t_865, t_866, t_33, t_867, by decide +kernel, by decide⟩
set_option maxHeartbeats 4000000 in
set_option maxRecDepth 100000 in
theorem c_isWithin {l : Launch} (hfl : l.stackTraces = false) (Γ : Gm) (K : Nat → Nat → Nat) (M : Mem) (a lo hi : Int32) : CT l Γ pF yX6_isWithin (wsO yX6_isWithin cX6_isWithin 3 (some .boolean)) 0 [.int a, .int lo, .int hi] K M (DD True (some (.int (bI (inB a lo hi)))) K M) xNo 0 0 := by
  refine ct_intro hfl (by decide) (Nat.le_of_ble_eq_true rfl) ?_
  intro p e s m args below meth c C ht hr hnm hM ls hl
  have hx := C.1
  have hb := C.2.1
  have hS : va_S pF s.heap s.heap [] := va_S.rf
  have hl : lv_has ls 3 [(0, .int a), (1, .int lo), (2, .int hi)] := hl
  refine lv_iload_n hx hb dX6_isWithin_0 rfl (lv_at hl 0 rfl) ?_
  refine lv_iload_n hx hb dX6_isWithin_1 rfl (lv_at hl 1 rfl) ?_
  refine lv_icmp_lt (tgt := 14) hx hb dX6_isWithin_2 (by decide) (fun c_2 => ?_) (fun c_2 => ?_)
  · skip
    refine lv_iconst (v := 0) hx hb dX6_isWithin_14 (by decide) ?_
    exact g_zret C hr rfl hM hS dX6_isWithin_15 (by decide) (by decide) ⟨trivial, by simp_all [bI, inB], rfl, rfl⟩
  · skip
    refine lv_iload_n hx hb dX6_isWithin_5 rfl (lv_at hl 0 rfl) ?_
    refine lv_iload_n hx hb dX6_isWithin_6 rfl (lv_at hl 2 rfl) ?_
    refine lv_icmp_gt (tgt := 14) hx hb dX6_isWithin_7 (by decide) (fun c_7 => ?_) (fun c_7 => ?_)
    · skip
      refine lv_iconst (v := 0) hx hb dX6_isWithin_14 (by decide) ?_
      exact g_zret C hr rfl hM hS dX6_isWithin_15 (by decide) (by decide) ⟨trivial, by simp_all [bI, inB], rfl, rfl⟩
    · skip
      refine lv_iconst (v := 1) hx hb dX6_isWithin_10 (by decide) ?_
      refine lv_goto (tgt := 15) hx hb dX6_isWithin_11 (by decide) ?_
      exact g_zret C hr rfl hM hS dX6_isWithin_15 (by decide) (by decide) ⟨trivial, by simp_all [bI, inB], rfl, rfl⟩

set_option maxHeartbeats 4000000 in
set_option maxRecDepth 100000 in
theorem c_isTopic {l : Launch} (hfl : l.stackTraces = false) (Γ : Gm) (K : Nat → Nat → Nat) (M : Mem) (a : Int32) : CT l Γ pF yX6_isTopic (wsO yX6_isTopic cX6_isTopic 1 (some .boolean)) 1 [.int a] K M (DD True (some (.int (bI (inB a 0 5)))) K M) xNo 0 0 := by
  refine ct_intro hfl (by decide) (Nat.le_of_ble_eq_true rfl) ?_
  intro p e s m args below meth c C ht hr hnm hM ls hl
  have hx := C.1
  have hb := C.2.1
  have hS : va_S pF s.heap s.heap [] := va_S.rf
  have hl : lv_has ls 1 [(0, .int a)] := hl
  refine lv_iload_n hx hb dX6_isTopic_0 rfl (lv_at hl 0 rfl) ?_
  refine lv_iconst (v := 0) hx hb dX6_isTopic_1 (by decide) ?_
  refine lv_iconst (v := 5) hx hb dX6_isTopic_2 (by decide) ?_
  refine g_cS C hS (fun _ h => h.elim) hM hl (fun _ h => h) (c_isWithin hfl Γ _ _ _ _ _) kX6_isWithin t_257 dX6_isTopic_3 rfl rfl (Nat.le_of_ble_eq_true rfl) (by decide) rfl ⟨by decide, by decide⟩ xNo_goes (fun H locs hc_3 hM hS => ?_)
  exact g_zret C hr (bI_narrow _) hM hS dX6_isTopic_6 (by decide) (by decide) ⟨trivial, rfl, rfl, rfl⟩

set_option maxHeartbeats 4000000 in
set_option maxRecDepth 100000 in
theorem c_areWords {l : Launch} (hfl : l.stackTraces = false) (Γ : Gm) (K : Nat → Nat → Nat) (M : Mem) (a : Int32) : CT l Γ pF yX6_areWords (wsO yX6_areWords cX6_areWords 1 (some .boolean)) 1 [.int a] K M (DD True (some (.int (bI (inB a 0 1023)))) K M) xNo 0 0 := by
  refine ct_intro hfl (by decide) (Nat.le_of_ble_eq_true rfl) ?_
  intro p e s m args below meth c C ht hr hnm hM ls hl
  have hx := C.1
  have hb := C.2.1
  have hS : va_S pF s.heap s.heap [] := va_S.rf
  have hl : lv_has ls 1 [(0, .int a)] := hl
  refine lv_iload_n hx hb dX6_areWords_0 rfl (lv_at hl 0 rfl) ?_
  refine lv_iconst (v := 0) hx hb dX6_areWords_1 (by decide) ?_
  refine lv_sipush (v := 1023) hx hb dX6_areWords_2 (by decide) ?_
  refine g_cS C hS (fun _ h => h.elim) hM hl (fun _ h => h) (c_isWithin hfl Γ _ _ _ _ _) kX6_isWithin t_257 dX6_areWords_5 rfl rfl (Nat.le_of_ble_eq_true rfl) (by decide) rfl ⟨by decide, by decide⟩ xNo_goes (fun H locs hc_5 hM hS => ?_)
  exact g_zret C hr (bI_narrow _) hM hS dX6_areWords_8 (by decide) (by decide) ⟨trivial, rfl, rfl, rfl⟩

set_option maxHeartbeats 4000000 in
set_option maxRecDepth 100000 in
theorem c_minutesLeft {l : Launch} (hfl : l.stackTraces = false) (Γ : Gm) (K : Nat → Nat → Nat) (M : Mem) (i : Nat) (w : Wf M) (hi : i < mN M 4) : CT l Γ pF yX4_minutesLeft (wsO yX4_minutesLeft cX4_minutesLeft 1 (some .int)) 0 [.ref (K 4 i)] K M (DD True (some (.int (leftM M i))) K M) xNo 0 0 := by
  refine ct_intro hfl (by decide) (Nat.le_of_ble_eq_true rfl) ?_
  intro p e s m args below meth c C ht hr hnm hM ls hl
  have hx := C.1
  have hb := C.2.1
  have hS : va_S pF s.heap s.heap [] := va_S.rf
  have hl : lv_has ls 1 [(0, .ref (K 4 i))] := hl
  have h1 := w.2.2.1 i hi
  have h2 := h1.1
  refine lv_aload_n hx hb dX4_minutesLeft_0 rfl (lv_at hl 0 rfl) ?_
  refine g_get C hM clo_4 1 (by decide) hi t_765 rfl (v := _) (fvR rfl (by assumption)) dX4_minutesLeft_1 ?_
  refine g_getN C hM clo_1 0 (by decide) (by rw [w.1.2.1]; exact h1.2.1) n_51 rfl (v := _) (fv4 rfl) dX4_minutesLeft_4 ?_
  refine lv_aload_n hx hb dX4_minutesLeft_7 rfl (lv_at hl 0 rfl) ?_
  refine g_get C hM clo_4 1 (by decide) hi t_765 rfl (v := _) (fvR rfl (by assumption)) dX4_minutesLeft_8 ?_
  refine g_getN C hM clo_1 1 (by decide) (by rw [w.1.2.1]; exact h1.2.1) n_53 rfl (v := .int (mT _ 1 1 _)) rfl dX4_minutesLeft_11 ?_
  refine g_iald C hM rw_15 (by rw [w.1.2.2.2.2.2.2.2.2.2.2.2.2.2.2.1]; decide) _ (w.2.1 _ h1.2.1).1 (w.2.1 _ h1.2.1).2 (by decide) dX4_minutesLeft_14 ?_
  refine lv_aload_n hx hb dX4_minutesLeft_15 rfl (lv_at hl 0 rfl) ?_
  refine g_get C hM clo_4 7 (by decide) hi t_777 rfl (v := .int (mT _ 4 7 _)) rfl dX4_minutesLeft_16 ?_
  refine lv_isub hx hb dX4_minutesLeft_19 ?_
  exact g_iret C hr hM hS dX4_minutesLeft_20 (by decide) (by decide) ⟨trivial, rfl, rfl, rfl⟩

def stM (M : Mem) (i : Nat) : Int32 := mT M 4 6 i
def ohM (M : Mem) (i : Nat) : Bool := decide (stM M i = 111) || decide (stM M i = 104)
def waM (M : Mem) (i : Nat) : Bool := decide (stM M i = 111) && (mP M 4 9 i).isNone
def cbM (M : Mem) (i : Nat) (now : Int32) : Bool := if stM M i = 99 then !decide (1440 < now - mT M 4 12 i) else !decide (stM M i = 109)
def leM (M : Mem) (i : Nat) : Int32 := mT M 1 1 (cuM M i)
def befM (M : Mem) (i j : Nat) : Bool := if ¬ leftM M i = leftM M j then decide (leftM M i < leftM M j) else if ¬ leM M i = leM M j then decide (leM M j < leM M i) else decide (mT M 4 0 i < mT M 4 0 j)
set_option maxHeartbeats 4000000 in
set_option maxRecDepth 100000 in
theorem c_isOpenOrHeld {l : Launch} (hfl : l.stackTraces = false) (Γ : Gm) (K : Nat → Nat → Nat) (M : Mem) (i : Nat) (hi : i < mN M 4) : CT l Γ pF yX4_isOpenOrHeld (wsO yX4_isOpenOrHeld cX4_isOpenOrHeld 1 (some .boolean)) 0 [.ref (K 4 i)] K M (DD True (some (.int (bI (ohM M i)))) K M) xNo 0 0 := by
  refine ct_intro hfl (by decide) (Nat.le_of_ble_eq_true rfl) ?_
  intro p e s m args below meth c C ht hr hnm hM ls hl
  have hx := C.1
  have hb := C.2.1
  have hS : va_S pF s.heap s.heap [] := va_S.rf
  have hl : lv_has ls 1 [(0, .ref (K 4 i))] := hl
  refine lv_aload_n hx hb dX4_isOpenOrHeld_0 rfl (lv_at hl 0 rfl) ?_
  refine g_get C hM clo_4 6 (by decide) hi t_775 rfl (v := .int (mT _ 4 6 _)) rfl dX4_isOpenOrHeld_1 ?_
  refine lv_bipush (v := 111) hx hb dX4_isOpenOrHeld_4 (by decide) ?_
  refine lv_icmp_eq (tgt := 18) hx hb dX4_isOpenOrHeld_6 (by decide) (fun c_6 => ?_) (fun c_6 => ?_)
  · skip
    refine lv_iconst (v := 1) hx hb dX4_isOpenOrHeld_18 (by decide) ?_
    refine lv_goto (tgt := 23) hx hb dX4_isOpenOrHeld_19 (by decide) ?_
    exact g_zret C hr rfl hM hS dX4_isOpenOrHeld_23 (by decide) (by decide) ⟨trivial, by simp_all [bI, ohM, stM], rfl, rfl⟩
  · skip
    refine lv_aload_n hx hb dX4_isOpenOrHeld_9 rfl (lv_at hl 0 rfl) ?_
    refine g_get C hM clo_4 6 (by decide) hi t_775 rfl (v := .int (mT _ 4 6 _)) rfl dX4_isOpenOrHeld_10 ?_
    refine lv_bipush (v := 104) hx hb dX4_isOpenOrHeld_13 (by decide) ?_
    refine lv_icmp_ne (tgt := 22) hx hb dX4_isOpenOrHeld_15 (by decide) (fun c_15 => ?_) (fun c_15 => ?_)
    · skip
      refine lv_iconst (v := 0) hx hb dX4_isOpenOrHeld_22 (by decide) ?_
      exact g_zret C hr rfl hM hS dX4_isOpenOrHeld_23 (by decide) (by decide) ⟨trivial, by simp_all [bI, ohM, stM], rfl, rfl⟩
    · skip
      refine lv_iconst (v := 1) hx hb dX4_isOpenOrHeld_18 (by decide) ?_
      refine lv_goto (tgt := 23) hx hb dX4_isOpenOrHeld_19 (by decide) ?_
      exact g_zret C hr rfl hM hS dX4_isOpenOrHeld_23 (by decide) (by decide) ⟨trivial, by simp_all [bI, ohM, stM], rfl, rfl⟩

set_option maxHeartbeats 4000000 in
set_option maxRecDepth 100000 in
theorem c_isWaiting {l : Launch} (hfl : l.stackTraces = false) (Γ : Gm) (K : Nat → Nat → Nat) (M : Mem) (i : Nat) (hi : i < mN M 4) : CT l Γ pF yX4_isWaiting (wsO yX4_isWaiting cX4_isWaiting 1 (some .boolean)) 0 [.ref (K 4 i)] K M (DD True (some (.int (bI (waM M i)))) K M) xNo 0 0 := by
  refine ct_intro hfl (by decide) (Nat.le_of_ble_eq_true rfl) ?_
  intro p e s m args below meth c C ht hr hnm hM ls hl
  have hx := C.1
  have hb := C.2.1
  have hS : va_S pF s.heap s.heap [] := va_S.rf
  have hl : lv_has ls 1 [(0, .ref (K 4 i))] := hl
  refine lv_aload_n hx hb dX4_isWaiting_0 rfl (lv_at hl 0 rfl) ?_
  refine g_get C hM clo_4 6 (by decide) hi t_775 rfl (v := .int (mT _ 4 6 _)) rfl dX4_isWaiting_1 ?_
  refine lv_bipush (v := 111) hx hb dX4_isWaiting_4 (by decide) ?_
  refine lv_icmp_ne (tgt := 20) hx hb dX4_isWaiting_6 (by decide) (fun c_6 => ?_) (fun c_6 => ?_)
  · skip
    refine lv_iconst (v := 0) hx hb dX4_isWaiting_20 (by decide) ?_
    exact g_zret C hr rfl hM hS dX4_isWaiting_21 (by decide) (by decide) ⟨trivial, by simp_all [bI, waM, stM], rfl, rfl⟩
  · skip
    refine lv_aload_n hx hb dX4_isWaiting_9 rfl (lv_at hl 0 rfl) ?_
    rcases hp_10 : (mP M 4 9 i) with _ | q_10
    · refine g_get C hM clo_4 9 (by decide) hi t_781 rfl (v := .null) (fvN rfl hp_10) dX4_isWaiting_10 ?_
      refine lv_ifnonnullN hx hb dX4_isWaiting_13 ?_
      refine lv_iconst (v := 1) hx hb dX4_isWaiting_16 (by decide) ?_
      refine lv_goto (tgt := 21) hx hb dX4_isWaiting_17 (by decide) ?_
      exact g_zret C hr rfl hM hS dX4_isWaiting_21 (by decide) (by decide) ⟨trivial, by simp_all [bI, waM, stM], rfl, rfl⟩
    · refine g_get C hM clo_4 9 (by decide) hi t_781 rfl (v := _) (fvR rfl hp_10) dX4_isWaiting_10 ?_
      refine lv_ifnonnull (tgt := 20) hx hb dX4_isWaiting_13 (by decide) ?_
      refine lv_iconst (v := 0) hx hb dX4_isWaiting_20 (by decide) ?_
      exact g_zret C hr rfl hM hS dX4_isWaiting_21 (by decide) (by decide) ⟨trivial, by simp_all [bI, waM, stM], rfl, rfl⟩

set_option maxHeartbeats 4000000 in
set_option maxRecDepth 100000 in
theorem c_canBeJoined {l : Launch} (hfl : l.stackTraces = false) (Γ : Gm) (K : Nat → Nat → Nat) (M : Mem) (i : Nat) (now : Int32) (hi : i < mN M 4) : CT l Γ pF yX4_canBeJoined (wsO yX4_canBeJoined cX4_canBeJoined 2 (some .boolean)) 0 [.ref (K 4 i), .int now] K M (DD True (some (.int (bI (cbM M i now)))) K M) xNo 0 0 := by
  refine ct_intro hfl (by decide) (Nat.le_of_ble_eq_true rfl) ?_
  intro p e s m args below meth c C ht hr hnm hM ls hl
  have hx := C.1
  have hb := C.2.1
  have hS : va_S pF s.heap s.heap [] := va_S.rf
  have hl : lv_has ls 2 [(0, .ref (K 4 i)), (1, .int now)] := hl
  refine lv_aload_n hx hb dX4_canBeJoined_0 rfl (lv_at hl 0 rfl) ?_
  refine g_get C hM clo_4 6 (by decide) hi t_775 rfl (v := .int (mT _ 4 6 _)) rfl dX4_canBeJoined_1 ?_
  refine lv_bipush (v := 99) hx hb dX4_canBeJoined_4 (by decide) ?_
  refine lv_icmp_ne (tgt := 27) hx hb dX4_canBeJoined_6 (by decide) (fun c_6 => ?_) (fun c_6 => ?_)
  · skip
    refine lv_aload_n hx hb dX4_canBeJoined_27 rfl (lv_at hl 0 rfl) ?_
    refine g_get C hM clo_4 6 (by decide) hi t_775 rfl (v := .int (mT _ 4 6 _)) rfl dX4_canBeJoined_28 ?_
    refine lv_bipush (v := 109) hx hb dX4_canBeJoined_31 (by decide) ?_
    refine lv_icmp_eq (tgt := 40) hx hb dX4_canBeJoined_33 (by decide) (fun c_33 => ?_) (fun c_33 => ?_)
    · skip
      refine lv_iconst (v := 0) hx hb dX4_canBeJoined_40 (by decide) ?_
      exact g_zret C hr rfl hM hS dX4_canBeJoined_41 (by decide) (by decide) ⟨trivial, by simp_all [bI, cbM, stM], rfl, rfl⟩
    · skip
      refine lv_iconst (v := 1) hx hb dX4_canBeJoined_36 (by decide) ?_
      refine lv_goto (tgt := 41) hx hb dX4_canBeJoined_37 (by decide) ?_
      exact g_zret C hr rfl hM hS dX4_canBeJoined_41 (by decide) (by decide) ⟨trivial, by simp_all [bI, cbM, stM], rfl, rfl⟩
  · skip
    refine lv_iload_n hx hb dX4_canBeJoined_9 rfl (lv_at hl 1 rfl) ?_
    refine lv_aload_n hx hb dX4_canBeJoined_10 rfl (lv_at hl 0 rfl) ?_
    refine g_get C hM clo_4 12 (by decide) hi t_786 rfl (v := .int (mT _ 4 12 _)) rfl dX4_canBeJoined_11 ?_
    refine lv_isub hx hb dX4_canBeJoined_14 ?_
    refine lv_sipush (v := 1440) hx hb dX4_canBeJoined_15 (by decide) ?_
    refine lv_icmp_gt (tgt := 25) hx hb dX4_canBeJoined_18 (by decide) (fun c_18 => ?_) (fun c_18 => ?_)
    · skip
      refine lv_iconst (v := 0) hx hb dX4_canBeJoined_25 (by decide) ?_
      exact g_zret C hr rfl hM hS dX4_canBeJoined_26 (by decide) (by decide) ⟨trivial, by simp_all [bI, cbM, stM], rfl, rfl⟩
    · skip
      refine lv_iconst (v := 1) hx hb dX4_canBeJoined_21 (by decide) ?_
      refine lv_goto (tgt := 26) hx hb dX4_canBeJoined_22 (by decide) ?_
      exact g_zret C hr rfl hM hS dX4_canBeJoined_26 (by decide) (by decide) ⟨trivial, by simp_all [bI, cbM, stM], rfl, rfl⟩

set_option maxHeartbeats 4000000 in
set_option maxRecDepth 100000 in
theorem c_isBefore {l : Launch} (hfl : l.stackTraces = false) (Γ : Gm) (K : Nat → Nat → Nat) (M : Mem) (i j : Nat) (w : Wf M) (hi : i < mN M 4) (hj : j < mN M 4) : CT l Γ pF yX4_isBefore (wsO yX4_isBefore cX4_isBefore 2 (some .boolean)) 1 [.ref (K 4 i), .ref (K 4 j)] K M (DD True (some (.int (bI (befM M i j)))) K M) xNo 0 0 := by
  refine ct_intro hfl (by decide) (Nat.le_of_ble_eq_true rfl) ?_
  intro p e s m args below meth c C ht hr hnm hM ls hl
  have hx := C.1
  have hb := C.2.1
  have hS : va_S pF s.heap s.heap [] := va_S.rf
  have hl : lv_has ls 2 [(0, .ref (K 4 i)), (1, .ref (K 4 j))] := hl
  have h1 := w.2.2.1 i hi
  have h2 := h1.1
  have g1 := w.2.2.1 j hj
  have g2 := g1.1
  refine lv_aload_n hx hb dX4_isBefore_0 rfl (lv_at hl 0 rfl) ?_
  refine g_cV C hS (fun _ h => h.elim) hM hl (fun _ h => h) (c_minutesLeft hfl Γ _ _ _ (by assumption) (by assumption)) kX4_minutesLeft t_237 (HM.recv C hM clo_4 (by assumption)) dX4_isBefore_1 rfl rfl (Nat.le_of_ble_eq_true rfl) (by decide) rfl ⟨by decide, by decide⟩ xNo_goes (fun H locs hc_1 hM hS => ?_)
  refine lv_aload_n hx hb dX4_isBefore_4 rfl (lv_at hl 1 rfl) ?_
  refine g_cV C hS (fun _ h => h.elim) hM hl (fun _ h => h) (c_minutesLeft hfl Γ _ _ _ (by assumption) (by assumption)) kX4_minutesLeft t_237 (HM.recv C hM clo_4 (by assumption)) dX4_isBefore_5 rfl rfl (Nat.le_of_ble_eq_true rfl) (by decide) rfl ⟨by decide, by decide⟩ xNo_goes (fun H locs hc_5 hM hS => ?_)
  refine lv_icmp_eq (tgt := 28) hx hb dX4_isBefore_8 (by decide) (fun c_8 => ?_) (fun c_8 => ?_)
  · skip
    refine lv_aload_n hx hb dX4_isBefore_28 rfl (lv_at hl 0 rfl) ?_
    refine g_get C hM clo_4 1 (by decide) (by assumption) t_765 rfl (v := _) (fvR rfl (by assumption)) dX4_isBefore_29 ?_
    refine g_getN C hM clo_1 1 (by decide) (by rw [w.1.2.1]; first | exact h1.2.1 | exact g1.2.1) n_53 rfl (v := .int (mT _ 1 1 _)) rfl dX4_isBefore_32 ?_
    refine lv_aload_n hx hb dX4_isBefore_35 rfl (lv_at hl 1 rfl) ?_
    refine g_get C hM clo_4 1 (by decide) (by assumption) t_765 rfl (v := _) (fvR rfl (by assumption)) dX4_isBefore_36 ?_
    refine g_getN C hM clo_1 1 (by decide) (by rw [w.1.2.1]; first | exact h1.2.1 | exact g1.2.1) n_53 rfl (v := .int (mT _ 1 1 _)) rfl dX4_isBefore_39 ?_
    refine lv_icmp_eq (tgt := 68) hx hb dX4_isBefore_42 (by decide) (fun c_42 => ?_) (fun c_42 => ?_)
    · skip
      refine lv_aload_n hx hb dX4_isBefore_68 rfl (lv_at hl 0 rfl) ?_
      refine g_get C hM clo_4 0 (by decide) (by assumption) t_763 rfl (v := .int (mT _ 4 0 _)) rfl dX4_isBefore_69 ?_
      refine lv_aload_n hx hb dX4_isBefore_72 rfl (lv_at hl 1 rfl) ?_
      refine g_get C hM clo_4 0 (by decide) (by assumption) t_763 rfl (v := .int (mT _ 4 0 _)) rfl dX4_isBefore_73 ?_
      refine g_icmp_ge (tgt := 83) hx hb dX4_isBefore_76 (by decide) (fun c_76 => ?_) (fun c_76 => ?_)
      · skip
        refine lv_iconst (v := 0) hx hb dX4_isBefore_83 (by decide) ?_
        exact g_zret C hr rfl hM hS dX4_isBefore_84 (by decide) (by decide) ⟨trivial, by rw [befM, if_neg (fun z => z c_8), if_neg (fun z : ¬ leM M i = leM M j => z c_42), decide_eq_false c_76]; rfl, rfl, rfl⟩
      · skip
        refine lv_iconst (v := 1) hx hb dX4_isBefore_79 (by decide) ?_
        refine lv_goto (tgt := 84) hx hb dX4_isBefore_80 (by decide) ?_
        exact g_zret C hr rfl hM hS dX4_isBefore_84 (by decide) (by decide) ⟨trivial, by rw [befM, if_neg (fun z => z c_8), if_neg (fun z : ¬ leM M i = leM M j => z c_42), decide_eq_true c_76]; rfl, rfl, rfl⟩
    · skip
      refine lv_aload_n hx hb dX4_isBefore_45 rfl (lv_at hl 0 rfl) ?_
      refine g_get C hM clo_4 1 (by decide) (by assumption) t_765 rfl (v := _) (fvR rfl (by assumption)) dX4_isBefore_46 ?_
      refine g_getN C hM clo_1 1 (by decide) (by rw [w.1.2.1]; first | exact h1.2.1 | exact g1.2.1) n_53 rfl (v := .int (mT _ 1 1 _)) rfl dX4_isBefore_49 ?_
      refine lv_aload_n hx hb dX4_isBefore_52 rfl (lv_at hl 1 rfl) ?_
      refine g_get C hM clo_4 1 (by decide) (by assumption) t_765 rfl (v := _) (fvR rfl (by assumption)) dX4_isBefore_53 ?_
      refine g_getN C hM clo_1 1 (by decide) (by rw [w.1.2.1]; first | exact h1.2.1 | exact g1.2.1) n_53 rfl (v := .int (mT _ 1 1 _)) rfl dX4_isBefore_56 ?_
      refine g_icmp_le (tgt := 66) hx hb dX4_isBefore_59 (by decide) (fun c_59 => ?_) (fun c_59 => ?_)
      · skip
        refine lv_iconst (v := 0) hx hb dX4_isBefore_66 (by decide) ?_
        exact g_zret C hr rfl hM hS dX4_isBefore_67 (by decide) (by decide) ⟨trivial, by rw [befM, if_neg (fun z => z c_8), if_pos (show ¬ leM M i = leM M j from c_42), decide_eq_false (p := leM M j < leM M i) c_59]; rfl, rfl, rfl⟩
      · skip
        refine lv_iconst (v := 1) hx hb dX4_isBefore_62 (by decide) ?_
        refine lv_goto (tgt := 67) hx hb dX4_isBefore_63 (by decide) ?_
        exact g_zret C hr rfl hM hS dX4_isBefore_67 (by decide) (by decide) ⟨trivial, by rw [befM, if_neg (fun z => z c_8), if_pos (show ¬ leM M i = leM M j from c_42), decide_eq_true (p := leM M j < leM M i) c_59]; rfl, rfl, rfl⟩
  · skip
    refine lv_aload_n hx hb dX4_isBefore_11 rfl (lv_at hl 0 rfl) ?_
    refine g_cV C hS (fun _ h => h.elim) hM hl (fun _ h => h) (c_minutesLeft hfl Γ _ _ _ (by assumption) (by assumption)) kX4_minutesLeft t_237 (HM.recv C hM clo_4 (by assumption)) dX4_isBefore_12 rfl rfl (Nat.le_of_ble_eq_true rfl) (by decide) rfl ⟨by decide, by decide⟩ xNo_goes (fun H locs hc_12 hM hS => ?_)
    refine lv_aload_n hx hb dX4_isBefore_15 rfl (lv_at hl 1 rfl) ?_
    refine g_cV C hS (fun _ h => h.elim) hM hl (fun _ h => h) (c_minutesLeft hfl Γ _ _ _ (by assumption) (by assumption)) kX4_minutesLeft t_237 (HM.recv C hM clo_4 (by assumption)) dX4_isBefore_16 rfl rfl (Nat.le_of_ble_eq_true rfl) (by decide) rfl ⟨by decide, by decide⟩ xNo_goes (fun H locs hc_16 hM hS => ?_)
    refine g_icmp_ge (tgt := 26) hx hb dX4_isBefore_19 (by decide) (fun c_19 => ?_) (fun c_19 => ?_)
    · skip
      refine lv_iconst (v := 0) hx hb dX4_isBefore_26 (by decide) ?_
      exact g_zret C hr rfl hM hS dX4_isBefore_27 (by decide) (by decide) ⟨trivial, by rw [befM, if_pos c_8, decide_eq_false c_19]; rfl, rfl, rfl⟩
    · skip
      refine lv_iconst (v := 1) hx hb dX4_isBefore_22 (by decide) ?_
      refine lv_goto (tgt := 27) hx hb dX4_isBefore_23 (by decide) ?_
      exact g_zret C hr rfl hM hS dX4_isBefore_27 (by decide) (by decide) ⟨trivial, by rw [befM, if_pos c_8, decide_eq_true c_19]; rfl, rfl, rfl⟩

def hsM (M : Mem) (a : Nat) (t : Int32) : Bool := decide ((mT M 0 1 a >>> (t &&& 31)) &&& 1 = 1)
def caM (M : Mem) (a : Nat) (t : Int32) : Bool := !decide (mT M 0 2 a = 0) && hsM M a t
set_option maxHeartbeats 4000000 in
set_option maxRecDepth 100000 in
theorem c_hasSkill {l : Launch} (hfl : l.stackTraces = false) (Γ : Gm) (K : Nat → Nat → Nat) (M : Mem) (a : Nat) (t : Int32) (ha : a < mN M 0) : CT l Γ pF yX0_hasSkill (wsO yX0_hasSkill cX0_hasSkill 2 (some .boolean)) 0 [.ref (K 0 a), .int t] K M (DD True (some (.int (bI (hsM M a t)))) K M) xNo 0 0 := by
  refine ct_intro hfl (by decide) (Nat.le_of_ble_eq_true rfl) ?_
  intro p e s m args below meth c C ht hr hnm hM ls hl
  have hx := C.1
  have hb := C.2.1
  have hS : va_S pF s.heap s.heap [] := va_S.rf
  have hl : lv_has ls 2 [(0, .ref (K 0 a)), (1, .int t)] := hl
  refine lv_aload_n hx hb dX0_hasSkill_0 rfl (lv_at hl 0 rfl) ?_
  refine g_get C hM clo_0 1 (by decide) ha t_997 rfl (v := .int (mT _ 0 1 _)) rfl dX0_hasSkill_1 ?_
  refine lv_iload_n hx hb dX0_hasSkill_4 rfl (lv_at hl 1 rfl) ?_
  refine lv_ishr hx hb dX0_hasSkill_5 ?_
  refine lv_iconst (v := 1) hx hb dX0_hasSkill_6 (by decide) ?_
  refine lv_iand hx hb dX0_hasSkill_7 ?_
  refine lv_iconst (v := 1) hx hb dX0_hasSkill_8 (by decide) ?_
  refine lv_icmp_ne (tgt := 16) hx hb dX0_hasSkill_9 (by decide) (fun c_9 => ?_) (fun c_9 => ?_)
  · skip
    refine lv_iconst (v := 0) hx hb dX0_hasSkill_16 (by decide) ?_
    exact g_zret C hr rfl hM hS dX0_hasSkill_17 (by decide) (by decide) ⟨trivial, by simp_all [bI, hsM], rfl, rfl⟩
  · skip
    refine lv_iconst (v := 1) hx hb dX0_hasSkill_12 (by decide) ?_
    refine lv_goto (tgt := 17) hx hb dX0_hasSkill_13 (by decide) ?_
    exact g_zret C hr rfl hM hS dX0_hasSkill_17 (by decide) (by decide) ⟨trivial, by simp_all [bI, hsM], rfl, rfl⟩

set_option maxHeartbeats 4000000 in
set_option maxRecDepth 100000 in
theorem c_canAnswer {l : Launch} (hfl : l.stackTraces = false) (Γ : Gm) (K : Nat → Nat → Nat) (M : Mem) (a : Nat) (t : Int32) (ha : a < mN M 0) : CT l Γ pF yX0_canAnswer (wsO yX0_canAnswer cX0_canAnswer 2 (some .boolean)) 1 [.ref (K 0 a), .int t] K M (DD True (some (.int (bI (caM M a t)))) K M) xNo 0 0 := by
  refine ct_intro hfl (by decide) (Nat.le_of_ble_eq_true rfl) ?_
  intro p e s m args below meth c C ht hr hnm hM ls hl
  have hx := C.1
  have hb := C.2.1
  have hS : va_S pF s.heap s.heap [] := va_S.rf
  have hl : lv_has ls 2 [(0, .ref (K 0 a)), (1, .int t)] := hl
  refine lv_aload_n hx hb dX0_canAnswer_0 rfl (lv_at hl 0 rfl) ?_
  refine g_get C hM clo_0 2 (by decide) ha t_999 rfl (v := .int (mT _ 0 2 _)) rfl dX0_canAnswer_1 ?_
  refine lv_if_eq (tgt := 19) hx hb dX0_canAnswer_4 (by decide) (fun c_4 => ?_) (fun c_4 => ?_)
  · skip
    refine lv_iconst (v := 0) hx hb dX0_canAnswer_19 (by decide) ?_
    exact g_zret C hr rfl hM hS dX0_canAnswer_20 (by decide) (by decide) ⟨trivial, by simp_all [bI, caM], rfl, rfl⟩
  · skip
    refine lv_aload_n hx hb dX0_canAnswer_7 rfl (lv_at hl 0 rfl) ?_
    refine lv_iload_n hx hb dX0_canAnswer_8 rfl (lv_at hl 1 rfl) ?_
    refine g_cV C hS (fun _ h => h.elim) hM hl (fun _ h => h) (c_hasSkill hfl Γ _ _ _ _ (by assumption)) kX0_hasSkill t_216 (HM.recv C hM clo_0 (by assumption)) dX0_canAnswer_9 rfl rfl (Nat.le_of_ble_eq_true rfl) (by decide) rfl ⟨by decide, by decide⟩ xNo_goes (fun H locs hc_9 hM hS => ?_)
    refine g_ifeqB (tgt := 19) hx hb dX0_canAnswer_12 (by decide) (fun c_12 => ?_) (fun c_12 => ?_)
    · skip
      refine lv_iconst (v := 0) hx hb dX0_canAnswer_19 (by decide) ?_
      exact g_zret C hr rfl hM hS dX0_canAnswer_20 (by decide) (by decide) ⟨trivial, by simp_all [bI, caM], rfl, rfl⟩
    · skip
      refine lv_iconst (v := 1) hx hb dX0_canAnswer_15 (by decide) ?_
      refine lv_goto (tgt := 20) hx hb dX0_canAnswer_16 (by decide) ?_
      exact g_zret C hr rfl hM hS dX0_canAnswer_20 (by decide) (by decide) ⟨trivial, by simp_all [bI, caM], rfl, rfl⟩

def gainM (M : Mem) (i q : Nat) : Mem := sT M 14 q i (if 9 < mT M 14 q i + 1 then 9 else mT M 14 q i + 1)
def loseM (M : Mem) (i q : Nat) : Mem := sT M 14 q i (if mT M 14 q i - 1 < 0 then 0 else mT M 14 q i - 1)
set_option maxHeartbeats 4000000 in
set_option maxRecDepth 100000 in
theorem c_gainWeight {l : Launch} (hfl : l.stackTraces = false) (Γ : Gm) (K : Nat → Nat → Nat) (M : Mem) (i q : Nat) (w : Wf M) (hi : i < mN M 3) (hq : q < 6) : CT l Γ (gFree Γ) yX3_gainWeight (wsO yX3_gainWeight cX3_gainWeight 2 none) 1 [.ref (K 3 i), .int (nI q)] K M (DD True none K (gainM M i q)) xNo 0 0 := by
  refine ct_intro hfl (by decide) (Nat.le_of_ble_eq_true rfl) ?_
  intro p e s m args below meth c C ht hr hnm hM ls hl
  have hx := C.1
  have hb := C.2.1
  have hS : va_S (gFree Γ) s.heap s.heap [] := va_S.rf
  have hl : lv_has ls 2 [(0, .ref (K 3 i)), (1, .int (nI q))] := hl
  refine lv_aload_n hx hb dX3_gainWeight_0 rfl (lv_at hl 0 rfl) ?_
  refine g_get C hM clo_3 1 (by decide) hi t_1213 rfl (v := _) (fv3 rfl) dX3_gainWeight_1 ?_
  refine lv_iload_n hx hb dX3_gainWeight_4 rfl (lv_at hl 1 rfl) ?_
  refine lv_aload_n hx hb dX3_gainWeight_5 rfl (lv_at hl 0 rfl) ?_
  refine g_get C hM clo_3 1 (by decide) hi t_1213 rfl (v := _) (fv3 rfl) dX3_gainWeight_6 ?_
  refine lv_iload_n hx hb dX3_gainWeight_9 rfl (lv_at hl 1 rfl) ?_
  refine g_iald C hM rw_14 (by rw [w.1.2.2.2.2.2.2.2.2.2.2.2.2.2.1]; exact hi) q rfl hq (by decide) dX3_gainWeight_10 ?_
  refine lv_iconst (v := 1) hx hb dX3_gainWeight_11 (by decide) ?_
  refine lv_iadd hx hb dX3_gainWeight_12 ?_
  refine lv_bipush (v := 9) hx hb dX3_gainWeight_13 (by decide) ?_
  refine g_mmin C hl t_1173 rfl (Nat.le_of_ble_eq_true rfl) (by decide) (by decide) dX3_gainWeight_15 ?_
  refine g_iast C hM hS rw_14 (by rw [w.1.2.2.2.2.2.2.2.2.2.2.2.2.2.1]; exact hi) q rfl hq (by decide) dX3_gainWeight_18 (fun H locs hM hS => ?_)
  exact g_vret C hr hM hS dX3_gainWeight_19 (by decide) (by decide) ⟨trivial, rfl, rfl, rfl⟩

set_option maxHeartbeats 4000000 in
set_option maxRecDepth 100000 in
theorem c_loseWeight {l : Launch} (hfl : l.stackTraces = false) (Γ : Gm) (K : Nat → Nat → Nat) (M : Mem) (i q : Nat) (w : Wf M) (hi : i < mN M 3) (hq : q < 6) : CT l Γ (gFree Γ) yX3_loseWeight (wsO yX3_loseWeight cX3_loseWeight 2 none) 1 [.ref (K 3 i), .int (nI q)] K M (DD True none K (loseM M i q)) xNo 0 0 := by
  refine ct_intro hfl (by decide) (Nat.le_of_ble_eq_true rfl) ?_
  intro p e s m args below meth c C ht hr hnm hM ls hl
  have hx := C.1
  have hb := C.2.1
  have hS : va_S (gFree Γ) s.heap s.heap [] := va_S.rf
  have hl : lv_has ls 2 [(0, .ref (K 3 i)), (1, .int (nI q))] := hl
  refine lv_aload_n hx hb dX3_loseWeight_0 rfl (lv_at hl 0 rfl) ?_
  refine g_get C hM clo_3 1 (by decide) hi t_1213 rfl (v := _) (fv3 rfl) dX3_loseWeight_1 ?_
  refine lv_iload_n hx hb dX3_loseWeight_4 rfl (lv_at hl 1 rfl) ?_
  refine lv_aload_n hx hb dX3_loseWeight_5 rfl (lv_at hl 0 rfl) ?_
  refine g_get C hM clo_3 1 (by decide) hi t_1213 rfl (v := _) (fv3 rfl) dX3_loseWeight_6 ?_
  refine lv_iload_n hx hb dX3_loseWeight_9 rfl (lv_at hl 1 rfl) ?_
  refine g_iald C hM rw_14 (by rw [w.1.2.2.2.2.2.2.2.2.2.2.2.2.2.1]; exact hi) q rfl hq (by decide) dX3_loseWeight_10 ?_
  refine lv_iconst (v := 1) hx hb dX3_loseWeight_11 (by decide) ?_
  refine lv_isub hx hb dX3_loseWeight_12 ?_
  refine lv_iconst (v := 0) hx hb dX3_loseWeight_13 (by decide) ?_
  refine g_mmax C hl t_868 rfl (Nat.le_of_ble_eq_true rfl) (by decide) (by decide) dX3_loseWeight_14 ?_
  refine g_iast C hM hS rw_14 (by rw [w.1.2.2.2.2.2.2.2.2.2.2.2.2.2.1]; exact hi) q rfl hq (by decide) dX3_loseWeight_17 (fun H locs hM hS => ?_)
  exact g_vret C hr hM hS dX3_loseWeight_18 (by decide) (by decide) ⟨trivial, rfl, rfl, rfl⟩

def joinM (M : Mem) (i a : Nat) : Mem := sT (sP M 4 9 i (some a)) 0 3 a (mT M 0 3 a + 1)
set_option maxHeartbeats 4000000 in
set_option maxRecDepth 100000 in
theorem c_joinAgent {l : Launch} (hfl : l.stackTraces = false) (Γ : Gm) (K : Nat → Nat → Nat) (M : Mem) (i a : Nat) (hi : i < mN M 4) (ha : a < mN M 0) : CT l Γ (gFree Γ) yX4_joinAgent (wsO yX4_joinAgent cX4_joinAgent 2 none) 0 [.ref (K 4 i), .ref (K 0 a)] K M (DD True none K (joinM M i a)) xNo 0 0 := by
  refine ct_intro hfl (by decide) (Nat.le_of_ble_eq_true rfl) ?_
  intro p e s m args below meth c C ht hr hnm hM ls hl
  have hx := C.1
  have hb := C.2.1
  have hS : va_S (gFree Γ) s.heap s.heap [] := va_S.rf
  have hl : lv_has ls 2 [(0, .ref (K 4 i)), (1, .ref (K 0 a))] := hl
  refine lv_aload_n hx hb dX4_joinAgent_0 rfl (lv_at hl 0 rfl) ?_
  refine lv_aload_n hx hb dX4_joinAgent_1 rfl (lv_at hl 1 rfl) ?_
  refine g_putP C hM hS clo_4 9 (by decide) (some _) rfl rfl hi rfl rfl rfl rfl dX4_joinAgent_2 (Or.inl t_781) (fun H locs hM hS => ?_)
  refine lv_aload_n hx hb dX4_joinAgent_5 rfl (lv_at hl 1 rfl) ?_
  refine lv_dup hx hb dX4_joinAgent_6 rfl ?_
  refine g_getN C hM clo_0 3 (by decide) ha n_1001 rfl (v := .int (mT _ 0 3 _)) rfl dX4_joinAgent_7 ?_
  refine lv_iconst (v := 1) hx hb dX4_joinAgent_10 (by decide) ?_
  refine lv_iadd hx hb dX4_joinAgent_11 ?_
  refine g_putI C hM hS clo_0 3 (by decide) rfl ha rfl rfl rfl rfl dX4_joinAgent_12 (Or.inr n_1001) (fun H locs hM hS => ?_)
  exact g_vret C hr hM hS dX4_joinAgent_15 (by decide) (by decide) ⟨trivial, rfl, rfl, rfl⟩

def leaveM (M : Mem) (i : Nat) : Mem := match mP M 4 9 i with
  | none => sP M 4 9 i none
  | some a => sP (sT M 0 3 a (mT M 0 3 a - 1)) 4 9 i none
set_option maxHeartbeats 4000000 in
set_option maxRecDepth 100000 in
theorem c_leaveAgent {l : Launch} (hfl : l.stackTraces = false) (Γ : Gm) (K : Nat → Nat → Nat) (M : Mem) (i : Nat) (w : Wf M) (hi : i < mN M 4) : CT l Γ (gFree Γ) yX4_leaveAgent (wsO yX4_leaveAgent cX4_leaveAgent 1 none) 0 [.ref (K 4 i)] K M (DD True none K (leaveM M i)) xNo 0 0 := by
  refine ct_intro hfl (by decide) (Nat.le_of_ble_eq_true rfl) ?_
  intro p e s m args below meth c C ht hr hnm hM ls hl
  have hx := C.1
  have hb := C.2.1
  have hS : va_S (gFree Γ) s.heap s.heap [] := va_S.rf
  have hl : lv_has ls 1 [(0, .ref (K 4 i))] := hl
  have h1 := w.2.2.1 i hi
  have h2 := h1.1
  refine lv_aload_n hx hb dX4_leaveAgent_0 rfl (lv_at hl 0 rfl) ?_
  rcases hp_1 : (mP M 4 9 i) with _ | q_1
  · refine g_get C hM clo_4 9 (by decide) hi t_781 rfl (v := .null) (fvN rfl hp_1) dX4_leaveAgent_1 ?_
    refine lv_ifnullN (tgt := 20) hx hb dX4_leaveAgent_4 (by decide) ?_
    refine lv_aload_n hx hb dX4_leaveAgent_20 rfl (lv_at hl 0 rfl) ?_
    refine lv_null hx hb dX4_leaveAgent_21 ?_
    refine g_putP C hM hS clo_4 9 (by decide) none rfl rfl hi rfl rfl rfl rfl dX4_leaveAgent_22 (Or.inl t_781) (fun H locs hM hS => ?_)
    exact g_vret C hr hM hS dX4_leaveAgent_25 (by decide) (by decide) ⟨trivial, rfl, rfl, by simp only [leaveM, hp_1]⟩
  · refine g_get C hM clo_4 9 (by decide) hi t_781 rfl (v := _) (fvR rfl hp_1) dX4_leaveAgent_1 ?_
    refine lv_ifnull hx hb dX4_leaveAgent_4 ?_
    refine lv_aload_n hx hb dX4_leaveAgent_7 rfl (lv_at hl 0 rfl) ?_
    refine g_get C hM clo_4 9 (by decide) hi t_781 rfl (v := _) (fvR rfl (by assumption)) dX4_leaveAgent_8 ?_
    refine lv_dup hx hb dX4_leaveAgent_11 rfl ?_
    refine g_getN C hM clo_0 3 (by decide) (h1.2.2.2.2.1 _ hp_1) n_1001 rfl (v := .int (mT _ 0 3 _)) rfl dX4_leaveAgent_12 ?_
    refine lv_iconst (v := 1) hx hb dX4_leaveAgent_15 (by decide) ?_
    refine lv_isub hx hb dX4_leaveAgent_16 ?_
    refine g_putI C hM hS clo_0 3 (by decide) rfl (h1.2.2.2.2.1 _ hp_1) rfl rfl rfl rfl dX4_leaveAgent_17 (Or.inr n_1001) (fun H locs hM hS => ?_)
    refine lv_aload_n hx hb dX4_leaveAgent_20 rfl (lv_at hl 0 rfl) ?_
    refine lv_null hx hb dX4_leaveAgent_21 ?_
    refine g_putP C hM hS clo_4 9 (by decide) none rfl rfl hi rfl rfl rfl rfl dX4_leaveAgent_22 (Or.inl t_781) (fun H locs hM hS => ?_)
    exact g_vret C hr hM hS dX4_leaveAgent_25 (by decide) (by decide) ⟨trivial, rfl, rfl, by simp only [leaveM, hp_1]⟩

def brkM (M : Mem) (i : Nat) (n : Int32) : Bool := decide (mT M 4 8 i = 0) && decide (leftM (sT M 4 7 i (mT M 4 7 i + n)) i < 0)
def cntM (M : Mem) (i : Nat) (n : Int32) : Mem := if brkM M i n = true then sT (sT M 4 7 i (mT M 4 7 i + n)) 4 8 i 1 else sT M 4 7 i (mT M 4 7 i + n)
set_option maxHeartbeats 4000000 in
set_option maxRecDepth 100000 in
theorem c_countMinutes {l : Launch} (hfl : l.stackTraces = false) (Γ : Gm) (K : Nat → Nat → Nat) (M : Mem) (i : Nat) (n : Int32) (w : Wf M) (hi : i < mN M 4) : CT l Γ (gFree Γ) yX4_countMinutes (wsO yX4_countMinutes cX4_countMinutes 2 (some .boolean)) 1 [.ref (K 4 i), .int n] K M (DD True (some (.int (bI (brkM M i n)))) K (cntM M i n)) xNo 0 0 := by
  refine ct_intro hfl (by decide) (Nat.le_of_ble_eq_true rfl) ?_
  intro p e s m args below meth c C ht hr hnm hM ls hl
  have hx := C.1
  have hb := C.2.1
  have hS : va_S (gFree Γ) s.heap s.heap [] := va_S.rf
  have hl : lv_has ls 2 [(0, .ref (K 4 i)), (1, .int n)] := hl
  have h1 := w.2.2.1 i hi
  have h2 := h1.1
  have w1 : Wf (sT M 4 7 i (mT M 4 7 i + n)) := wf_sT (by decide) (by decide) w
  refine lv_aload_n hx hb dX4_countMinutes_0 rfl (lv_at hl 0 rfl) ?_
  refine lv_dup hx hb dX4_countMinutes_1 rfl ?_
  refine g_get C hM clo_4 7 (by decide) hi t_777 rfl (v := .int (mT _ 4 7 _)) rfl dX4_countMinutes_2 ?_
  refine lv_iload_n hx hb dX4_countMinutes_5 rfl (lv_at hl 1 rfl) ?_
  refine lv_iadd hx hb dX4_countMinutes_6 ?_
  refine g_putI C hM hS clo_4 7 (by decide) rfl hi rfl rfl rfl rfl dX4_countMinutes_7 (Or.inl t_777) (fun H locs hM hS => ?_)
  refine lv_aload_n hx hb dX4_countMinutes_10 rfl (lv_at hl 0 rfl) ?_
  refine g_get C hM clo_4 8 (by decide) hi t_779 rfl (v := .int (mT _ 4 8 _)) rfl dX4_countMinutes_11 ?_
  refine lv_if_ne (tgt := 24) hx hb dX4_countMinutes_14 (by decide) (fun c_14 => ?_) (fun c_14 => ?_)
  · skip
    refine lv_iconst (v := 0) hx hb dX4_countMinutes_24 (by decide) ?_
    exact g_zret C hr rfl hM hS dX4_countMinutes_25 (by decide) (by decide) (have hb9 : brkM M i n = false := by {unfold brkM; rw [decide_eq_false (show ¬ mT M 4 8 i = 0 from c_14)]; rfl}; ⟨trivial, by rw [hb9]; rfl, rfl, by rw [cntM, hb9]; rfl⟩)
  · skip
    refine lv_aload_n hx hb dX4_countMinutes_17 rfl (lv_at hl 0 rfl) ?_
    refine g_cV C hS (fun _ h => h) hM hl (fun _ h => h.elim) (c_minutesLeft hfl Γ _ _ _ w1 hi) kX4_minutesLeft t_237 (HM.recv C hM clo_4 hi) dX4_countMinutes_18 rfl rfl (Nat.le_of_ble_eq_true rfl) (by decide) rfl ⟨by decide, by decide⟩ xNo_goes (fun H locs hc_18 hM hS => ?_)
    refine lv_if_lt (tgt := 26) hx hb dX4_countMinutes_21 (by decide) (fun c_21 => ?_) (fun c_21 => ?_)
    · skip
      refine lv_aload_n hx hb dX4_countMinutes_26 rfl (lv_at hl 0 rfl) ?_
      refine lv_iconst (v := 1) hx hb dX4_countMinutes_27 (by decide) ?_
      refine g_putI C hM hS clo_4 8 (by decide) rfl hi rfl rfl rfl rfl dX4_countMinutes_28 (Or.inl t_779) (fun H locs hM hS => ?_)
      refine lv_iconst (v := 1) hx hb dX4_countMinutes_31 (by decide) ?_
      exact g_zret C hr rfl hM hS dX4_countMinutes_32 (by decide) (by decide) (have hb9 : brkM M i n = true := by {unfold brkM; rw [decide_eq_true c_21, decide_eq_true (show mT M 4 8 i = 0 from c_14)]; rfl}; ⟨trivial, by rw [hb9]; rfl, rfl, by rw [cntM, if_pos hb9]⟩)
    · skip
      refine lv_iconst (v := 0) hx hb dX4_countMinutes_24 (by decide) ?_
      exact g_zret C hr rfl hM hS dX4_countMinutes_25 (by decide) (by decide) (have hb9 : brkM M i n = false := by {unfold brkM; rw [decide_eq_false c_21, Bool.and_false]}; ⟨trivial, by rw [hb9]; rfl, rfl, by rw [cntM, hb9]; rfl⟩)

def reopM (M : Mem) (i : Nat) : Mem := sT (sT (sT (sP M 4 11 i none) 4 6 i 111) 4 7 i 0) 4 8 i 0
def anewM (M : Mem) (i : Nat) : Mem := match mP M 4 11 i with
  | none => reopM M i
  | some q => reopM (loseM M q (toM M i)) i
set_option maxHeartbeats 4000000 in
set_option maxRecDepth 100000 in
theorem c_beginAnew {l : Launch} (hfl : l.stackTraces = false) (Γ : Gm) (K : Nat → Nat → Nat) (M : Mem) (i : Nat) (w : Wf M) (hi : i < mN M 4) : CT l Γ (gFree Γ) yX4_beginAnew (wsO yX4_beginAnew cX4_beginAnew 1 none) 2 [.ref (K 4 i)] K M (DD True none K (anewM M i)) xNo 0 0 := by
  refine ct_intro hfl (by decide) (Nat.le_of_ble_eq_true rfl) ?_
  intro p e s m args below meth c C ht hr hnm hM ls hl
  have hx := C.1
  have hb := C.2.1
  have hS : va_S (gFree Γ) s.heap s.heap [] := va_S.rf
  have hl : lv_has ls 1 [(0, .ref (K 4 i))] := hl
  have h1 := w.2.2.1 i hi
  have h2 := h1.1
  refine lv_aload_n hx hb dX4_beginAnew_0 rfl (lv_at hl 0 rfl) ?_
  rcases hp_1 : (mP M 4 11 i) with _ | q_1
  · refine g_get C hM clo_4 11 (by decide) hi t_784 rfl (v := .null) (fvN rfl hp_1) dX4_beginAnew_1 ?_
    refine lv_ifnullN (tgt := 18) hx hb dX4_beginAnew_4 (by decide) ?_
    refine lv_aload_n hx hb dX4_beginAnew_18 rfl (lv_at hl 0 rfl) ?_
    refine lv_null hx hb dX4_beginAnew_19 ?_
    refine g_putP C hM hS clo_4 11 (by decide) none rfl rfl hi rfl rfl rfl rfl dX4_beginAnew_20 (Or.inl t_784) (fun H locs hM hS => ?_)
    refine lv_aload_n hx hb dX4_beginAnew_23 rfl (lv_at hl 0 rfl) ?_
    refine lv_bipush (v := 111) hx hb dX4_beginAnew_24 (by decide) ?_
    refine g_putI C hM hS clo_4 6 (by decide) rfl hi rfl rfl rfl rfl dX4_beginAnew_26 (Or.inl t_775) (fun H locs hM hS => ?_)
    refine lv_aload_n hx hb dX4_beginAnew_29 rfl (lv_at hl 0 rfl) ?_
    refine lv_iconst (v := 0) hx hb dX4_beginAnew_30 (by decide) ?_
    refine g_putI C hM hS clo_4 7 (by decide) rfl hi rfl rfl rfl rfl dX4_beginAnew_31 (Or.inl t_777) (fun H locs hM hS => ?_)
    refine lv_aload_n hx hb dX4_beginAnew_34 rfl (lv_at hl 0 rfl) ?_
    refine lv_iconst (v := 0) hx hb dX4_beginAnew_35 (by decide) ?_
    refine g_putI C hM hS clo_4 8 (by decide) rfl hi rfl rfl rfl rfl dX4_beginAnew_36 (Or.inl t_779) (fun H locs hM hS => ?_)
    exact g_vret C hr hM hS dX4_beginAnew_39 (by decide) (by decide) ⟨trivial, rfl, rfl, by simp only [anewM, hp_1]; rfl⟩
  · refine g_get C hM clo_4 11 (by decide) hi t_784 rfl (v := _) (fvR rfl hp_1) dX4_beginAnew_1 ?_
    refine lv_ifnull hx hb dX4_beginAnew_4 ?_
    refine lv_aload_n hx hb dX4_beginAnew_7 rfl (lv_at hl 0 rfl) ?_
    refine g_get C hM clo_4 11 (by decide) hi t_784 rfl (v := _) (fvR rfl (by assumption)) dX4_beginAnew_8 ?_
    refine lv_aload_n hx hb dX4_beginAnew_11 rfl (lv_at hl 0 rfl) ?_
    refine g_get C hM clo_4 4 (by decide) hi t_771 rfl (v := .int (mT _ 4 4 _)) rfl dX4_beginAnew_12 ?_
    rw [h1.2.2.1]
    refine g_cV C hS (fun _ h => h) hM hl (fun _ h => h) (c_loseWeight hfl Γ _ _ _ (toM M i) w (h1.2.2.2.2.2.1 _ hp_1) h1.2.2.2.1) kX3_loseWeight t_864 (HM.recv C hM clo_3 (h1.2.2.2.2.2.1 _ hp_1)) dX4_beginAnew_15 rfl rfl (Nat.le_of_ble_eq_true rfl) (by decide) rfl ⟨by decide, by decide⟩ xNo_goes (fun H locs hc_15 hM hS => ?_)
    refine lv_aload_n hx hb dX4_beginAnew_18 rfl (lv_at hl 0 rfl) ?_
    refine lv_null hx hb dX4_beginAnew_19 ?_
    refine g_putP C hM hS clo_4 11 (by decide) none rfl rfl hi rfl rfl rfl rfl dX4_beginAnew_20 (Or.inl t_784) (fun H locs hM hS => ?_)
    refine lv_aload_n hx hb dX4_beginAnew_23 rfl (lv_at hl 0 rfl) ?_
    refine lv_bipush (v := 111) hx hb dX4_beginAnew_24 (by decide) ?_
    refine g_putI C hM hS clo_4 6 (by decide) rfl hi rfl rfl rfl rfl dX4_beginAnew_26 (Or.inl t_775) (fun H locs hM hS => ?_)
    refine lv_aload_n hx hb dX4_beginAnew_29 rfl (lv_at hl 0 rfl) ?_
    refine lv_iconst (v := 0) hx hb dX4_beginAnew_30 (by decide) ?_
    refine g_putI C hM hS clo_4 7 (by decide) rfl hi rfl rfl rfl rfl dX4_beginAnew_31 (Or.inl t_777) (fun H locs hM hS => ?_)
    refine lv_aload_n hx hb dX4_beginAnew_34 rfl (lv_at hl 0 rfl) ?_
    refine lv_iconst (v := 0) hx hb dX4_beginAnew_35 (by decide) ?_
    refine g_putI C hM hS clo_4 8 (by decide) rfl hi rfl rfl rfl rfl dX4_beginAnew_36 (Or.inl t_779) (fun H locs hM hS => ?_)
    exact g_vret C hr hM hS dX4_beginAnew_39 (by decide) (by decide) ⟨trivial, rfl, rfl, by simp only [anewM, hp_1]; rfl⟩

def popI (i : Int32) : Int32 :=
  let a := i - ((i.toUInt32 >>> ((1 : Int32).toUInt32 &&& Int32.toUInt32 31)).toInt32 &&& 1431655765)
  a
