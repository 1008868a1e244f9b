def XP (L : List String) (r : Nat) : String → Prop := fun E => r ≠ 0 ∧ E = L.getD (r - 1) ""
theorem xp_of {L : List String} {r : Nat} {E : String} (n : Nat) (h : r = n + 1) (hE : E = L.getD n "") : XP L r E := by
  subst h
  exact ⟨Nat.succ_ne_zero _, hE⟩
theorem mN_qins {M : Mem} {q e t : Nat} : mN (qinsM M q e t) = mN M := rfl
theorem mN_qrem {M : Mem} {q t : Nat} : mN (qremM M q t) = mN M := by unfold qremM; split <;> rfl
theorem mN_lq {M : Mem} {i : Nat} : mN (lqM M i) = mN M := mN_qrem
theorem mN_jq {M : Mem} {i : Nat} : mN (jqM M i) = mN M := by unfold jqM; split <;> rfl
theorem mN_leave {M : Mem} {i : Nat} : mN (leaveM M i) = mN M := by unfold leaveM; split <;> rfl
theorem wf_leave {M : Mem} {i : Nat} (w : Wf M) : Wf (leaveM M i) := by
  unfold leaveM
  split
  · exact wf_none (Or.inl rfl) w
  · exact wf_none (Or.inl rfl) (wf_sT (by decide) (by decide) w)
theorem wf_joinA {M : Mem} {i a : Nat} (w : Wf M) (ha : a < mN M 0) : Wf (joinM M i a) :=
  wf_sT (by decide) (by decide) (wf_sP (Or.inl rfl) (fun b hb => by cases hb; exact ⟨fun _ => ha, fun h => by omega, fun h => by omega⟩) w)
theorem inB_ix {x : Int32} {n : Nat} (h : inB x 0 (nI n - 1) = true) (hn : n < 2 ^ 31) : ix x < n ∧ x = nI (ix x) := inN_ix h hn
theorem kX6_time : CeeV yX6_time RX6 cX6_time 1 (some .int) 0 := ⟨t_146, t_147, t_1, t_148, by decide +kernel, by decide⟩
theorem kX6_breaches : CeeV yX6_breaches RX6 cX6_breaches 1 (some .int) 0 := ⟨t_162, t_163, t_1, t_164, by decide +kernel, by decide⟩
theorem kX6_answers : CeeV yX6_answers RX6 cX6_answers 1 (some .int) 0 := ⟨t_166, t_167, t_1, t_168, by decide +kernel, by decide⟩
theorem kX6_minutesOpen : CeeV yX6_minutesOpen RX6 cX6_minutesOpen 1 (some .long) 0 := ⟨t_170, t_171, t_1, t_172, by decide +kernel, by decide⟩
theorem kX6_mails : CeeV yX6_mails RX6 cX6_mails 1 (some .int) 0 := ⟨t_150, t_151, t_1, t_152, by decide +kernel, by decide⟩
theorem kX6_tickets : CeeV yX6_tickets RX6 cX6_tickets 1 (some .int) 0 := ⟨t_158, t_159, t_1, t_160, by decide +kernel, by decide⟩
theorem kX6_mailsOf : CeeV yX6_mailsOf RX6 cX6_mailsOf 2 (some .int) 1 := ⟨t_905, t_906, t_1, t_907, by decide +kernel, by decide⟩
theorem kX6_stateOf : CeeV yX6_stateOf RX6 cX6_stateOf 2 (some .char) 1 := ⟨t_927, t_928, t_1, t_929, by decide +kernel, by decide⟩
theorem kX6_ticketOf : CeeV yX6_ticketOf RX6 cX6_ticketOf 2 (some .int) 1 := ⟨t_881, t_882, t_1, t_883, by decide +kernel, by decide⟩
theorem kX6_mailAt : CeeV yX6_mailAt RX6 cX6_mailAt 4 (some .int) 2 := ⟨t_919, t_920, t_1, t_921, by decide +kernel, by decide⟩
theorem kX6_mergedInto : CeeV yX6_mergedInto RX6 cX6_mergedInto 3 (some .int) 1 := ⟨t_934, t_935, t_1, t_936, by decide +kernel, by decide⟩
theorem kX6_setTopic : CeeV yX6_setTopic RX6 cX6_setTopic 5 (some .int) 2 := ⟨t_942, t_943, t_1, t_944, by decide +kernel, by decide⟩
theorem kX6_clock : CeeV yX6_clock RX6 cX6_clock 3 (some .int) 1 := ⟨t_963, t_964, t_1, t_965, by decide +kernel, by decide⟩
theorem kX6_leftOf : CeeV yX6_leftOf RX6 cX6_leftOf 3 (some .int) 1 := ⟨t_970, t_971, t_1, t_972, by decide +kernel, by decide⟩
theorem kX6_isBreached : CeeV yX6_isBreached RX6 cX6_isBreached 3 (some .boolean) 1 := ⟨t_978, t_979, t_1, t_980, by decide +kernel, by decide⟩
theorem kX6_learn : CeeV yX6_learn RX6 cX6_learn 4 (some .int) 2 := ⟨t_1017, t_1018, t_1, t_1019, by decide +kernel, by decide⟩
theorem kX6_setOnShift : CeeV yX6_setOnShift RX6 cX6_setOnShift 5 (some .boolean) 2 := ⟨t_1051, t_1052, t_1, t_1053, by decide +kernel, by decide⟩
theorem kX6_held : CeeV yX6_held RX6 cX6_held 2 (some .int) 1 := ⟨t_1062, t_1063, t_1, t_1064, by decide +kernel, by decide⟩
theorem kX6_agentOf : CeeV yX6_agentOf RX6 cX6_agentOf 3 (some .int) 1 := ⟨t_1069, t_1070, t_1, t_1071, by decide +kernel, by decide⟩
theorem kX6_nextFor : CeeV yX6_nextFor RX6 cX6_nextFor 3 (some .int) 1 := ⟨t_1077, t_1078, t_1, t_1079, by decide +kernel, by decide⟩
theorem kX6_nextByTickets : CeeV yX6_nextByTickets RX6 cX6_nextByTickets 3 (some .int) 1 := ⟨t_1085, t_1086, t_1, t_1087, by decide +kernel, by decide⟩
theorem kX6_waiting : CeeV yX6_waiting RX6 cX6_waiting 5 (some .int) 1 := ⟨t_1092, t_1093, t_1, t_1094, by decide +kernel, by decide⟩
theorem kX6_take : CeeV yX6_take RX6 cX6_take 4 (some .int) 1 := ⟨t_1103, t_1104, t_1, t_1105, by decide +kernel, by decide⟩
theorem kX6_handOver : CeeV yX6_handOver RX6 cX6_handOver 5 (some .int) 2 := ⟨t_1115, t_1116, t_1, t_1117, by decide +kernel, by decide⟩
theorem kX6_giveBack : CeeV yX6_giveBack RX6 cX6_giveBack 4 (some .int) 1 := ⟨t_1124, t_1125, t_1, t_1126, by decide +kernel, by decide⟩
theorem kX6_hold : CeeV yX6_hold RX6 cX6_hold 3 (some .int) 1 := ⟨t_1131, t_1132, t_1, t_1133, by decide +kernel, by decide⟩
theorem kX6_resume : CeeV yX6_resume RX6 cX6_resume 3 (some .int) 1 := ⟨t_1139, t_1140, t_1, t_1141, by decide +kernel, by decide⟩
theorem kX6_answer : CeeV yX6_answer RX6 cX6_answer 4 (some .int) 2 := ⟨t_1147, t_1148, t_1, t_1149, by decide +kernel, by decide⟩
theorem kX6_close : CeeV yX6_close RX6 cX6_close 3 (some .int) 1 := ⟨t_1165, t_1166, t_1, t_1167, by decide +kernel, by decide⟩
theorem kX6_merge : CeeV yX6_merge RX6 cX6_merge 5 (some .int) 2 := ⟨t_1182, t_1183, t_1, t_1184, by decide +kernel, by decide⟩
theorem kX6_addAnswer : CeeV yX6_addAnswer RX6 cX6_addAnswer 4 (some .int) 1 := ⟨t_1201, t_1202, t_1, t_1203, by decide +kernel, by decide⟩
theorem kX6_weight : CeeV yX6_weight RX6 cX6_weight 3 (some .int) 2 := ⟨t_1224, t_1225, t_1, t_1226, by decide +kernel, by decide⟩
theorem kX6_suggestion : CeeV yX6_suggestion RX6 cX6_suggestion 3 (some .int) 1 := ⟨t_1231, t_1232, t_1, t_1233, by decide +kernel, by decide⟩
theorem kX6_suggestionByWords : CeeV yX6_suggestionByWords RX6 cX6_suggestionByWords 3 (some .int) 1 := ⟨t_1243, t_1244, t_1, t_1245, by decide +kernel, by decide⟩
theorem kX6_pass : CeeV yX6_pass RX6 cX6_pass 5 (some .int) 1 := ⟨t_254, t_255, t_1, t_256, by decide +kernel, by decide⟩
theorem kX6_setClass : CeeV yX6_setClass RX6 cX6_setClass 4 (some .int) 2 := ⟨t_340, t_341, t_1, t_342, by decide +kernel, by decide⟩
theorem kX6_setPromise : CeeV yX6_setPromise RX6 cX6_setPromise 4 (some .int) 2 := ⟨t_686, t_687, t_1, t_688, by decide +kernel, by decide⟩
set_option maxHeartbeats 4000000 in
set_option maxRecDepth 100000 in
theorem c_time {l : Launch} (hfl : l.stackTraces = false) (Γ : Gm) (K : Nat → Nat → Nat) (M : Mem)  (w : Wf M) : CT l Γ pF yX6_time (wsO yX6_time cX6_time 1 (some .int)) 0 [.ref (K 6 0)] K M (DD True (some (.int (mT M 6 9 0))) K M) xNo 0 0 := by
  refine ct_intro hfl (by decide) (Nat.le_of_ble_eq_true rfl) ?_
  intro p e s m args below meth c C ht hr hnm hM ls hl
  have hx := C.1
  have hb := C.2.1
  have hS : va_S pF s.heap s.heap [] := va_S.rf
  have hl : lv_has ls 1 [(0, .ref (K 6 0))] := hl
  refine lv_aload_n hx hb dX6_time_0 rfl (lv_at hl 0 rfl) ?_
  refine g_get C hM clo_6 9 (by decide) (wn6 w) t_108 rfl (v := .int (mT _ 6 9 _)) rfl dX6_time_1 ?_
  exact g_iret C hr hM hS dX6_time_4 (by decide) (by decide) ⟨trivial, rfl, rfl, rfl⟩

set_option maxHeartbeats 4000000 in
set_option maxRecDepth 100000 in
theorem c_breaches {l : Launch} (hfl : l.stackTraces = false) (Γ : Gm) (K : Nat → Nat → Nat) (M : Mem)  (w : Wf M) : CT l Γ pF yX6_breaches (wsO yX6_breaches cX6_breaches 1 (some .int)) 0 [.ref (K 6 0)] K M (DD True (some (.int (mT M 6 10 0))) K M) xNo 0 0 := by
  refine ct_intro hfl (by decide) (Nat.le_of_ble_eq_true rfl) ?_
  intro p e s m args below meth c C ht hr hnm hM ls hl
  have hx := C.1
  have hb := C.2.1
  have hS : va_S pF s.heap s.heap [] := va_S.rf
  have hl : lv_has ls 1 [(0, .ref (K 6 0))] := hl
  refine lv_aload_n hx hb dX6_breaches_0 rfl (lv_at hl 0 rfl) ?_
  refine g_get C hM clo_6 10 (by decide) (wn6 w) t_109 rfl (v := .int (mT _ 6 10 _)) rfl dX6_breaches_1 ?_
  exact g_iret C hr hM hS dX6_breaches_4 (by decide) (by decide) ⟨trivial, rfl, rfl, rfl⟩

set_option maxHeartbeats 4000000 in
set_option maxRecDepth 100000 in
theorem c_answers {l : Launch} (hfl : l.stackTraces = false) (Γ : Gm) (K : Nat → Nat → Nat) (M : Mem)  (w : Wf M) : CT l Γ pF yX6_answers (wsO yX6_answers cX6_answers 1 (some .int)) 0 [.ref (K 6 0)] K M (DD True (some (.int (mT M 6 11 0))) K M) xNo 0 0 := by
  refine ct_intro hfl (by decide) (Nat.le_of_ble_eq_true rfl) ?_
  intro p e s m args below meth c C ht hr hnm hM ls hl
  have hx := C.1
  have hb := C.2.1
  have hS : va_S pF s.heap s.heap [] := va_S.rf
  have hl : lv_has ls 1 [(0, .ref (K 6 0))] := hl
  refine lv_aload_n hx hb dX6_answers_0 rfl (lv_at hl 0 rfl) ?_
  refine g_get C hM clo_6 11 (by decide) (wn6 w) t_110 rfl (v := .int (mT _ 6 11 _)) rfl dX6_answers_1 ?_
  exact g_iret C hr hM hS dX6_answers_4 (by decide) (by decide) ⟨trivial, rfl, rfl, rfl⟩

set_option maxHeartbeats 4000000 in
set_option maxRecDepth 100000 in
theorem c_minutesOpen {l : Launch} (hfl : l.stackTraces = false) (Γ : Gm) (K : Nat → Nat → Nat) (M : Mem)  (w : Wf M) : CT l Γ pF yX6_minutesOpen (wsO yX6_minutesOpen cX6_minutesOpen 1 (some .long)) 0 [.ref (K 6 0)] K M (DD True (some (.long (mJ M 6 14 0))) K M) xNo 0 0 := by
  refine ct_intro hfl (by decide) (Nat.le_of_ble_eq_true rfl) ?_
  intro p e s m args below meth c C ht hr hnm hM ls hl
  have hx := C.1
  have hb := C.2.1
  have hS : va_S pF s.heap s.heap [] := va_S.rf
  have hl : lv_has ls 1 [(0, .ref (K 6 0))] := hl
  refine lv_aload_n hx hb dX6_minutesOpen_0 rfl (lv_at hl 0 rfl) ?_
  refine g_get C hM clo_6 14 (by decide) (wn6 w) t_113 rfl (v := .long (mJ _ 6 14 _)) rfl dX6_minutesOpen_1 ?_
  exact g_lret C hr hM hS dX6_minutesOpen_4 (by decide) (by decide) ⟨trivial, rfl, rfl, rfl⟩

set_option maxHeartbeats 4000000 in
set_option maxRecDepth 100000 in
theorem c_mails {l : Launch} (hfl : l.stackTraces = false) (Γ : Gm) (K : Nat → Nat → Nat) (M : Mem)  (w : Wf M) : CT l Γ pF yX6_mails (wsO yX6_mails cX6_mails 1 (some .int)) 1 [.ref (K 6 0)] K M (DD True (some (.int (nI (mN M 2)))) K M) xNo 0 0 := by
  refine ct_intro hfl (by decide) (Nat.le_of_ble_eq_true rfl) ?_
  intro p e s m args below meth c C ht hr hnm hM ls hl
  have hx := C.1
  have hb := C.2.1
  have hS : va_S pF s.heap s.heap [] := va_S.rf
  have hl : lv_has ls 1 [(0, .ref (K 6 0))] := hl
  refine lv_aload_n hx hb dX6_mails_0 rfl (lv_at hl 0 rfl) ?_
  refine g_get C hM clo_6 3 (by decide) (wn6 w) t_102 rfl (v := _) (fv4 rfl) dX6_mails_1 ?_
  refine g_cV C hS (fun _ h => h.elim) hM hl (fun _ h => h) (c_size10 hfl Γ _ _ (by assumption)) kJx4a65c_size_8abf5 t_153 (HM.recvL C hM rfl (wn10 (by assumption))) dX6_mails_4 rfl rfl (Nat.le_of_ble_eq_true rfl) (by decide) rfl ⟨by decide, by decide⟩ xNo_goes (fun H locs hc_4 hM hS => ?_)
  exact g_iret C hr hM hS dX6_mails_7 (by decide) (by decide) ⟨trivial, rfl, rfl, rfl⟩

set_option maxHeartbeats 4000000 in
set_option maxRecDepth 100000 in
theorem c_tickets {l : Launch} (hfl : l.stackTraces = false) (Γ : Gm) (K : Nat → Nat → Nat) (M : Mem)  (w : Wf M) : CT l Γ pF yX6_tickets (wsO yX6_tickets cX6_tickets 1 (some .int)) 1 [.ref (K 6 0)] K M (DD True (some (.int (nI (mN M 4)))) K M) xNo 0 0 := by
  refine ct_intro hfl (by decide) (Nat.le_of_ble_eq_true rfl) ?_
  intro p e s m args below meth c C ht hr hnm hM ls hl
  have hx := C.1
  have hb := C.2.1
  have hS : va_S pF s.heap s.heap [] := va_S.rf
  have hl : lv_has ls 1 [(0, .ref (K 6 0))] := hl
  refine lv_aload_n hx hb dX6_tickets_0 rfl (lv_at hl 0 rfl) ?_
  refine g_get C hM clo_6 4 (by decide) (wn6 w) t_103 rfl (v := _) (fv4 rfl) dX6_tickets_1 ?_
  refine g_cV C hS (fun _ h => h.elim) hM hl (fun _ h => h) (c_size11 hfl Γ _ _ (by assumption)) kJx4a65c_size_8abf5 t_153 (HM.recvL C hM rfl (wn11 (by assumption))) dX6_tickets_4 rfl rfl (Nat.le_of_ble_eq_true rfl) (by decide) rfl ⟨by decide, by decide⟩ xNo_goes (fun H locs hc_4 hM hS => ?_)
  exact g_iret C hr hM hS dX6_tickets_7 (by decide) (by decide) ⟨trivial, rfl, rfl, rfl⟩

def rMailsOf (M : Mem) (x : Int32) : Nat := if inN x (mN M 4) = true then (0) else 1
set_option maxHeartbeats 4000000 in
set_option maxRecDepth 100000 in
theorem c_mailsOf {l : Launch} (hfl : l.stackTraces = false) (Γ : Gm) (K : Nat → Nat → Nat) (M : Mem) (x : Int32) (w : Wf M) : CT l Γ pF yX6_mailsOf (wsO yX6_mailsOf cX6_mailsOf 2 (some .int)) 8 [.ref (K 6 0), .int x] K M (DD (rMailsOf M x = 0) (some (.int (nI (mL M 8 (ix x)).length))) K (M)) (XP ["java/lang/IndexOutOfBoundsException"] (rMailsOf M x)) 2 12 := by
  refine ct_intro hfl (by decide) (Nat.le_of_ble_eq_true rfl) ?_
  intro p e s m args below meth c C ht hr hnm hM ls hl
  have hx := C.1
  have hb := C.2.1
  have hS : va_S pF s.heap s.heap [] := va_S.rf
  have hl : lv_has ls 2 [(0, .ref (K 6 0)), (1, .int x)] := hl
  have hb4 := wn4 w
  have hb0 := wn0 w
  have hb2 := wn2 w
  refine lv_aload_n hx hb dX6_mailsOf_0 rfl (lv_at hl 0 rfl) ?_
  refine lv_iload_n hx hb dX6_mailsOf_1 rfl (lv_at hl 1 rfl) ?_
  refine g_cV C hS (fun _ h => h.elim) hM hl (fun _ h => h) (c_ticketNumbered hfl Γ _ _ _ (by assumption)) kX6_ticketNumbered t_908 (HM.recv C hM clo_6 (wn6 (by assumption))) dX6_mailsOf_2 rfl rfl (Nat.le_of_ble_eq_true rfl) (by decide) rfl ⟨by decide, by decide⟩ (g_pass C ht (fun E h => xp_of 0 (by simp [rMailsOf, h.2]) h.1) (by decide) (by decide)) (fun H locs hc_2 hM hS => ?_)
  have hq_2 := (inN_ix hc_2 (by have := wn4 w; omega)).1
  refine g_getN C hM clo_4 3 (by decide) (by assumption) n_770 rfl (v := _) (fv3 rfl) dX6_mailsOf_5 ?_
  refine g_cV C hS (fun _ h => h.elim) hM hl (fun _ h => h) (c_lsize hfl Γ _ _ 8 _ rfl (wn8 (by assumption) (by assumption))) kJx4a65c_size_8abf5 t_153 (HM.recvL C hM rfl (wn8 (by assumption) (by assumption))) dX6_mailsOf_8 rfl rfl (Nat.le_of_ble_eq_true rfl) (by decide) rfl ⟨by decide, by decide⟩ xNo_goes (fun H locs hc_8 hM hS => ?_)
  exact g_iret C hr hM hS dX6_mailsOf_11 (by decide) (by decide) ⟨by simp [rMailsOf, hc_2], rfl, rfl, rfl⟩

def rStateOf (M : Mem) (x : Int32) : Nat := if inN x (mN M 4) = true then (0) else 1
set_option maxHeartbeats 4000000 in
set_option maxRecDepth 100000 in
theorem c_stateOf {l : Launch} (hfl : l.stackTraces = false) (Γ : Gm) (K : Nat → Nat → Nat) (M : Mem) (x : Int32) (w : Wf M) (hst : narrow .char (.int (stM M (ix x))) = .int (stM M (ix x))) : CT l Γ pF yX6_stateOf (wsO yX6_stateOf cX6_stateOf 2 (some .char)) 8 [.ref (K 6 0), .int x] K M (DD (rStateOf M x = 0) (some (.int (stM M (ix x)))) K (M)) (XP ["java/lang/IndexOutOfBoundsException"] (rStateOf M x)) 2 12 := by
  refine ct_intro hfl (by decide) (Nat.le_of_ble_eq_true rfl) ?_
  intro p e s m args below meth c C ht hr hnm hM ls hl
  have hx := C.1
  have hb := C.2.1
  have hS : va_S pF s.heap s.heap [] := va_S.rf
  have hl : lv_has ls 2 [(0, .ref (K 6 0)), (1, .int x)] := hl
  have hb4 := wn4 w
  have hb0 := wn0 w
  have hb2 := wn2 w
  refine lv_aload_n hx hb dX6_stateOf_0 rfl (lv_at hl 0 rfl) ?_
  refine lv_iload_n hx hb dX6_stateOf_1 rfl (lv_at hl 1 rfl) ?_
  refine g_cV C hS (fun _ h => h.elim) hM hl (fun _ h => h) (c_ticketNumbered hfl Γ _ _ _ (by assumption)) kX6_ticketNumbered t_908 (HM.recv C hM clo_6 (wn6 (by assumption))) dX6_stateOf_2 rfl rfl (Nat.le_of_ble_eq_true rfl) (by decide) rfl ⟨by decide, by decide⟩ (g_pass C ht (fun E h => xp_of 0 (by simp [rStateOf, h.2]) h.1) (by decide) (by decide)) (fun H locs hc_2 hM hS => ?_)
  have hq_2 := (inN_ix hc_2 (by have := wn4 w; omega)).1
  refine g_getN C hM clo_4 6 (by decide) (by assumption) n_776 rfl (v := .int (mT _ 4 6 _)) rfl dX6_stateOf_5 ?_
  exact g_zret C hr hst hM hS dX6_stateOf_8 (by decide) (by decide) ⟨by simp [rStateOf, hc_2], rfl, rfl, rfl⟩

def rHeld (M : Mem) (x : Int32) : Nat := if inN x (mN M 0) = true then (0) else 1
set_option maxHeartbeats 4000000 in
set_option maxRecDepth 100000 in
theorem c_held {l : Launch} (hfl : l.stackTraces = false) (Γ : Gm) (K : Nat → Nat → Nat) (M : Mem) (x : Int32) (w : Wf M) : CT l Γ pF yX6_held (wsO yX6_held cX6_held 2 (some .int)) 8 [.ref (K 6 0), .int x] K M (DD (rHeld M x = 0) (some (.int (mT M 0 3 (ix x)))) K (M)) (XP ["java/lang/IndexOutOfBoundsException"] (rHeld M x)) 2 12 := by
  refine ct_intro hfl (by decide) (Nat.le_of_ble_eq_true rfl) ?_
  intro p e s m args below meth c C ht hr hnm hM ls hl
  have hx := C.1
  have hb := C.2.1
  have hS : va_S pF s.heap s.heap [] := va_S.rf
  have hl : lv_has ls 2 [(0, .ref (K 6 0)), (1, .int x)] := hl
  have hb4 := wn4 w
  have hb0 := wn0 w
  have hb2 := wn2 w
  refine lv_aload_n hx hb dX6_held_0 rfl (lv_at hl 0 rfl) ?_
  refine lv_iload_n hx hb dX6_held_1 rfl (lv_at hl 1 rfl) ?_
  refine g_cV C hS (fun _ h => h.elim) hM hl (fun _ h => h) (c_agentNumbered hfl Γ _ _ _ (by assumption)) kX6_agentNumbered t_1020 (HM.recv C hM clo_6 (wn6 (by assumption))) dX6_held_2 rfl rfl (Nat.le_of_ble_eq_true rfl) (by decide) rfl ⟨by decide, by decide⟩ (g_pass C ht (fun E h => xp_of 0 (by simp [rHeld, h.2]) h.1) (by decide) (by decide)) (fun H locs hc_2 hM hS => ?_)
  have hq_2 := (inN_ix hc_2 (by have := wn0 w; omega)).1
  refine g_getN C hM clo_0 3 (by decide) (by assumption) n_1002 rfl (v := .int (mT _ 0 3 _)) rfl dX6_held_5 ?_
  exact g_iret C hr hM hS dX6_held_8 (by decide) (by decide) ⟨by simp [rHeld, hc_2], rfl, rfl, rfl⟩

def rClock (M : Mem) (x : Int32) : Nat := if inN x (mN M 4) = true then (if ohM M (ix x) = true then 0 else 2) else 1
set_option maxHeartbeats 4000000 in
set_option maxRecDepth 100000 in
theorem c_clock {l : Launch} (hfl : l.stackTraces = false) (Γ : Gm) (K : Nat → Nat → Nat) (M : Mem) (x : Int32) (w : Wf M) : CT l Γ pF yX6_clock (wsO yX6_clock cX6_clock 3 (some .int)) 8 [.ref (K 6 0), .int x] K M (DD (rClock M x = 0) (some (.int (mT M 4 7 (ix x)))) K (M)) (XP ["java/lang/IndexOutOfBoundsException", "java/lang/IllegalStateException"] (rClock M x)) 2 12 := by
  refine ct_intro hfl (by decide) (Nat.le_of_ble_eq_true rfl) ?_
  intro p e s m args below meth c C ht hr hnm hM ls hl
  have hx := C.1
  have hb := C.2.1
  have hS : va_S pF s.heap s.heap [] := va_S.rf
  have hl : lv_has ls 3 [(0, .ref (K 6 0)), (1, .int x)] := hl
  have hb4 := wn4 w
  have hb0 := wn0 w
  have hb2 := wn2 w
  refine lv_aload_n hx hb dX6_clock_0 rfl (lv_at hl 0 rfl) ?_
  refine lv_iload_n hx hb dX6_clock_1 rfl (lv_at hl 1 rfl) ?_
  refine g_cV C hS (fun _ h => h.elim) hM hl (fun _ h => h) (c_ticketNumbered hfl Γ _ _ _ (by assumption)) kX6_ticketNumbered t_908 (HM.recv C hM clo_6 (wn6 (by assumption))) dX6_clock_2 rfl rfl (Nat.le_of_ble_eq_true rfl) (by decide) rfl ⟨by decide, by decide⟩ (g_pass C ht (fun E h => xp_of 0 (by simp [rClock, h.2]) h.1) (by decide) (by decide)) (fun H locs hc_2 hM hS => ?_)
  have hq_2 := (inN_ix hc_2 (by have := wn4 w; omega)).1
  refine lv_astore_n (lv' := [(2, _), (0, _), (1, _)]) hx hb dX6_clock_5 rfl hl (by decide) rfl (fun ls hl => ?_)
  refine lv_aload_n hx hb dX6_clock_6 rfl (lv_at hl 0 rfl) ?_
  refine g_cS C hS (fun _ h => h.elim) hM hl (fun _ h => h) (c_requireOpenOrHeld hfl Γ _ _ _ (by assumption)) kX6_requireOpenOrHeld t_946 dX6_clock_7 rfl rfl (Nat.le_of_ble_eq_true rfl) (by decide) rfl ⟨by decide, by decide⟩ (g_pass C ht (fun E h => xp_of 1 (by simp [rClock, h.2, hc_2]) h.1) (by decide) (by decide)) (fun H locs hc_7 hM hS => ?_)
  refine lv_aload_n hx hb dX6_clock_10 rfl (lv_at hl 0 rfl) ?_
  refine g_getN C hM clo_4 7 (by decide) (by assumption) n_778 rfl (v := .int (mT _ 4 7 _)) rfl dX6_clock_11 ?_
  exact g_iret C hr hM hS dX6_clock_14 (by decide) (by decide) ⟨by simp [rClock, hc_2, hc_7], rfl, rfl, rfl⟩

def rLeftOf (M : Mem) (x : Int32) : Nat := if inN x (mN M 4) = true then (if ohM M (ix x) = true then 0 else 2) else 1
set_option maxHeartbeats 4000000 in
set_option maxRecDepth 100000 in
theorem c_leftOf {l : Launch} (hfl : l.stackTraces = false) (Γ : Gm) (K : Nat → Nat → Nat) (M : Mem) (x : Int32) (w : Wf M) : CT l Γ pF yX6_leftOf (wsO yX6_leftOf cX6_leftOf 3 (some .int)) 8 [.ref (K 6 0), .int x] K M (DD (rLeftOf M x = 0) (some (.int (leftM M (ix x)))) K (M)) (XP ["java/lang/IndexOutOfBoundsException", "java/lang/IllegalStateException"] (rLeftOf M x)) 2 12 := by
  refine ct_intro hfl (by decide) (Nat.le_of_ble_eq_true rfl) ?_
  intro p e s m args below meth c C ht hr hnm hM ls hl
  have hx := C.1
  have hb := C.2.1
  have hS : va_S pF s.heap s.heap [] := va_S.rf
  have hl : lv_has ls 3 [(0, .ref (K 6 0)), (1, .int x)] := hl
  have hb4 := wn4 w
  have hb0 := wn0 w
  have hb2 := wn2 w
  refine lv_aload_n hx hb dX6_leftOf_0 rfl (lv_at hl 0 rfl) ?_
  refine lv_iload_n hx hb dX6_leftOf_1 rfl (lv_at hl 1 rfl) ?_
  refine g_cV C hS (fun _ h => h.elim) hM hl (fun _ h => h) (c_ticketNumbered hfl Γ _ _ _ (by assumption)) kX6_ticketNumbered t_908 (HM.recv C hM clo_6 (wn6 (by assumption))) dX6_leftOf_2 rfl rfl (Nat.le_of_ble_eq_true rfl) (by decide) rfl ⟨by decide, by decide⟩ (g_pass C ht (fun E h => xp_of 0 (by simp [rLeftOf, h.2]) h.1) (by decide) (by decide)) (fun H locs hc_2 hM hS => ?_)
  have hq_2 := (inN_ix hc_2 (by have := wn4 w; omega)).1
  refine lv_astore_n (lv' := [(2, _), (0, _), (1, _)]) hx hb dX6_leftOf_5 rfl hl (by decide) rfl (fun ls hl => ?_)
  refine lv_aload_n hx hb dX6_leftOf_6 rfl (lv_at hl 0 rfl) ?_
  refine g_cS C hS (fun _ h => h.elim) hM hl (fun _ h => h) (c_requireOpenOrHeld hfl Γ _ _ _ (by assumption)) kX6_requireOpenOrHeld t_946 dX6_leftOf_7 rfl rfl (Nat.le_of_ble_eq_true rfl) (by decide) rfl ⟨by decide, by decide⟩ (g_pass C ht (fun E h => xp_of 1 (by simp [rLeftOf, h.2, hc_2]) h.1) (by decide) (by decide)) (fun H locs hc_7 hM hS => ?_)
  refine lv_aload_n hx hb dX6_leftOf_10 rfl (lv_at hl 0 rfl) ?_
  refine g_cV C hS (fun _ h => h.elim) hM hl (fun _ h => h) (c_minutesLeft hfl Γ _ _ _ (by assumption) (by assumption)) kX4_minutesLeft t_973 (HM.recv C hM clo_4 (by assumption)) dX6_leftOf_11 rfl rfl (Nat.le_of_ble_eq_true rfl) (by decide) rfl ⟨by decide, by decide⟩ xNo_goes (fun H locs hc_11 hM hS => ?_)
  exact g_iret C hr hM hS dX6_leftOf_14 (by decide) (by decide) ⟨by simp [rLeftOf, hc_2, hc_7], rfl, rfl, rfl⟩

def rIsBreached (M : Mem) (x : Int32) : Nat := if inN x (mN M 4) = true then (0) else 1
set_option maxHeartbeats 4000000 in
set_option maxRecDepth 100000 in
theorem c_isBreached {l : Launch} (hfl : l.stackTraces = false) (Γ : Gm) (K : Nat → Nat → Nat) (M : Mem) (x : Int32) (w : Wf M) : CT l Γ pF yX6_isBreached (wsO yX6_isBreached cX6_isBreached 3 (some .boolean)) 8 [.ref (K 6 0), .int x] K M (DD (rIsBreached M x = 0) (some (.int (bI (ohM M (ix x) && !decide (mT M 4 8 (ix x) = 0))))) K (M)) (XP ["java/lang/IndexOutOfBoundsException"] (rIsBreached M x)) 2 12 := by
  refine ct_intro hfl (by decide) (Nat.le_of_ble_eq_true rfl) ?_
  intro p e s m args below meth c C ht hr hnm hM ls hl
  have hx := C.1
  have hb := C.2.1
  have hS : va_S pF s.heap s.heap [] := va_S.rf
  have hl : lv_has ls 3 [(0, .ref (K 6 0)), (1, .int x)] := hl
  have hb4 := wn4 w
  have hb0 := wn0 w
  have hb2 := wn2 w
  refine lv_aload_n hx hb dX6_isBreached_0 rfl (lv_at hl 0 rfl) ?_
  refine lv_iload_n hx hb dX6_isBreached_1 rfl (lv_at hl 1 rfl) ?_
  refine g_cV C hS (fun _ h => h.elim) hM hl (fun _ h => h) (c_ticketNumbered hfl Γ _ _ _ (by assumption)) kX6_ticketNumbered t_908 (HM.recv C hM clo_6 (wn6 (by assumption))) dX6_isBreached_2 rfl rfl (Nat.le_of_ble_eq_true rfl) (by decide) rfl ⟨by decide, by decide⟩ (g_pass C ht (fun E h => xp_of 0 (by simp [rIsBreached, h.2]) h.1) (by decide) (by decide)) (fun H locs hc_2 hM hS => ?_)
  have hq_2 := (inN_ix hc_2 (by have := wn4 w; omega)).1
  refine lv_astore_n (lv' := [(2, _), (0, _), (1, _)]) hx hb dX6_isBreached_5 rfl hl (by decide) rfl (fun ls hl => ?_)
  refine lv_aload_n hx hb dX6_isBreached_6 rfl (lv_at hl 0 rfl) ?_
  refine g_cV C hS (fun _ h => h.elim) hM hl (fun _ h => h) (c_isOpenOrHeld hfl Γ _ _ _ (by assumption)) kX4_isOpenOrHeld t_949 (HM.recv C hM clo_4 (by assumption)) dX6_isBreached_7 rfl rfl (Nat.le_of_ble_eq_true rfl) (by decide) rfl ⟨by decide, by decide⟩ xNo_goes (fun H locs hc_7 hM hS => ?_)
  refine g_ifeqB (tgt := 24) hx hb dX6_isBreached_10 (by decide) (fun c_10 => ?_) (fun c_10 => ?_)
  · skip
    refine lv_iconst (v := 0) hx hb dX6_isBreached_24 (by decide) ?_
    exact g_zret C hr rfl hM hS dX6_isBreached_25 (by decide) (by decide) ⟨by simp [rIsBreached, hc_2, c_10], by simp [bI, hc_2, c_10], rfl, rfl⟩
  · skip
    refine lv_aload_n hx hb dX6_isBreached_13 rfl (lv_at hl 0 rfl) ?_
    refine g_getN C hM clo_4 8 (by decide) (by assumption) n_780 rfl (v := .int (mT _ 4 8 _)) rfl dX6_isBreached_14 ?_
    refine lv_if_eq (tgt := 24) hx hb dX6_isBreached_17 (by decide) (fun c_17 => ?_) (fun c_17 => ?_)
    · skip
      refine lv_iconst (v := 0) hx hb dX6_isBreached_24 (by decide) ?_
      exact g_zret C hr rfl hM hS dX6_isBreached_25 (by decide) (by decide) ⟨by simp [rIsBreached, hc_2, c_10, c_17], by simp [bI, hc_2, c_10, c_17], rfl, rfl⟩
    · skip
      refine lv_iconst (v := 1) hx hb dX6_isBreached_20 (by decide) ?_
      refine lv_goto (tgt := 25) hx hb dX6_isBreached_21 (by decide) ?_
      exact g_zret C hr rfl hM hS dX6_isBreached_25 (by decide) (by decide) ⟨by simp [rIsBreached, hc_2, c_10, c_17], by simp [bI, hc_2, c_10, c_17], rfl, rfl⟩

def rAgentOf (M : Mem) (x : Int32) : Nat := if inN x (mN M 4) = true then (if mP M 4 9 (ix x) = none then 2 else 0) else 1
set_option maxHeartbeats 4000000 in
set_option maxRecDepth 100000 in
theorem c_agentOf {l : Launch} (hfl : l.stackTraces = false) (Γ : Gm) (K : Nat → Nat → Nat) (M : Mem) (x : Int32) (w : Wf M) : CT l Γ pF yX6_agentOf (wsO yX6_agentOf cX6_agentOf 3 (some .int)) 8 [.ref (K 6 0), .int x] K M (DD (rAgentOf M x = 0) (some (.int (mT M 0 0 ((mP M 4 9 (ix x)).getD 0)))) K (M)) (XP ["java/lang/IndexOutOfBoundsException", "java/util/NoSuchElementException"] (rAgentOf M x)) 2 12 := by
  refine ct_intro hfl (by decide) (Nat.le_of_ble_eq_true rfl) ?_
  intro p e s m args below meth c C ht hr hnm hM ls hl
  have hx := C.1
  have hb := C.2.1
  have hS : va_S pF s.heap s.heap [] := va_S.rf
  have hl : lv_has ls 3 [(0, .ref (K 6 0)), (1, .int x)] := hl
  have hb4 := wn4 w
  have hb0 := wn0 w
  have hb2 := wn2 w
  refine lv_aload_n hx hb dX6_agentOf_0 rfl (lv_at hl 0 rfl) ?_
  refine lv_iload_n hx hb dX6_agentOf_1 rfl (lv_at hl 1 rfl) ?_
  refine g_cV C hS (fun _ h => h.elim) hM hl (fun _ h => h) (c_ticketNumbered hfl Γ _ _ _ (by assumption)) kX6_ticketNumbered t_908 (HM.recv C hM clo_6 (wn6 (by assumption))) dX6_agentOf_2 rfl rfl (Nat.le_of_ble_eq_true rfl) (by decide) rfl ⟨by decide, by decide⟩ (g_pass C ht (fun E h => xp_of 0 (by simp [rAgentOf, h.2]) h.1) (by decide) (by decide)) (fun H locs hc_2 hM hS => ?_)
  have hq_2 := (inN_ix hc_2 (by have := wn4 w; omega)).1
  rcases hp_5 : (mP M 4 9 (ix x)) with _ | q_5
  · refine g_getN C hM clo_4 9 (by decide) (by assumption) n_782 rfl (v := .null) (fvN rfl hp_5) dX6_agentOf_5 ?_
    refine lv_astore_nN (lv' := [(2, _), (0, _), (1, _)]) hx hb dX6_agentOf_8 rfl hl (by decide) rfl (fun ls hl => ?_)
    refine lv_aload_nN hx hb dX6_agentOf_9 rfl (lv_at hl 0 rfl) ?_
    refine lv_ifnonnullN hx hb dX6_agentOf_10 ?_
    exact g_throwE C ht (xp_of 1 (by simp [rAgentOf, hc_2, hp_5]) rfl) hM hS (fun _ h => h.elim) hl (strX_16) dX6_agentOf_13 dX6_agentOf_16 dX6_agentOf_17 dX6_agentOf_19 dX6_agentOf_22 rfl (Nat.le_of_ble_eq_true rfl) ⟨by decide, by decide⟩ (by decide) (by decide)
  · refine g_getN C hM clo_4 9 (by decide) (by assumption) n_782 rfl (v := _) (fvR rfl hp_5) dX6_agentOf_5 ?_
    refine lv_astore_n (lv' := [(2, _), (0, _), (1, _)]) hx hb dX6_agentOf_8 rfl hl (by decide) rfl (fun ls hl => ?_)
    refine lv_aload_n hx hb dX6_agentOf_9 rfl (lv_at hl 0 rfl) ?_
    refine lv_ifnonnull (tgt := 23) hx hb dX6_agentOf_10 (by decide) ?_
    refine lv_aload_n hx hb dX6_agentOf_23 rfl (lv_at hl 0 rfl) ?_
    refine g_getN C hM clo_0 0 (by decide) ((w.2.2.1 _ hq_2).2.2.2.2.1 _ hp_5) n_996 rfl (v := .int (mT _ 0 0 _)) rfl dX6_agentOf_24 ?_
    exact g_iret C hr hM hS dX6_agentOf_27 (by decide) (by decide) ⟨by simp [rAgentOf, hc_2, hp_5], rfl, rfl, rfl⟩

def rNextFor (M : Mem) (x : Int32) : Nat := if inN x (mN M 0) = true then (if nqN M (ix x) 6 = none then 2 else 0) else 1
set_option maxHeartbeats 4000000 in
set_option maxRecDepth 100000 in
theorem c_nextFor {l : Launch} (hfl : l.stackTraces = false) (Γ : Gm) (K : Nat → Nat → Nat) (M : Mem) (x : Int32) (w : Wf M) : CT l Γ pF yX6_nextFor (wsO yX6_nextFor cX6_nextFor 3 (some .int)) 8 [.ref (K 6 0), .int x] K M (DD (rNextFor M x = 0) (some (.int (mT M 4 0 ((nqN M (ix x) 6).getD 0)))) K (M)) (XP ["java/lang/IndexOutOfBoundsException", "java/util/NoSuchElementException"] (rNextFor M x)) 2 12 := by
  refine ct_intro hfl (by decide) (Nat.le_of_ble_eq_true rfl) ?_
  intro p e s m args below meth c C ht hr hnm hM ls hl
  have hx := C.1
  have hb := C.2.1
  have hS : va_S pF s.heap s.heap [] := va_S.rf
  have hl : lv_has ls 3 [(0, .ref (K 6 0)), (1, .int x)] := hl
  have hb4 := wn4 w
  have hb0 := wn0 w
  have hb2 := wn2 w
  refine lv_aload_n hx hb dX6_nextFor_0 rfl (lv_at hl 0 rfl) ?_
  refine lv_aload_n hx hb dX6_nextFor_1 rfl (lv_at hl 0 rfl) ?_
  refine lv_iload_n hx hb dX6_nextFor_2 rfl (lv_at hl 1 rfl) ?_
  refine g_cV C hS (fun _ h => h.elim) hM hl (fun _ h => h) (c_agentNumbered hfl Γ _ _ _ (by assumption)) kX6_agentNumbered t_1020 (HM.recv C hM clo_6 (wn6 (by assumption))) dX6_nextFor_3 rfl rfl (Nat.le_of_ble_eq_true rfl) (by decide) rfl ⟨by decide, by decide⟩ (g_pass C ht (fun E h => xp_of 0 (by simp [rNextFor, h.2]) h.1) (by decide) (by decide)) (fun H locs hc_3 hM hS => ?_)
  have hq_3 := (inN_ix hc_3 (by have := wn0 w; omega)).1
  refine g_cV C hS (fun _ h => h.elim) hM hl (fun _ h => h) (c_nextFromQueues hfl Γ _ _ _ (by assumption) (by assumption)) kX6_nextFromQueues t_208 (HM.recv C hM clo_6 (wn6 (by assumption))) dX6_nextFor_6 rfl rfl (Nat.le_of_ble_eq_true rfl) (by decide) rfl ⟨by decide, by decide⟩ xNo_goes (fun H locs hc_6 hM hS => ?_)
  generalize hr_6 : nqN M (ix x) 6 = r_6
  refine g_astore_nO (lv' := [(2, _), (0, _), (1, _)]) hx hb dX6_nextFor_9 rfl hl (by decide) rfl (fun ls hl => ?_)
  refine g_aload_nO hx hb dX6_nextFor_10 rfl (lv_at hl 0 rfl) ?_
  rcases r_6 with _ | r_6
  · skip
    refine lv_ifnonnullN hx hb dX6_nextFor_11 ?_
    exact g_throwE C ht (xp_of 1 (by simp [rNextFor, hc_3, hr_6]) rfl) hM hS (fun _ h => h.elim) hl (strX_17) dX6_nextFor_14 dX6_nextFor_17 dX6_nextFor_18 dX6_nextFor_20 dX6_nextFor_23 rfl (Nat.le_of_ble_eq_true rfl) ⟨by decide, by decide⟩ (by decide) (by decide)
  · skip
    refine lv_ifnonnull (tgt := 24) hx hb dX6_nextFor_11 (by decide) ?_
    refine lv_aload_n hx hb dX6_nextFor_24 rfl (lv_at hl 0 rfl) ?_
    refine g_getN C hM clo_4 0 (by decide) (nqN_lt w 6 (Nat.le_refl _) _ hr_6) n_764 rfl (v := .int (mT _ 4 0 _)) rfl dX6_nextFor_25 ?_
    exact g_iret C hr hM hS dX6_nextFor_28 (by decide) (by decide) ⟨by simp [rNextFor, hc_3, hr_6], rfl, rfl, rfl⟩

def rNextByTickets (M : Mem) (x : Int32) : Nat := if inN x (mN M 0) = true then (if ntN M (ix x) (mN M 4) = none then 2 else 0) else 1
set_option maxHeartbeats 4000000 in
set_option maxRecDepth 100000 in
theorem c_nextByTickets {l : Launch} (hfl : l.stackTraces = false) (Γ : Gm) (K : Nat → Nat → Nat) (M : Mem) (x : Int32) (w : Wf M) : CT l Γ pF yX6_nextByTickets (wsO yX6_nextByTickets cX6_nextByTickets 3 (some .int)) 8 [.ref (K 6 0), .int x] K M (DD (rNextByTickets M x = 0) (some (.int (mT M 4 0 ((ntN M (ix x) (mN M 4)).getD 0)))) K (M)) (XP ["java/lang/IndexOutOfBoundsException", "java/util/NoSuchElementException"] (rNextByTickets M x)) 2 12 := by
  refine ct_intro hfl (by decide) (Nat.le_of_ble_eq_true rfl) ?_
  intro p e s m args below meth c C ht hr hnm hM ls hl
  have hx := C.1
  have hb := C.2.1
  have hS : va_S pF s.heap s.heap [] := va_S.rf
  have hl : lv_has ls 3 [(0, .ref (K 6 0)), (1, .int x)] := hl
  have hb4 := wn4 w
  have hb0 := wn0 w
  have hb2 := wn2 w
  refine lv_aload_n hx hb dX6_nextByTickets_0 rfl (lv_at hl 0 rfl) ?_
  refine lv_aload_n hx hb dX6_nextByTickets_1 rfl (lv_at hl 0 rfl) ?_
  refine lv_iload_n hx hb dX6_nextByTickets_2 rfl (lv_at hl 1 rfl) ?_
  refine g_cV C hS (fun _ h => h.elim) hM hl (fun _ h => h) (c_agentNumbered hfl Γ _ _ _ (by assumption)) kX6_agentNumbered t_1020 (HM.recv C hM clo_6 (wn6 (by assumption))) dX6_nextByTickets_3 rfl rfl (Nat.le_of_ble_eq_true rfl) (by decide) rfl ⟨by decide, by decide⟩ (g_pass C ht (fun E h => xp_of 0 (by simp [rNextByTickets, h.2]) h.1) (by decide) (by decide)) (fun H locs hc_3 hM hS => ?_)
  have hq_3 := (inN_ix hc_3 (by have := wn0 w; omega)).1
  refine g_cV C hS (fun _ h => h.elim) hM hl (fun _ h => h) (c_nextFromTickets hfl Γ _ _ _ (by assumption) (by assumption)) kX6_nextFromTickets t_241 (HM.recv C hM clo_6 (wn6 (by assumption))) dX6_nextByTickets_6 rfl rfl (Nat.le_of_ble_eq_true rfl) (by decide) rfl ⟨by decide, by decide⟩ xNo_goes (fun H locs hc_6 hM hS => ?_)
  generalize hr_6 : ntN M (ix x) (mN M 4) = r_6
  refine g_astore_nO (lv' := [(2, _), (0, _), (1, _)]) hx hb dX6_nextByTickets_9 rfl hl (by decide) rfl (fun ls hl => ?_)
  refine g_aload_nO hx hb dX6_nextByTickets_10 rfl (lv_at hl 0 rfl) ?_
  rcases r_6 with _ | r_6
  · skip
    refine lv_ifnonnullN hx hb dX6_nextByTickets_11 ?_
    exact g_throwE C ht (xp_of 1 (by simp [rNextByTickets, hc_3, hr_6]) rfl) hM hS (fun _ h => h.elim) hl (strX_17) dX6_nextByTickets_14 dX6_nextByTickets_17 dX6_nextByTickets_18 dX6_nextByTickets_20 dX6_nextByTickets_23 rfl (Nat.le_of_ble_eq_true rfl) ⟨by decide, by decide⟩ (by decide) (by decide)
  · skip
    refine lv_ifnonnull (tgt := 24) hx hb dX6_nextByTickets_11 (by decide) ?_
    refine lv_aload_n hx hb dX6_nextByTickets_24 rfl (lv_at hl 0 rfl) ?_
    refine g_getN C hM clo_4 0 (by decide) (ntN_lt _ (Nat.le_refl _) _ hr_6) n_764 rfl (v := .int (mT _ 4 0 _)) rfl dX6_nextByTickets_25 ?_
    exact g_iret C hr hM hS dX6_nextByTickets_28 (by decide) (by decide) ⟨by simp [rNextByTickets, hc_3, hr_6], rfl, rfl, rfl⟩

theorem mail_tk {M : Mem} {i : Nat} (w : Wf M) (h : i < mN M 2) : ∃ t, mP M 2 1 i = some t ∧ t < mN M 4 := w.2.2.2.2.1 i h
def tkM (M : Mem) (i : Nat) : Nat := (mP M 2 1 i).getD 0
theorem tkM_eq {M : Mem} {i : Nat} (w : Wf M) (h : i < mN M 2) : mP M 2 1 i = some (tkM M i) ∧ tkM M i < mN M 4 := by
  obtain ⟨t, h1, h2⟩ := mail_tk w h
  unfold tkM
  rw [h1]
  exact ⟨rfl, h2⟩
theorem clen {M : Mem} {i : Nat} (w : Wf M) (hi : i < mN M 4) : (mL M 8 i).length ≤ 80 := (w.2.2.1 i hi).2.2.2.2.2.2.2.2
theorem cmem {M : Mem} {i q : Nat} (w : Wf M) (hi : i < mN M 4) (hq : q < (mL M 8 i).length) : (mL M 8 i).getD q 0 < mN M 2 := by
  refine (w.2.2.1 i hi).2.2.2.2.2.2.2.1 _ ?_
  rw [List.getD_eq_getElem?_getD, List.getElem?_eq_getElem hq]
  exact List.getElem_mem hq
