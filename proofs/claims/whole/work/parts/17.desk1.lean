theorem kX6_isAnswer : CeeV yX6_isAnswer RX6 cX6_isAnswer 2 (some .boolean) 1 := ⟨t_1153, s_21, t_1, t_1154, by decide +kernel, by decide⟩
theorem kX6_ticketNumbered : CeeV yX6_ticketNumbered RX6 cX6_ticketNumbered 2 (some (.object "TicketWeaver$Ticket")) 1 := ⟨t_910, s_18, t_1, t_911, by decide +kernel, by decide⟩
theorem kX6_agentNumbered : CeeV yX6_agentNumbered RX6 cX6_agentNumbered 2 (some (.object "TicketWeaver$Agent")) 1 := ⟨t_1022, s_19, t_1, t_1023, by decide +kernel, by decide⟩
theorem kX6_requireOpenOrHeld : CeeS yX6_requireOpenOrHeld cX6_requireOpenOrHeld 1 none 1 := ⟨t_947, t_1, t_948, by decide +kernel, by decide⟩
theorem kX6_leaveQueue : CeeV yX6_leaveQueue RX6 cX6_leaveQueue 2 none 1 := ⟨t_829, s_15, t_1, t_830, by decide +kernel, by decide⟩
theorem kX6_joinQueue : CeeV yX6_joinQueue RX6 cX6_joinQueue 2 none 1 := ⟨t_871, s_17, t_1, t_872, by decide +kernel, by decide⟩
theorem kX6_orderQueuesAnew : CeeV yX6_orderQueuesAnew RX6 cX6_orderQueuesAnew 2 none 0 := ⟨t_346, s_5, t_1, t_347, by decide +kernel, by decide⟩
theorem kX6_nextFromQueues : CeeV yX6_nextFromQueues RX6 cX6_nextFromQueues 4 (some (.object "TicketWeaver$Ticket")) 1 := ⟨t_210, s_2, t_1, t_211, by decide +kernel, by decide⟩
theorem kX6_nextFromTickets : CeeV yX6_nextFromTickets RX6 cX6_nextFromTickets 5 (some (.object "TicketWeaver$Ticket")) 1 := ⟨t_243, s_3, t_1, t_244, by decide +kernel, by decide⟩
theorem kX6_earlierOf : CeeS yX6_earlierOf cX6_earlierOf 2 (some (.object "TicketWeaver$Ticket")) 2 := ⟨t_231, t_1, t_232, by decide +kernel, by decide⟩
theorem kX6_giveAllBack : CeeV yX6_giveAllBack RX6 cX6_giveAllBack 4 none 1 := ⟨t_1056, s_20, t_1, t_1057, by decide +kernel, by decide⟩
theorem kX6_countAnswer : CeeV yX6_countAnswer RX6 cX6_countAnswer 2 none 1 := ⟨t_1159, s_22, t_1, t_1160, by decide +kernel, by decide⟩
theorem kX6_closedTickets : CeeV yX6_closedTickets RX6 cX6_closedTickets 3 (some .int) 0 := ⟨t_1176, s_23, t_1, t_1177, by decide +kernel, by decide⟩
set_option maxHeartbeats 4000000 in
set_option maxRecDepth 100000 in
theorem c_isAnswer {l : Launch} (hfl : l.stackTraces = false) (Γ : Gm) (K : Nat → Nat → Nat) (M : Mem) (x : Int32) (w : Wf M) : CT l Γ pF yX6_isAnswer (wsO yX6_isAnswer cX6_isAnswer 2 (some .boolean)) 1 [.ref (K 6 0), .int x] K M (DD True (some (.int (bI (inN x (mN M 3))))) K M) xNo 0 0 := by
  refine ct_intro hfl (by decide) (Nat.le_of_ble_eq_true rfl) ?_
  intro p e s m args below meth c C ht hr hnm hM ls hl
  have hx := C.1
  have hb := C.2.1
  have hS : va_S pF s.heap s.heap [] := va_S.rf
  have hl : lv_has ls 2 [(0, .ref (K 6 0)), (1, .int x)] := hl
  refine lv_iload_n hx hb dX6_isAnswer_0 rfl (lv_at hl 1 rfl) ?_
  refine lv_iconst (v := 0) hx hb dX6_isAnswer_1 (by decide) ?_
  refine lv_aload_n hx hb dX6_isAnswer_2 rfl (lv_at hl 0 rfl) ?_
  refine g_get C hM clo_6 6 (by decide) (wn6 (by assumption)) t_105 rfl (v := _) (fv4 rfl) dX6_isAnswer_3 ?_
  refine g_cV C hS (fun _ h => h.elim) hM hl (fun _ h => h) (c_size13 hfl Γ _ _ (by assumption)) kJx4a65c_size_8abf5 t_153 (HM.recvL C hM rfl (wn13 (by assumption))) dX6_isAnswer_6 rfl rfl (Nat.le_of_ble_eq_true rfl) (by decide) rfl ⟨by decide, by decide⟩ xNo_goes (fun H locs hc_6 hM hS => ?_)
  refine lv_iconst (v := 1) hx hb dX6_isAnswer_9 (by decide) ?_
  refine lv_isub hx hb dX6_isAnswer_10 ?_
  refine g_cS C hS (fun _ h => h.elim) hM hl (fun _ h => h) (c_isWithin hfl Γ _ _ _ _ _) kX6_isWithin t_257 dX6_isAnswer_11 rfl rfl (Nat.le_of_ble_eq_true rfl) (by decide) rfl ⟨by decide, by decide⟩ xNo_goes (fun H locs hc_11 hM hS => ?_)
  exact g_zret C hr (bI_narrow _) hM hS dX6_isAnswer_14 (by decide) (by decide) ⟨trivial, rfl, rfl, rfl⟩

set_option maxHeartbeats 4000000 in
set_option maxRecDepth 100000 in
theorem c_ticketNumbered {l : Launch} (hfl : l.stackTraces = false) (Γ : Gm) (K : Nat → Nat → Nat) (M : Mem) (x : Int32) (w : Wf M) : CT l Γ pF yX6_ticketNumbered (wsO yX6_ticketNumbered cX6_ticketNumbered 2 (some (.object "TicketWeaver$Ticket"))) 6 [.ref (K 6 0), .int x] K M (DD (inN x (mN M 4) = true) (some (.ref (K 4 (ix x)))) K M) (fun E => E = "java/lang/IndexOutOfBoundsException" ∧ inN x (mN M 4) = false) 1 6 := by
  refine ct_intro hfl (by decide) (Nat.le_of_ble_eq_true rfl) ?_
  intro p e s m args below meth c C ht hr hnm hM ls hl
  have hx := C.1
  have hb := C.2.1
  have hS : va_S pF s.heap s.heap [] := va_S.rf
  have hl : lv_has ls 2 [(0, .ref (K 6 0)), (1, .int x)] := hl
  have hb4 := wn4 w
  refine lv_iload_n hx hb dX6_ticketNumbered_0 rfl (lv_at hl 1 rfl) ?_
  refine lv_iconst (v := 0) hx hb dX6_ticketNumbered_1 (by decide) ?_
  refine lv_aload_n hx hb dX6_ticketNumbered_2 rfl (lv_at hl 0 rfl) ?_
  refine g_get C hM clo_6 4 (by decide) (wn6 (by assumption)) t_103 rfl (v := _) (fv4 rfl) dX6_ticketNumbered_3 ?_
  refine g_cV C hS (fun _ h => h.elim) hM hl (fun _ h => h) (c_size11 hfl Γ _ _ (by assumption)) kJx4a65c_size_8abf5 t_153 (HM.recvL C hM rfl (wn11 (by assumption))) dX6_ticketNumbered_6 rfl rfl (Nat.le_of_ble_eq_true rfl) (by decide) rfl ⟨by decide, by decide⟩ xNo_goes (fun H locs hc_6 hM hS => ?_)
  refine lv_iconst (v := 1) hx hb dX6_ticketNumbered_9 (by decide) ?_
  refine lv_isub hx hb dX6_ticketNumbered_10 ?_
  refine g_cS C hS (fun _ h => h.elim) hM hl (fun _ h => h) (c_isWithin hfl Γ _ _ _ _ _) kX6_isWithin t_257 dX6_ticketNumbered_11 rfl rfl (Nat.le_of_ble_eq_true rfl) (by decide) rfl ⟨by decide, by decide⟩ xNo_goes (fun H locs hc_11 hM hS => ?_)
  refine g_ifneB (tgt := 28) hx hb dX6_ticketNumbered_14 (by decide) (fun c_14 => ?_) (fun c_14 => ?_)
  · skip
    refine lv_aload_n hx hb dX6_ticketNumbered_28 rfl (lv_at hl 0 rfl) ?_
    refine g_get C hM clo_6 4 (by decide) (wn6 (by assumption)) t_103 rfl (v := _) (fv4 rfl) dX6_ticketNumbered_29 ?_
    refine lv_iload_n hx hb dX6_ticketNumbered_32 rfl (lv_at hl 1 rfl) ?_
    refine g_cV C hS (fun _ h => h.elim) hM hl (fun _ h => h) (c_get11 hfl Γ _ _ _ (by assumption) (by assumption)) kJx4a65c_get_915e3 t_181 (HM.recvL C hM rfl (wn11 (by assumption))) dX6_ticketNumbered_33 rfl rfl (Nat.le_of_ble_eq_true rfl) (by decide) rfl ⟨by decide, by decide⟩ xNo_goes (fun H locs hc_33 hM hS => ?_)
    refine g_chk C hM clo_4 (inN_ix (by assumption) (by omega)).1 t_195 dX6_ticketNumbered_36 ?_
    exact g_aretR C hr hM hS (Or.inl ⟨_, rfl⟩) dX6_ticketNumbered_39 (by decide) (by decide) ⟨by assumption, rfl, rfl, rfl⟩
  · skip
    exact g_throwW C ht ⟨rfl, by assumption⟩ hM hS (fun _ h => h.elim) hl thr_349 (strX_7) dX6_ticketNumbered_17 dX6_ticketNumbered_20 dX6_ticketNumbered_21 dX6_ticketNumbered_24 dX6_ticketNumbered_27 rfl (Nat.le_of_ble_eq_true rfl) ⟨by decide, by decide⟩ (by decide) (by decide)

set_option maxHeartbeats 4000000 in
set_option maxRecDepth 100000 in
theorem c_agentNumbered {l : Launch} (hfl : l.stackTraces = false) (Γ : Gm) (K : Nat → Nat → Nat) (M : Mem) (x : Int32) (w : Wf M) : CT l Γ pF yX6_agentNumbered (wsO yX6_agentNumbered cX6_agentNumbered 2 (some (.object "TicketWeaver$Agent"))) 6 [.ref (K 6 0), .int x] K M (DD (inN x (mN M 0) = true) (some (.ref (K 0 (ix x)))) K M) (fun E => E = "java/lang/IndexOutOfBoundsException" ∧ inN x (mN M 0) = false) 1 6 := by
  refine ct_intro hfl (by decide) (Nat.le_of_ble_eq_true rfl) ?_
  intro p e s m args below meth c C ht hr hnm hM ls hl
  have hx := C.1
  have hb := C.2.1
  have hS : va_S pF s.heap s.heap [] := va_S.rf
  have hl : lv_has ls 2 [(0, .ref (K 6 0)), (1, .int x)] := hl
  have hb4 := wn0 w
  refine lv_iload_n hx hb dX6_agentNumbered_0 rfl (lv_at hl 1 rfl) ?_
  refine lv_iconst (v := 0) hx hb dX6_agentNumbered_1 (by decide) ?_
  refine lv_aload_n hx hb dX6_agentNumbered_2 rfl (lv_at hl 0 rfl) ?_
  refine g_get C hM clo_6 5 (by decide) (wn6 (by assumption)) t_104 rfl (v := _) (fv4 rfl) dX6_agentNumbered_3 ?_
  refine g_cV C hS (fun _ h => h.elim) hM hl (fun _ h => h) (c_size12 hfl Γ _ _ (by assumption)) kJx4a65c_size_8abf5 t_153 (HM.recvL C hM rfl (wn12 (by assumption))) dX6_agentNumbered_6 rfl rfl (Nat.le_of_ble_eq_true rfl) (by decide) rfl ⟨by decide, by decide⟩ xNo_goes (fun H locs hc_6 hM hS => ?_)
  refine lv_iconst (v := 1) hx hb dX6_agentNumbered_9 (by decide) ?_
  refine lv_isub hx hb dX6_agentNumbered_10 ?_
  refine g_cS C hS (fun _ h => h.elim) hM hl (fun _ h => h) (c_isWithin hfl Γ _ _ _ _ _) kX6_isWithin t_257 dX6_agentNumbered_11 rfl rfl (Nat.le_of_ble_eq_true rfl) (by decide) rfl ⟨by decide, by decide⟩ xNo_goes (fun H locs hc_11 hM hS => ?_)
  refine g_ifneB (tgt := 28) hx hb dX6_agentNumbered_14 (by decide) (fun c_14 => ?_) (fun c_14 => ?_)
  · skip
    refine lv_aload_n hx hb dX6_agentNumbered_28 rfl (lv_at hl 0 rfl) ?_
    refine g_get C hM clo_6 5 (by decide) (wn6 (by assumption)) t_104 rfl (v := _) (fv4 rfl) dX6_agentNumbered_29 ?_
    refine lv_iload_n hx hb dX6_agentNumbered_32 rfl (lv_at hl 1 rfl) ?_
    refine g_cV C hS (fun _ h => h.elim) hM hl (fun _ h => h) (c_get12 hfl Γ _ _ _ (by assumption) (by assumption)) kJx4a65c_get_915e3 t_181 (HM.recvL C hM rfl (wn12 (by assumption))) dX6_agentNumbered_33 rfl rfl (Nat.le_of_ble_eq_true rfl) (by decide) rfl ⟨by decide, by decide⟩ xNo_goes (fun H locs hc_33 hM hS => ?_)
    refine g_chk C hM clo_0 (inN_ix (by assumption) (by omega)).1 t_207 dX6_agentNumbered_36 ?_
    exact g_aretR C hr hM hS (Or.inl ⟨_, rfl⟩) dX6_agentNumbered_39 (by decide) (by decide) ⟨by assumption, rfl, rfl, rfl⟩
  · skip
    exact g_throwW C ht ⟨rfl, by assumption⟩ hM hS (fun _ h => h.elim) hl thr_349 (strX_14) dX6_agentNumbered_17 dX6_agentNumbered_20 dX6_agentNumbered_21 dX6_agentNumbered_24 dX6_agentNumbered_27 rfl (Nat.le_of_ble_eq_true rfl) ⟨by decide, by decide⟩ (by decide) (by decide)

set_option maxHeartbeats 4000000 in
set_option maxRecDepth 100000 in
theorem c_requireOpenOrHeld {l : Launch} (hfl : l.stackTraces = false) (Γ : Gm) (K : Nat → Nat → Nat) (M : Mem) (i : Nat) (hi : i < mN M 4) : CT l Γ pF yX6_requireOpenOrHeld (wsO yX6_requireOpenOrHeld cX6_requireOpenOrHeld 1 none) 6 [.ref (K 4 i)] K M (DD (ohM M i = true) none K M) (fun E => E = "java/lang/IllegalStateException" ∧ ohM M i = false) 1 6 := by
  refine ct_intro hfl (by decide) (Nat.le_of_ble_eq_true rfl) ?_
  intro p e s m args below meth c C ht hr hnm hM ls hl
  have hx := C.1
  have hb := C.2.1
  have hS : va_S pF s.heap s.heap [] := va_S.rf
  have hl : lv_has ls 1 [(0, .ref (K 4 i))] := hl
  refine lv_aload_n hx hb dX6_requireOpenOrHeld_0 rfl (lv_at hl 0 rfl) ?_
  refine g_cV C hS (fun _ h => h.elim) hM hl (fun _ h => h) (c_isOpenOrHeld hfl Γ _ _ _ (by assumption)) kX4_isOpenOrHeld t_949 (HM.recv C hM clo_4 (by assumption)) dX6_requireOpenOrHeld_1 rfl rfl (Nat.le_of_ble_eq_true rfl) (by decide) rfl ⟨by decide, by decide⟩ xNo_goes (fun H locs hc_1 hM hS => ?_)
  refine g_ifneB (tgt := 18) hx hb dX6_requireOpenOrHeld_4 (by decide) (fun c_4 => ?_) (fun c_4 => ?_)
  · skip
    exact g_vret C hr hM hS dX6_requireOpenOrHeld_18 (by decide) (by decide) ⟨by assumption, rfl, rfl, rfl⟩
  · skip
    exact g_throwW C ht ⟨rfl, by assumption⟩ hM hS (fun _ h => h.elim) hl thr_122 (strX_11) dX6_requireOpenOrHeld_7 dX6_requireOpenOrHeld_10 dX6_requireOpenOrHeld_11 dX6_requireOpenOrHeld_14 dX6_requireOpenOrHeld_17 rfl (Nat.le_of_ble_eq_true rfl) ⟨by decide, by decide⟩ (by decide) (by decide)

def lqM (M : Mem) (i : Nat) : Mem := qremM M (toM M i) i
def jqM (M : Mem) (i : Nat) : Mem := if waM M i = true then qinsM M (toM M i) (mL M 9 (toM M i)).length i else M
theorem wf_lq {M : Mem} {i : Nat} (w : Wf M) (hi : i < mN M 4) : Wf (lqM M i) := wf_qrem w (w.2.2.1 i hi).2.2.2.1
theorem wf_jq {M : Mem} {i : Nat} (w : Wf M) (hi : i < mN M 4) (hn : waM M i = true → i ∉ mL M 9 (toM M i)) : Wf (jqM M i) := by
  unfold jqM
  split
  · rename_i h; exact wf_qins w (w.2.2.1 i hi).2.2.2.1 hi (hn h)
  · exact w
set_option maxHeartbeats 4000000 in
set_option maxRecDepth 100000 in
theorem c_leaveQueue {l : Launch} (hfl : l.stackTraces = false) (Γ : Gm) (K : Nat → Nat → Nat) (M : Mem) (i : Nat) (w : Wf M) (hi : i < mN M 4) : CT l Γ (gFree Γ) yX6_leaveQueue (wsO yX6_leaveQueue cX6_leaveQueue 2 none) 5 [.ref (K 6 0), .ref (K 4 i)] K M (DD True none K (lqM M i)) xNo 0 0 := by
  refine ct_intro hfl (by decide) (Nat.le_of_ble_eq_true rfl) ?_
  intro p e s m args below meth c C ht hr hnm hM ls hl
  have hx := C.1
  have hb := C.2.1
  have hS : va_S (gFree Γ) s.heap s.heap [] := va_S.rf
  have hl : lv_has ls 2 [(0, .ref (K 6 0)), (1, .ref (K 4 i))] := hl
  have h1 := w.2.2.1 i hi
  refine lv_aload_n hx hb dX6_leaveQueue_0 rfl (lv_at hl 0 rfl) ?_
  refine g_get C hM clo_6 2 (by decide) (wn6 w) t_101 rfl (v := _) (fv4 rfl) dX6_leaveQueue_1 ?_
  refine lv_aload_n hx hb dX6_leaveQueue_4 rfl (lv_at hl 1 rfl) ?_
  refine g_getN C hM clo_4 4 (by decide) hi n_772 rfl (v := .int (mT _ 4 4 _)) rfl dX6_leaveQueue_5 ?_
  refine g_aldR (k := 19) C hM rfl rfl rfl (wn19 w) _ h1.2.2.1 h1.2.2.2.1 (by decide) dX6_leaveQueue_8 ?_
  refine lv_aload_n hx hb dX6_leaveQueue_9 rfl (lv_at hl 1 rfl) ?_
  refine g_cV C hS (fun _ h => h) hM hl (fun _ h => h) (c_qremove hfl Γ _ _ (toM M i) i w h1.2.2.2.1 hi) kX5_remove t_831 (HM.recv C hM clo_5 (wq5 w h1.2.2.2.1)) dX6_leaveQueue_10 rfl rfl (Nat.le_of_ble_eq_true rfl) (by decide) rfl ⟨by decide, by decide⟩ xNo_goes (fun H locs hc_10 hM hS => ?_)
  exact g_vret C hr hM hS dX6_leaveQueue_13 (by decide) (by decide) ⟨trivial, rfl, rfl, rfl⟩

set_option maxHeartbeats 4000000 in
set_option maxRecDepth 100000 in
theorem c_joinQueue {l : Launch} (hfl : l.stackTraces = false) (Γ : Gm) (K : Nat → Nat → Nat) (M : Mem) (i : Nat) (w : Wf M) (hi : i < mN M 4) : CT l Γ (gFree Γ) yX6_joinQueue (wsO yX6_joinQueue cX6_joinQueue 2 none) 9 [.ref (K 6 0), .ref (K 4 i)] K M (DD True none K (jqM M i)) xNo 1 120 := by
  refine ct_intro hfl (by decide) (Nat.le_of_ble_eq_true rfl) ?_
  intro p e s m args below meth c C ht hr hnm hM ls hl
  have hx := C.1
  have hb := C.2.1
  have hS : va_S (gFree Γ) s.heap s.heap [] := va_S.rf
  have hl : lv_has ls 2 [(0, .ref (K 6 0)), (1, .ref (K 4 i))] := hl
  have h1 := w.2.2.1 i hi
  refine lv_aload_n hx hb dX6_joinQueue_0 rfl (lv_at hl 1 rfl) ?_
  refine g_cV C hS (fun _ h => h) hM hl (fun _ h => h.elim) (c_isWaiting hfl Γ _ _ _ (by assumption)) kX4_isWaiting t_245 (HM.recv C hM clo_4 (by assumption)) dX6_joinQueue_1 rfl rfl (Nat.le_of_ble_eq_true rfl) (by decide) rfl ⟨by decide, by decide⟩ xNo_goes (fun H locs hc_1 hM hS => ?_)
  refine g_ifeqB (tgt := 20) hx hb dX6_joinQueue_4 (by decide) (fun c_4 => ?_) (fun c_4 => ?_)
  · skip
    exact g_vret C hr hM hS dX6_joinQueue_20 (by decide) (by decide) ⟨trivial, rfl, rfl, by rw [jqM, c_4]; rfl⟩
  · skip
    refine lv_aload_n hx hb dX6_joinQueue_7 rfl (lv_at hl 0 rfl) ?_
    refine g_get C hM clo_6 2 (by decide) (wn6 w) t_101 rfl (v := _) (fv4 rfl) dX6_joinQueue_8 ?_
    refine lv_aload_n hx hb dX6_joinQueue_11 rfl (lv_at hl 1 rfl) ?_
    refine g_getN C hM clo_4 4 (by decide) hi n_772 rfl (v := .int (mT _ 4 4 _)) rfl dX6_joinQueue_12 ?_
    refine g_aldR (k := 19) C hM rfl rfl rfl (wn19 w) _ h1.2.2.1 h1.2.2.2.1 (by decide) dX6_joinQueue_15 ?_
    refine lv_aload_n hx hb dX6_joinQueue_16 rfl (lv_at hl 1 rfl) ?_
    refine g_cV C hS (fun _ h => h) hM hl (fun _ h => h) (c_qadd hfl Γ _ _ (toM M i) i w h1.2.2.2.1 hi) kX5_add t_873 (HM.recv C hM clo_5 (wq5 w h1.2.2.2.1)) dX6_joinQueue_17 rfl rfl (Nat.le_of_ble_eq_true rfl) (by decide) rfl ⟨by decide, by decide⟩ xNo_goes (fun H locs hc_17 hM hS => ?_)
    exact g_vret C hr hM hS dX6_joinQueue_20 (by decide) (by decide) ⟨trivial, rfl, rfl, by rw [jqM, c_4]; rfl⟩

def oqN (M : Mem) : Nat → Mem
  | 0 => M
  | n + 1 => oaM (oqN M n) n
theorem wf_oaN {M : Mem} {q : Nat} (w : Wf M) (hq : q < 6) : ∀ n, n ≤ (mL M 9 q).length - 1 → Wf (oaN M q n) ∧ (mL (oaN M q n) 9 q).Perm (mL M 9 q)
  | 0, _ => ⟨w, List.Perm.refl _⟩
  | n + 1, h => by
    obtain ⟨h1, h2⟩ := wf_oaN w hq n (by omega)
    have h3 := h2.length_eq
    exact ⟨wf_oaS h1 hq (by omega), (oaS_perm (by omega)).trans h2⟩
theorem wf_oa {M : Mem} {q : Nat} (w : Wf M) (hq : q < 6) : Wf (oaM M q) := (wf_oaN w hq _ (Nat.le_refl _)).1
theorem wf_oq {M : Mem} (w : Wf M) : ∀ n, n ≤ 6 → Wf (oqN M n)
  | 0, _ => w
  | n + 1, h => wf_oa (wf_oq w n (by omega)) (by omega)
set_option maxHeartbeats 4000000 in
set_option maxRecDepth 100000 in
theorem c_orderQueuesAnew {l : Launch} (hfl : l.stackTraces = false) (Γ : Gm) (K : Nat → Nat → Nat) (M : Mem)  (w : Wf M) : CT l Γ (gFree Γ) yX6_orderQueuesAnew (wsO yX6_orderQueuesAnew cX6_orderQueuesAnew 2 none) 9 [.ref (K 6 0)] K M (DD True none K (oqN M 6)) xNo 0 0 := by
  refine ct_intro hfl (by decide) (Nat.le_of_ble_eq_true rfl) ?_
  intro p e s m args below meth c C ht hr hnm hM ls hl
  have hx := C.1
  have hb := C.2.1
  have hS : va_S (gFree Γ) s.heap s.heap [] := va_S.rf
  have hl : lv_has ls 2 [(0, .ref (K 6 0))] := hl
  refine lv_iconst (v := 0) hx hb dX6_orderQueuesAnew_0 (by decide) ?_
  refine lv_istore_n (lv' := [(1, _), (0, _)]) hx hb dX6_orderQueuesAnew_1 rfl hl (by decide) rfl (fun ls hl => ?_)
  suffices K2 : ∀ (n9 : Nat) (n : Nat), 6 - n < n9 → (Wf (oqN M n)) → (n ≤ 6) → ∀ (H : Heap) (locs : List Loc) (ls : Array Slot), HM Γ K (oqN M n) H → va_S (gFree Γ) s.heap H locs → lv_has ls 2 [(0, .ref (K 6 0)), (1, .int (nI n))] → W p l e (rmL 9 0 0) s m args below meth c H locs 0 0 (vx_MQ below (cQ Γ (gFree Γ) (DD True none K (oqN M 6))) (cX Γ (gFree Γ) K M xNo) args s 0 0 (gFree Γ)) (F0 m 2 ls []) by
    exact K2 _ 0 (Nat.lt_succ_self _) w (Nat.zero_le _) _ _ _ hM hS (lv_sub hl [1, 0] rfl)
  intro n9
  induction n9 with
  | zero => intro n h9; exact absurd h9 (Nat.not_lt_zero _)
  | succ n9 ih =>
    intro n h9 wz hn H locs ls hM hS hl
    refine lv_iload_n hx hb dX6_orderQueuesAnew_2 rfl (lv_at hl 1 rfl) ?_
    refine lv_bipush (v := 6) hx hb dX6_orderQueuesAnew_3 (by decide) ?_
    refine g_icmp_ge (tgt := 23) hx hb dX6_orderQueuesAnew_5 (by decide) (fun c_5 => ?_) (fun c_5 => ?_)
    · skip
      exact g_vret C hr hM hS dX6_orderQueuesAnew_23 (by decide) (by decide) ⟨trivial, rfl, rfl, congrArg (oqN M) (by have := (not_congr (nI_ltI (a := n) (b := 6) (by omega) (by omega))).mp c_5; omega)⟩
    · skip
      have h6 : n < 6 := (nI_ltI (b := 6) (by omega) (by omega)).mp c_5
      refine lv_aload_n hx hb dX6_orderQueuesAnew_8 rfl (lv_at hl 0 rfl) ?_
      refine g_get C hM clo_6 2 (by decide) (wn6 wz) t_101 rfl (v := _) (fv4 rfl) dX6_orderQueuesAnew_9 ?_
      refine lv_iload_n hx hb dX6_orderQueuesAnew_12 rfl (lv_at hl 1 rfl) ?_
      refine g_aldR (k := 19) C hM rfl rfl rfl (wn19 wz) n rfl h6 (by decide) dX6_orderQueuesAnew_13 ?_
      refine g_cV C hS (fun _ h => h) hM hl (fun _ h => h) (c_orderAnew hfl Γ _ _ n wz h6) kX5_orderAnew t_348 (HM.recv C hM clo_5 (wq5 wz h6)) dX6_orderQueuesAnew_14 rfl rfl (Nat.le_of_ble_eq_true rfl) (by decide) rfl ⟨by decide, by decide⟩ xNo_goes (fun H locs hc_14 hM hS => ?_)
      refine lv_iinc (k := 1) (v := nI (n + 1)) (lv' := [(1, _), (0, _)]) hx hb dX6_orderQueuesAnew_17 hl rfl (nI_1 n) (by decide) rfl (fun ls hl => ?_)
      refine lv_goto (tgt := 2) hx hb dX6_orderQueuesAnew_20 (by decide) ?_
      exact ih (n + 1) (by omega) (wf_oq w (n + 1) h6) h6 _ _ _ hM hS (lv_sub hl [1, 0] rfl)

def earM (M : Mem) : Option Nat → Option Nat → Option Nat
  | none, o => o
  | some a, none => some a
  | some a, some b => if befM M b a = true then some b else some a
set_option maxHeartbeats 4000000 in
set_option maxRecDepth 100000 in
theorem c_earlier00 {l : Launch} (hfl : l.stackTraces = false) (Γ : Gm) (K : Nat → Nat → Nat) (M : Mem)  : CT l Γ pF yX6_earlierOf (wsO yX6_earlierOf cX6_earlierOf 2 (some (.object "TicketWeaver$Ticket"))) 2 [.null, .null] K M (DD True (some (va_rf ((earM M none none).map (K 4)))) K M) xNo 0 0 := by
  refine ct_intro hfl (by decide) (Nat.le_of_ble_eq_true rfl) ?_
  intro p e s m args below meth c C ht hr hnm hM ls hl
  have hx := C.1
  have hb := C.2.1
  have hS : va_S pF s.heap s.heap [] := va_S.rf
  have hl : lv_has ls 2 [(0, .null), (1, .null)] := hl
  refine lv_aload_nN hx hb dX6_earlierOf_0 rfl (lv_at hl 0 rfl) ?_
  refine lv_ifnonnullN hx hb dX6_earlierOf_1 ?_
  refine lv_aload_nN hx hb dX6_earlierOf_4 rfl (lv_at hl 1 rfl) ?_
  exact g_aretN C hr hM hS (Or.inl ⟨_, rfl⟩) dX6_earlierOf_5 (by decide) (by decide) ⟨trivial, rfl, rfl, rfl⟩

set_option maxHeartbeats 4000000 in
set_option maxRecDepth 100000 in
theorem c_earlier01 {l : Launch} (hfl : l.stackTraces = false) (Γ : Gm) (K : Nat → Nat → Nat) (M : Mem) (t2 : Nat) : CT l Γ pF yX6_earlierOf (wsO yX6_earlierOf cX6_earlierOf 2 (some (.object "TicketWeaver$Ticket"))) 2 [.null, .ref (K 4 t2)] K M (DD True (some (va_rf ((earM M none (some t2)).map (K 4)))) K M) xNo 0 0 := by
  refine ct_intro hfl (by decide) (Nat.le_of_ble_eq_true rfl) ?_
  intro p e s m args below meth c C ht hr hnm hM ls hl
  have hx := C.1
  have hb := C.2.1
  have hS : va_S pF s.heap s.heap [] := va_S.rf
  have hl : lv_has ls 2 [(0, .null), (1, .ref (K 4 t2))] := hl
  refine lv_aload_nN hx hb dX6_earlierOf_0 rfl (lv_at hl 0 rfl) ?_
  refine lv_ifnonnullN hx hb dX6_earlierOf_1 ?_
  refine lv_aload_n hx hb dX6_earlierOf_4 rfl (lv_at hl 1 rfl) ?_
  exact g_aretR C hr hM hS (Or.inl ⟨_, rfl⟩) dX6_earlierOf_5 (by decide) (by decide) ⟨trivial, rfl, rfl, rfl⟩

set_option maxHeartbeats 4000000 in
set_option maxRecDepth 100000 in
theorem c_earlier10 {l : Launch} (hfl : l.stackTraces = false) (Γ : Gm) (K : Nat → Nat → Nat) (M : Mem) (t1 : Nat) : CT l Γ pF yX6_earlierOf (wsO yX6_earlierOf cX6_earlierOf 2 (some (.object "TicketWeaver$Ticket"))) 2 [.ref (K 4 t1), .null] K M (DD True (some (va_rf ((earM M (some t1) none).map (K 4)))) K M) xNo 0 0 := by
  refine ct_intro hfl (by decide) (Nat.le_of_ble_eq_true rfl) ?_
  intro p e s m args below meth c C ht hr hnm hM ls hl
  have hx := C.1
  have hb := C.2.1
  have hS : va_S pF s.heap s.heap [] := va_S.rf
  have hl : lv_has ls 2 [(0, .ref (K 4 t1)), (1, .null)] := hl
  refine lv_aload_n hx hb dX6_earlierOf_0 rfl (lv_at hl 0 rfl) ?_
  refine lv_ifnonnull (tgt := 6) hx hb dX6_earlierOf_1 (by decide) ?_
  refine lv_aload_nN hx hb dX6_earlierOf_6 rfl (lv_at hl 1 rfl) ?_
  refine lv_ifnonnullN hx hb dX6_earlierOf_7 ?_
  refine lv_aload_n hx hb dX6_earlierOf_10 rfl (lv_at hl 0 rfl) ?_
  exact g_aretR C hr hM hS (Or.inl ⟨_, rfl⟩) dX6_earlierOf_11 (by decide) (by decide) ⟨trivial, rfl, rfl, rfl⟩

set_option maxHeartbeats 4000000 in
set_option maxRecDepth 100000 in
theorem c_earlier11 {l : Launch} (hfl : l.stackTraces = false) (Γ : Gm) (K : Nat → Nat → Nat) (M : Mem) (t1 t2 : Nat) (w : Wf M) (h1 : t1 < mN M 4) (h2 : t2 < mN M 4) : CT l Γ pF yX6_earlierOf (wsO yX6_earlierOf cX6_earlierOf 2 (some (.object "TicketWeaver$Ticket"))) 2 [.ref (K 4 t1), .ref (K 4 t2)] K M (DD True (some (va_rf ((earM M (some t1) (some t2)).map (K 4)))) K M) xNo 0 0 := by
  refine ct_intro hfl (by decide) (Nat.le_of_ble_eq_true rfl) ?_
  intro p e s m args below meth c C ht hr hnm hM ls hl
  have hx := C.1
  have hb := C.2.1
  have hS : va_S pF s.heap s.heap [] := va_S.rf
  have hl : lv_has ls 2 [(0, .ref (K 4 t1)), (1, .ref (K 4 t2))] := hl
  refine lv_aload_n hx hb dX6_earlierOf_0 rfl (lv_at hl 0 rfl) ?_
  refine lv_ifnonnull (tgt := 6) hx hb dX6_earlierOf_1 (by decide) ?_
  refine lv_aload_n hx hb dX6_earlierOf_6 rfl (lv_at hl 1 rfl) ?_
  refine lv_ifnonnull (tgt := 12) hx hb dX6_earlierOf_7 (by decide) ?_
  refine lv_aload_n hx hb dX6_earlierOf_12 rfl (lv_at hl 1 rfl) ?_
  refine lv_aload_n hx hb dX6_earlierOf_13 rfl (lv_at hl 0 rfl) ?_
  refine g_cV C hS (fun _ h => h.elim) hM hl (fun _ h => h) (c_isBefore hfl Γ _ _ _ _ w h2 h1) kX4_isBefore t_233 (HM.recv C hM clo_4 h2) dX6_earlierOf_14 rfl rfl (Nat.le_of_ble_eq_true rfl) (by decide) rfl ⟨by decide, by decide⟩ xNo_goes (fun H locs hc_14 hM hS => ?_)
  refine g_ifeqB (tgt := 24) hx hb dX6_earlierOf_17 (by decide) (fun c_17 => ?_) (fun c_17 => ?_)
  · skip
    refine lv_aload_n hx hb dX6_earlierOf_24 rfl (lv_at hl 0 rfl) ?_
    exact g_aretR C hr hM hS (Or.inl ⟨_, rfl⟩) dX6_earlierOf_25 (by decide) (by decide) ⟨trivial, by rw [earM, c_17]; rfl, rfl, rfl⟩
  · skip
    refine lv_aload_n hx hb dX6_earlierOf_20 rfl (lv_at hl 1 rfl) ?_
    refine lv_goto (tgt := 25) hx hb dX6_earlierOf_21 (by decide) ?_
    exact g_aretR C hr hM hS (Or.inl ⟨_, rfl⟩) dX6_earlierOf_25 (by decide) (by decide) ⟨trivial, by rw [earM, c_17]; rfl, rfl, rfl⟩

theorem c_earlierOf {l : Launch} (hfl : l.stackTraces = false) (Γ : Gm) (K : Nat → Nat → Nat) (M : Mem) (o1 o2 : Option Nat) (w : Wf M) (h1 : ∀ t, o1 = some t → t < mN M 4) (h2 : ∀ t, o2 = some t → t < mN M 4) : CT l Γ pF yX6_earlierOf (wsO yX6_earlierOf cX6_earlierOf 2 (some (.object "TicketWeaver$Ticket"))) 2 [va_rf (o1.map (K 4)), va_rf (o2.map (K 4))] K M (DD True (some (va_rf ((earM M o1 o2).map (K 4)))) K M) xNo 0 0 := by
  rcases o1 with _ | t1 <;> rcases o2 with _ | t2
  · exact c_earlier00 hfl Γ K M
  · exact c_earlier01 hfl Γ K M t2
  · exact c_earlier10 hfl Γ K M t1
  · exact c_earlier11 hfl Γ K M t1 t2 w (h1 _ rfl) (h2 _ rfl)
theorem hdM_lt {M : Mem} {q : Nat} (w : Wf M) (hq : q < 6) : ∀ t, hdM M q = some t → t < mN M 4 := by
  intro t h
  unfold hdM at h
  split at h
  · cases h
  · rename_i h0
    cases h
    exact getD_lt w hq (List.length_pos_iff.mpr (by simpa using h0))
theorem earM_lt {M : Mem} {n : Nat} {o1 o2 : Option Nat} (h1 : ∀ t, o1 = some t → t < n) (h2 : ∀ t, o2 = some t → t < n) : ∀ t, earM M o1 o2 = some t → t < n := by
  intro t h
  unfold earM at h
  split at h
  · exact h2 t h
  · exact h1 t h
  · split at h
    · exact h2 t h
    · exact h1 t h
def nqN (M : Mem) (a : Nat) : Nat → Option Nat
  | 0 => none
  | n + 1 => if caM M a (nI n) = true then earM M (nqN M a n) (hdM M n) else nqN M a n
theorem nqN_lt {M : Mem} {a : Nat} (w : Wf M) : ∀ n, n ≤ 6 → ∀ t, nqN M a n = some t → t < mN M 4
  | 0, _, t, h => nomatch h
  | n + 1, hn, t, h => by
    unfold nqN at h
    split at h
    · exact earM_lt (nqN_lt w n (by omega)) (hdM_lt w (by omega)) t h
    · exact nqN_lt w n (by omega) t h
def ntN (M : Mem) (a : Nat) : Nat → Option Nat
  | 0 => none
  | n + 1 => if (waM M n && caM M a (mT M 4 4 n)) = true then earM M (ntN M a n) (some n) else ntN M a n
theorem ntN_lt {M : Mem} {a : Nat} : ∀ n, n ≤ mN M 4 → ∀ t, ntN M a n = some t → t < mN M 4
  | 0, _, t, h => nomatch h
  | n + 1, hn, t, h => by
    unfold ntN at h
    split at h
    · exact earM_lt (ntN_lt n (by omega)) (fun t h => by cases h; omega) t h
    · exact ntN_lt n (by omega) t h
set_option maxHeartbeats 4000000 in
set_option maxRecDepth 100000 in
theorem c_nextFromQueues {l : Launch} (hfl : l.stackTraces = false) (Γ : Gm) (K : Nat → Nat → Nat) (M : Mem) (a : Nat) (w : Wf M) (ha : a < mN M 0) : CT l Γ pF yX6_nextFromQueues (wsO yX6_nextFromQueues cX6_nextFromQueues 4 (some (.object "TicketWeaver$Ticket"))) 5 [.ref (K 6 0), .ref (K 0 a)] K M (DD True (some (va_rf ((nqN M a 6).map (K 4)))) K M) xNo 0 0 := by
  refine ct_intro hfl (by decide) (Nat.le_of_ble_eq_true rfl) ?_
  intro p e s m args below meth c C ht hr hnm hM ls hl
  have hx := C.1
  have hb := C.2.1
  have hS : va_S pF s.heap s.heap [] := va_S.rf
  have hl : lv_has ls 4 [(0, .ref (K 6 0)), (1, .ref (K 0 a))] := hl
  refine lv_null hx hb dX6_nextFromQueues_0 ?_
  refine lv_astore_nN (lv' := [(2, _), (0, _), (1, _)]) hx hb dX6_nextFromQueues_1 rfl hl (by decide) rfl (fun ls hl => ?_)
  refine lv_iconst (v := 0) hx hb dX6_nextFromQueues_2 (by decide) ?_
  refine lv_istore_n (lv' := [(3, _), (2, _), (0, _), (1, _)]) hx hb dX6_nextFromQueues_3 rfl hl (by decide) rfl (fun ls hl => ?_)
  suffices K4 : ∀ (n9 : Nat) (n : Nat), 6 - n < n9 → (n ≤ 6) → ∀ (H : Heap) (locs : List Loc) (ls : Array Slot), HM Γ K M H → va_S pF s.heap H locs → lv_has ls 4 [(0, .ref (K 6 0)), (1, .ref (K 0 a)), (2, va_rf ((nqN M a n).map (K 4))), (3, .int (nI n))] → W p l e (rmL 5 0 0) s m args below meth c H locs 0 0 (vx_MQ below (cQ Γ pF (DD True (some (va_rf ((nqN M a 6).map (K 4)))) K M)) (cX Γ pF K M xNo) args s 0 0 pF) (F0 m 4 ls []) by
    exact K4 _ 0 (Nat.lt_succ_self _) (Nat.zero_le _) _ _ _ hM hS (lv_sub hl [2, 3, 1, 0] rfl)
  intro n9
  induction n9 with
  | zero => intro n h9; exact absurd h9 (Nat.not_lt_zero _)
  | succ n9 ih =>
    intro n h9 hn H locs ls hM hS hl
    refine lv_iload_n hx hb dX6_nextFromQueues_4 rfl (lv_at hl 3 rfl) ?_
    refine lv_bipush (v := 6) hx hb dX6_nextFromQueues_5 (by decide) ?_
    refine g_icmp_ge (tgt := 38) hx hb dX6_nextFromQueues_7 (by decide) (fun c_7 => ?_) (fun c_7 => ?_)
    · skip
      refine g_aload_nO hx hb dX6_nextFromQueues_38 rfl (lv_at hl 2 rfl) ?_
      exact g_aretO C hr hM hS (Or.inl ⟨_, rfl⟩) dX6_nextFromQueues_39 (by decide) (by decide) ⟨trivial, by rw [show n = 6 by have := (not_congr (nI_ltI (a := n) (b := 6) (by omega) (by omega))).mp c_7; omega], rfl, rfl⟩
    · skip
      have h6 : n < 6 := (nI_ltI (b := 6) (by omega) (by omega)).mp c_7
      refine lv_aload_n hx hb dX6_nextFromQueues_10 rfl (lv_at hl 1 rfl) ?_
      refine lv_iload_n hx hb dX6_nextFromQueues_11 rfl (lv_at hl 3 rfl) ?_
      refine g_cV C hS (fun _ h => h.elim) hM hl (fun _ h => h) (c_canAnswer hfl Γ _ _ _ _ (by assumption)) kX0_canAnswer t_212 (HM.recv C hM clo_0 (by assumption)) dX6_nextFromQueues_12 rfl rfl (Nat.le_of_ble_eq_true rfl) (by decide) rfl ⟨by decide, by decide⟩ xNo_goes (fun H locs hc_12 hM hS => ?_)
      refine g_ifeqB (tgt := 32) hx hb dX6_nextFromQueues_15 (by decide) (fun c_15 => ?_) (fun c_15 => ?_)
      · skip
        refine g_iincO (k := 3) (v := nI (n + 1)) (lv' := [(3, _), (0, _), (1, _), (2, _)]) hx hb dX6_nextFromQueues_32 hl (by simp [va_cat]) rfl (nI_1 n) (by decide) rfl (fun ls hl => ?_)
        refine lv_goto (tgt := 4) hx hb dX6_nextFromQueues_35 (by decide) ?_
        exact ih (n + 1) (by omega) h6 _ _ _ hM hS ((by rw [nqN, c_15]; exact lv_sub hl [1, 2, 3, 0] rfl))
      · skip
        refine g_aload_nO hx hb dX6_nextFromQueues_18 rfl (lv_at hl 2 rfl) ?_
        refine lv_aload_n hx hb dX6_nextFromQueues_19 rfl (lv_at hl 0 rfl) ?_
        refine g_get C hM clo_6 2 (by decide) (wn6 w) t_101 rfl (v := _) (fv4 rfl) dX6_nextFromQueues_20 ?_
        refine lv_iload_n hx hb dX6_nextFromQueues_23 rfl (lv_at hl 3 rfl) ?_
        refine g_aldR (k := 19) C hM rfl rfl rfl (wn19 w) n rfl h6 (by decide) dX6_nextFromQueues_24 ?_
        refine g_cV C hS (fun _ h => h.elim) hM hl (fun _ h => h) (c_head hfl Γ _ _ n w h6) kX5_head t_220 (HM.recv C hM clo_5 (wq5 w h6)) dX6_nextFromQueues_25 rfl rfl (by simp [va_cat]) (by decide) rfl ⟨by decide, by decide⟩ xNo_goes (fun H locs hc_25 hM hS => ?_)
        refine g_cS C hS (fun _ h => h.elim) hM hl (fun _ h => h) (c_earlierOf hfl Γ _ _ (nqN M a n) (hdM M n) w (nqN_lt w n hn) (hdM_lt w h6)) kX6_earlierOf t_230 dX6_nextFromQueues_28 rfl rfl (Nat.le_of_ble_eq_true rfl) (by decide) rfl ⟨by decide, by decide⟩ xNo_goes (fun H locs hc_28 hM hS => ?_)
        refine g_astore_nO (lv' := [(2, _), (0, _), (1, _), (3, _)]) hx hb dX6_nextFromQueues_31 rfl hl (by decide) rfl (fun ls hl => ?_)
        refine g_iincO (k := 3) (v := nI (n + 1)) (lv' := [(3, _), (2, _), (0, _), (1, _)]) hx hb dX6_nextFromQueues_32 hl (by simp [va_cat]) rfl (nI_1 n) (by decide) rfl (fun ls hl => ?_)
        refine lv_goto (tgt := 4) hx hb dX6_nextFromQueues_35 (by decide) ?_
        exact ih (n + 1) (by omega) h6 _ _ _ hM hS ((by rw [nqN, c_15]; exact lv_sub hl [2, 3, 1, 0] rfl))

set_option maxHeartbeats 4000000 in
set_option maxRecDepth 100000 in
theorem c_nextFromTickets {l : Launch} (hfl : l.stackTraces = false) (Γ : Gm) (K : Nat → Nat → Nat) (M : Mem) (a : Nat) (w : Wf M) (ha : a < mN M 0) : CT l Γ pF yX6_nextFromTickets (wsO yX6_nextFromTickets cX6_nextFromTickets 5 (some (.object "TicketWeaver$Ticket"))) 5 [.ref (K 6 0), .ref (K 0 a)] K M (DD True (some (va_rf ((ntN M a (mN M 4)).map (K 4)))) K M) xNo 0 0 := by
  refine ct_intro hfl (by decide) (Nat.le_of_ble_eq_true rfl) ?_
  intro p e s m args below meth c C ht hr hnm hM ls hl
  have hx := C.1
  have hb := C.2.1
  have hS : va_S pF s.heap s.heap [] := va_S.rf
  have hl : lv_has ls 5 [(0, .ref (K 6 0)), (1, .ref (K 0 a))] := hl
  have hb4 := wn4 w
  refine lv_null hx hb dX6_nextFromTickets_0 ?_
  refine lv_astore_nN (lv' := [(2, _), (0, _), (1, _)]) hx hb dX6_nextFromTickets_1 rfl hl (by decide) rfl (fun ls hl => ?_)
  refine lv_iconst (v := 0) hx hb dX6_nextFromTickets_2 (by decide) ?_
  refine lv_istore_n (lv' := [(3, _), (2, _), (0, _), (1, _)]) hx hb dX6_nextFromTickets_3 rfl hl (by decide) rfl (fun ls hl => ?_)
  suffices K4 : ∀ (n9 : Nat) (n : Nat), mN M 4 - n < n9 → (n ≤ mN M 4) → ∀ (H : Heap) (locs : List Loc) (ls : Array Slot), HM Γ K M H → va_S pF s.heap H locs → lv_has ls 5 [(0, .ref (K 6 0)), (1, .ref (K 0 a)), (2, va_rf ((ntN M a n).map (K 4))), (3, .int (nI n))] → W p l e (rmL 5 0 0) s m args below meth c H locs 0 0 (vx_MQ below (cQ Γ pF (DD True (some (va_rf ((ntN M a (mN M 4)).map (K 4)))) K M)) (cX Γ pF K M xNo) args s 0 0 pF) (F0 m 4 ls []) by
    exact K4 _ 0 (Nat.lt_succ_self _) (Nat.zero_le _) _ _ _ hM hS (lv_sub hl [2, 3, 1, 0] rfl)
  intro n9
  induction n9 with
  | zero => intro n h9; exact absurd h9 (Nat.not_lt_zero _)
  | succ n9 ih =>
    intro n h9 hn H locs ls hM hS hl
    refine lv_iload_n hx hb dX6_nextFromTickets_4 rfl (lv_at hl 3 rfl) ?_
    refine lv_aload_n hx hb dX6_nextFromTickets_5 rfl (lv_at hl 0 rfl) ?_
    refine g_get C hM clo_6 4 (by decide) (wn6 w) t_103 rfl (v := _) (fv4 rfl) dX6_nextFromTickets_6 ?_
    refine g_cV C hS (fun _ h => h.elim) hM hl (fun _ h => h) (c_size11 hfl Γ _ _ (by assumption)) kJx4a65c_size_8abf5 t_153 (HM.recvL C hM rfl (wn11 (by assumption))) dX6_nextFromTickets_9 rfl rfl (Nat.le_of_ble_eq_true rfl) (by decide) rfl ⟨by decide, by decide⟩ xNo_goes (fun H locs hc_9 hM hS => ?_)
    refine g_icmp_ge (tgt := 61) hx hb dX6_nextFromTickets_12 (by decide) (fun c_12 => ?_) (fun c_12 => ?_)
    · skip
      refine g_aload_nO hx hb dX6_nextFromTickets_61 rfl (lv_at hl 2 rfl) ?_
      exact g_aretO C hr hM hS (Or.inl ⟨_, rfl⟩) dX6_nextFromTickets_62 (by decide) (by decide) ⟨trivial, by rw [show n = mN M 4 by have := (not_congr (nI_ltI (a := n) (b := mN M 4) (by omega) (by omega))).mp c_12; omega], rfl, rfl⟩
    · skip
      have h6 : n < mN M 4 := (nI_ltI (by omega) (by omega)).mp c_12
      have hx6 : inN (nI n) (mN M 4) = true := inN_nI h6 (by omega)
      have hx7 := ix_nI (q := n) (by omega)
      refine lv_aload_n hx hb dX6_nextFromTickets_15 rfl (lv_at hl 0 rfl) ?_
      refine g_get C hM clo_6 4 (by decide) (wn6 w) t_103 rfl (v := _) (fv4 rfl) dX6_nextFromTickets_16 ?_
      refine lv_iload_n hx hb dX6_nextFromTickets_19 rfl (lv_at hl 3 rfl) ?_
      refine g_cV C hS (fun _ h => h.elim) hM hl (fun _ h => h) (c_get11 hfl Γ _ _ _ (by assumption) (by assumption)) kJx4a65c_get_915e3 t_181 (HM.recvL C hM rfl (wn11 (by assumption))) dX6_nextFromTickets_20 rfl rfl (Nat.le_of_ble_eq_true rfl) (by decide) rfl ⟨by decide, by decide⟩ xNo_goes (fun H locs hc_20 hM hS => ?_)
      rw [hx7]
      refine g_chk C hM clo_4 (by first | assumption | omega) t_195 dX6_nextFromTickets_23 ?_
      refine lv_astore (lv' := [(4, _), (0, _), (1, _), (2, _), (3, _)]) hx hb dX6_nextFromTickets_26 hl (by decide) rfl (fun ls hl => ?_)
      refine lv_aload hx hb dX6_nextFromTickets_28 (lv_at hl 0 rfl) ?_
      refine g_cV C hS (fun _ h => h.elim) hM hl (fun _ h => h) (c_isWaiting hfl Γ _ _ _ (by assumption)) kX4_isWaiting t_245 (HM.recv C hM clo_4 (by assumption)) dX6_nextFromTickets_30 rfl rfl (Nat.le_of_ble_eq_true rfl) (by decide) rfl ⟨by decide, by decide⟩ xNo_goes (fun H locs hc_30 hM hS => ?_)
      refine g_ifeqB (tgt := 55) hx hb dX6_nextFromTickets_33 (by decide) (fun c_33 => ?_) (fun c_33 => ?_)
      · skip
        refine g_iincO (k := 4) (v := nI (n + 1)) (lv' := [(3, _), (4, _), (0, _), (1, _), (2, _)]) hx hb dX6_nextFromTickets_55 hl (by simp [va_cat]) rfl (nI_1 n) (by decide) rfl (fun ls hl => ?_)
        refine lv_goto (tgt := 4) hx hb dX6_nextFromTickets_58 (by decide) ?_
        exact ih (n + 1) (by omega) h6 _ _ _ hM hS ((by rw [ntN, c_33, Bool.false_and]; exact lv_sub hl [2, 3, 4, 0] rfl))
      · skip
        refine lv_aload_n hx hb dX6_nextFromTickets_36 rfl (lv_at hl 2 rfl) ?_
        refine lv_aload hx hb dX6_nextFromTickets_37 (lv_at hl 0 rfl) ?_
        refine g_getN C hM clo_4 4 (by decide) (by assumption) n_772 rfl (v := .int (mT _ 4 4 _)) rfl dX6_nextFromTickets_39 ?_
        refine g_cV C hS (fun _ h => h.elim) hM hl (fun _ h => h) (c_canAnswer hfl Γ _ _ _ _ (by assumption)) kX0_canAnswer t_212 (HM.recv C hM clo_0 (by assumption)) dX6_nextFromTickets_42 rfl rfl (Nat.le_of_ble_eq_true rfl) (by decide) rfl ⟨by decide, by decide⟩ xNo_goes (fun H locs hc_42 hM hS => ?_)
        refine g_ifeqB (tgt := 55) hx hb dX6_nextFromTickets_45 (by decide) (fun c_45 => ?_) (fun c_45 => ?_)
        · skip
          refine g_iincO (k := 4) (v := nI (n + 1)) (lv' := [(3, _), (4, _), (0, _), (1, _), (2, _)]) hx hb dX6_nextFromTickets_55 hl (by simp [va_cat]) rfl (nI_1 n) (by decide) rfl (fun ls hl => ?_)
          refine lv_goto (tgt := 4) hx hb dX6_nextFromTickets_58 (by decide) ?_
          exact ih (n + 1) (by omega) h6 _ _ _ hM hS ((by rw [ntN, c_33, c_45, Bool.true_and]; exact lv_sub hl [2, 3, 4, 0] rfl))
        · skip
          refine g_aload_nO hx hb dX6_nextFromTickets_48 rfl (lv_at hl 3 rfl) ?_
          refine lv_aload hx hb dX6_nextFromTickets_49 (lv_at hl 0 rfl) ?_
          refine g_cS C hS (fun _ h => h.elim) hM hl (fun _ h => h) (c_earlierOf hfl Γ _ _ (ntN M a n) (some n) w (ntN_lt n hn) (fun t h => by cases h; exact h6)) kX6_earlierOf t_230 dX6_nextFromTickets_51 rfl rfl (Nat.le_of_ble_eq_true rfl) (by decide) rfl ⟨by decide, by decide⟩ xNo_goes (fun H locs hc_51 hM hS => ?_)
          refine g_astore_nO (lv' := [(2, _), (4, _), (0, _), (1, _), (3, _)]) hx hb dX6_nextFromTickets_54 rfl hl (by decide) rfl (fun ls hl => ?_)
          refine g_iincO (k := 4) (v := nI (n + 1)) (lv' := [(3, _), (2, _), (4, _), (0, _), (1, _)]) hx hb dX6_nextFromTickets_55 hl (by simp [va_cat]) rfl (nI_1 n) (by decide) rfl (fun ls hl => ?_)
          refine lv_goto (tgt := 4) hx hb dX6_nextFromTickets_58 (by decide) ?_
          exact ih (n + 1) (by omega) h6 _ _ _ hM hS ((by rw [ntN, c_33, c_45, Bool.true_and]; exact lv_sub hl [3, 4, 1, 0] rfl))

