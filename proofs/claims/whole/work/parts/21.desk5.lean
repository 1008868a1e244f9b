theorem kX6_ticketToJoin : CeeV yX6_ticketToJoin RX6 cX6_ticketToJoin 5 (some (.object "TicketWeaver$Ticket")) 3 := ⟨t_724, s_12, t_1, t_725, by decide +kernel, by decide⟩
theorem kX6_latestWithSubject : CeeV yX6_latestWithSubject RX6 cX6_latestWithSubject 7 (some (.object "TicketWeaver$Ticket")) 2 := ⟨t_733, s_13, t_1, t_734, by decide +kernel, by decide⟩
theorem kX6_addMail : CeeV yX6_addMail RX6 cX6_addMail 4 none 2 := ⟨t_837, s_16, t_1, t_838, by decide +kernel, by decide⟩
theorem kX6_mail : CeeV yX6_mail RX6 cX6_mail 8 (some .int) 5 := ⟨t_696, t_697, t_1, t_698, by decide +kernel, by decide⟩
theorem kX6_bestFromAnswers : CeeV yX6_bestFromAnswers RX6 cX6_bestFromAnswers 8 (some .int) 1 := ⟨t_1236, s_24, t_1, t_1237, by decide +kernel, by decide⟩
theorem kX6_bestFromWords : CeeV yX6_bestFromWords RX6 cX6_bestFromWords 6 (some .int) 1 := ⟨t_1248, s_25, t_1, t_1249, by decide +kernel, by decide⟩
theorem kX6_scoreWords : CeeV yX6_scoreWords RX6 cX6_scoreWords 3 none 1 := ⟨t_1252, s_26, t_1, t_1253, by decide +kernel, by decide⟩
theorem kX6_scoreWord : CeeV yX6_scoreWord RX6 cX6_scoreWord 3 none 1 := ⟨t_1259, s_27, t_1, t_1260, by decide +kernel, by decide⟩
theorem kX6_hasEachMailOnce : CeeV yX6_hasEachMailOnce RX6 cX6_hasEachMailOnce 4 (some .boolean) 0 := ⟨t_179, s_0, t_1, t_180, by decide +kernel, by decide⟩
theorem kX6_agreesOnNextTickets : CeeV yX6_agreesOnNextTickets RX6 cX6_agreesOnNextTickets 2 (some .boolean) 0 := ⟨t_205, s_1, t_1, t_206, by decide +kernel, by decide⟩
theorem kX6_isSound : CeeV yX6_isSound RX6 cX6_isSound 1 (some .boolean) 0 := ⟨t_174, t_175, t_1, t_176, by decide +kernel, by decide⟩
theorem kX6_addAgent : CeeV yX6_addAgent RX6 cX6_addAgent 2 (some .int) 1 := ⟨t_985, t_986, t_1, t_987, by decide +kernel, by decide⟩
theorem kX6_keptShare : CeeV yX6_keptShare RX6 cX6_keptShare 1 (some .float) 0 := ⟨t_1279, t_1280, t_1, t_1281, by decide +kernel, by decide⟩
theorem kX6_meanClock : CeeV yX6_meanClock RX6 cX6_meanClock 1 (some .double) 0 := ⟨t_1289, t_1290, t_1, t_1291, by decide +kernel, by decide⟩
theorem kX4_insertMail : CeeV yX4_insertMail RX4 cX4_insertMail 3 none 1 := ⟨t_856, t_857, t_28, t_858, by decide +kernel, by decide⟩
theorem kX4_lastMail : CeeV yX4_lastMail RX4 cX4_lastMail 1 (some .int) 0 := ⟨t_736, t_737, t_28, t_738, by decide +kernel, by decide⟩
theorem kX4_takeOver : CeeV yX4_takeOver RX4 cX4_takeOver 3 none 1 := ⟨t_1188, t_1189, t_28, t_1190, by decide +kernel, by decide⟩
theorem kX4_ownsItsMails : CeeV yX4_ownsItsMails RX4 cX4_ownsItsMails 3 (some .boolean) 0 := ⟨t_197, t_198, t_28, t_199, by decide +kernel, by decide⟩
def ccN (M : Mem) : Nat → Int32
  | 0 => 0
  | n + 1 => if mT M 4 6 n = 99 then ccN M n + 1 else ccN M n
set_option maxHeartbeats 4000000 in
set_option maxRecDepth 100000 in
theorem c_closedTickets {l : Launch} (hfl : l.stackTraces = false) (Γ : Gm) (K : Nat → Nat → Nat) (M : Mem)  (w : Wf M) : CT l Γ pF yX6_closedTickets (wsO yX6_closedTickets cX6_closedTickets 3 (some .int)) 5 [.ref (K 6 0)] K M (DD True (some (.int (ccN M (mN M 4)))) K M) xNo 0 0 := by
  refine ct_intro hfl (by decide) (Nat.le_of_ble_eq_true rfl) ?_
  intro p e s m args below meth c C ht hr hnm hM ls hl
  have hx := C.1
  have hb := C.2.1
  have hS : va_S pF s.heap s.heap [] := va_S.rf
  have hl : lv_has ls 3 [(0, .ref (K 6 0))] := hl
  have hb4 := wn4 w
  refine lv_iconst (v := 0) hx hb dX6_closedTickets_0 (by decide) ?_
  refine lv_istore_n (lv' := [(1, _), (0, _)]) hx hb dX6_closedTickets_1 rfl hl (by decide) rfl (fun ls hl => ?_)
  refine lv_iconst (v := 0) hx hb dX6_closedTickets_2 (by decide) ?_
  refine lv_istore_n (lv' := [(2, _), (1, _), (0, _)]) hx hb dX6_closedTickets_3 rfl hl (by decide) rfl (fun ls hl => ?_)
  suffices K4 : ∀ (n9 : Nat) (n : Nat), mN M 4 - n < n9 → (n ≤ mN M 4) → ∀ (H : Heap) (locs : List Loc) (ls : Array Slot), HM Γ K M H → va_S pF s.heap H locs → lv_has ls 3 [(0, .ref (K 6 0)), (1, .int (ccN M n)), (2, .int (nI n))] → W p l e (rmL 5 0 0) s m args below meth c H locs 0 0 (vx_MQ below (cQ Γ pF (DD True (some (.int (ccN M (mN M 4)))) K M)) (cX Γ pF K M xNo) args s 0 0 pF) (F0 m 4 ls []) by
    exact K4 _ 0 (Nat.lt_succ_self _) (Nat.zero_le _) _ _ _ hM hS (lv_sub hl [2, 1, 0] rfl)
  intro n9
  induction n9 with
  | zero => intro n h9; exact absurd h9 (Nat.not_lt_zero _)
  | succ n9 ih =>
    intro n h9 hn H locs ls hM hS hl
    refine lv_iload_n hx hb dX6_closedTickets_4 rfl (lv_at hl 2 rfl) ?_
    refine lv_aload_n hx hb dX6_closedTickets_5 rfl (lv_at hl 0 rfl) ?_
    refine g_get C hM clo_6 4 (by decide) (wn6 w) t_103 rfl (v := _) (fv4 rfl) dX6_closedTickets_6 ?_
    refine g_cV C hS (fun _ h => h.elim) hM hl (fun _ h => h) (c_size11 hfl Γ _ _ (by assumption)) kJx4a65c_size_8abf5 t_153 (HM.recvL C hM rfl (wn11 (by assumption))) dX6_closedTickets_9 rfl rfl (Nat.le_of_ble_eq_true rfl) (by decide) rfl ⟨by decide, by decide⟩ xNo_goes (fun H locs hc_9 hM hS => ?_)
    refine g_icmp_ge (tgt := 43) hx hb dX6_closedTickets_12 (by decide) (fun c_12 => ?_) (fun c_12 => ?_)
    · skip
      refine lv_iload_n hx hb dX6_closedTickets_43 rfl (lv_at hl 1 rfl) ?_
      exact g_iret C hr hM hS dX6_closedTickets_44 (by decide) (by decide) ⟨trivial, by rw [show n = mN M 4 by have := (not_congr (nI_ltI (a := n) (b := mN M 4) (by omega) (by omega))).mp c_12; omega], rfl, rfl⟩
    · skip
      have h6 : n < mN M 4 := (nI_ltI (by omega) (by omega)).mp c_12
      have hx6 : inN (nI n) (mN M 4) = true := inN_nI h6 (by omega)
      have hx7 := ix_nI (q := n) (by omega)
      refine lv_aload_n hx hb dX6_closedTickets_15 rfl (lv_at hl 0 rfl) ?_
      refine g_get C hM clo_6 4 (by decide) (wn6 w) t_103 rfl (v := _) (fv4 rfl) dX6_closedTickets_16 ?_
      refine lv_iload_n hx hb dX6_closedTickets_19 rfl (lv_at hl 2 rfl) ?_
      refine g_cV C hS (fun _ h => h.elim) hM hl (fun _ h => h) (c_get11 hfl Γ _ _ _ (by assumption) (by assumption)) kJx4a65c_get_915e3 t_181 (HM.recvL C hM rfl (wn11 (by assumption))) dX6_closedTickets_20 rfl rfl (Nat.le_of_ble_eq_true rfl) (by decide) rfl ⟨by decide, by decide⟩ xNo_goes (fun H locs hc_20 hM hS => ?_)
      rw [hx7]
      refine g_chk C hM clo_4 (by first | assumption | omega) t_195 dX6_closedTickets_23 ?_
      refine g_getN C hM clo_4 6 (by decide) h6 n_776 rfl (v := .int (mT _ 4 6 _)) rfl dX6_closedTickets_26 ?_
      refine lv_bipush (v := 99) hx hb dX6_closedTickets_29 (by decide) ?_
      refine lv_icmp_ne (tgt := 37) hx hb dX6_closedTickets_31 (by decide) (fun c_31 => ?_) (fun c_31 => ?_)
      · skip
        refine lv_iinc (k := 2) (v := nI (n + 1)) (lv' := [(2, _), (0, _), (1, _)]) hx hb dX6_closedTickets_37 hl rfl (nI_1 n) (by decide) rfl (fun ls hl => ?_)
        refine lv_goto (tgt := 4) hx hb dX6_closedTickets_40 (by decide) ?_
        exact ih (n + 1) (by omega) h6 _ _ _ hM hS ((by rw [ccN, if_neg c_31]; exact lv_sub hl [1, 2, 0] rfl))
      · skip
        refine lv_iinc (k := 1) (v := _) (lv' := [(1, _), (0, _), (2, _)]) hx hb dX6_closedTickets_34 hl rfl rfl (by decide) rfl (fun ls hl => ?_)
        refine lv_iinc (k := 2) (v := nI (n + 1)) (lv' := [(2, _), (1, _), (0, _)]) hx hb dX6_closedTickets_37 hl rfl (nI_1 n) (by decide) rfl (fun ls hl => ?_)
        refine lv_goto (tgt := 4) hx hb dX6_closedTickets_40 (by decide) ?_
        exact ih (n + 1) (by omega) h6 _ _ _ hM hS ((by rw [ccN, if_pos c_31]; exact lv_sub hl [2, 1, 0] rfl))

def cans1 (M : Mem) (i : Nat) : Mem := sJ (sT M 6 11 0 (mT M 6 11 0 + 1)) 6 13 0 (mJ M 6 13 0 + (mT M 4 7 i).toInt64)
def cansM (M : Mem) (i : Nat) : Mem := if mT M 4 8 i = 0 then sT (cans1 M i) 6 12 0 (mT M 6 12 0 + 1) else cans1 M i
theorem cans1_eq {M : Mem} {i : Nat} : sJ (sT M 6 11 0 (mT M 6 11 0 + 1)) 6 13 0 (mJ (sT M 6 11 0 (mT M 6 11 0 + 1)) 6 13 0 + (mT (sT M 6 11 0 (mT M 6 11 0 + 1)) 4 7 i).toInt64) = cans1 M i := rfl
set_option maxHeartbeats 4000000 in
set_option maxRecDepth 100000 in
theorem c_countAnswer {l : Launch} (hfl : l.stackTraces = false) (Γ : Gm) (K : Nat → Nat → Nat) (M : Mem) (i : Nat) (w : Wf M) (hi : i < mN M 4) : CT l Γ (gFree Γ) yX6_countAnswer (wsO yX6_countAnswer cX6_countAnswer 2 none) 0 [.ref (K 6 0), .ref (K 4 i)] K M (DD True none K (cansM M i)) xNo 0 0 := by
  refine ct_intro hfl (by decide) (Nat.le_of_ble_eq_true rfl) ?_
  intro p e s m args below meth c C ht hr hnm hM ls hl
  have hx := C.1
  have hb := C.2.1
  have hS : va_S (gFree Γ) s.heap s.heap [] := va_S.rf
  have hl : lv_has ls 2 [(0, .ref (K 6 0)), (1, .ref (K 4 i))] := hl
  refine lv_aload_n hx hb dX6_countAnswer_0 rfl (lv_at hl 0 rfl) ?_
  refine lv_dup hx hb dX6_countAnswer_1 rfl ?_
  refine g_get C hM clo_6 11 (by decide) (wn6 w) t_110 rfl (v := .int (mT _ 6 11 _)) rfl dX6_countAnswer_2 ?_
  refine lv_iconst (v := 1) hx hb dX6_countAnswer_5 (by decide) ?_
  refine lv_iadd hx hb dX6_countAnswer_6 ?_
  refine g_putI C hM hS clo_6 11 (by decide) rfl (wn6 w) rfl rfl rfl rfl dX6_countAnswer_7 (Or.inl t_110) (fun H locs hM hS => ?_)
  refine lv_aload_n hx hb dX6_countAnswer_10 rfl (lv_at hl 0 rfl) ?_
  refine lv_dup hx hb dX6_countAnswer_11 rfl ?_
  refine g_get C hM clo_6 13 (by decide) (wn6 w) t_112 rfl (v := .long (mJ _ 6 13 _)) rfl dX6_countAnswer_12 ?_
  refine lv_aload_n hx hb dX6_countAnswer_15 rfl (lv_at hl 1 rfl) ?_
  refine g_getN C hM clo_4 7 (by decide) hi n_778 rfl (v := .int (mT _ 4 7 _)) rfl dX6_countAnswer_16 ?_
  refine lv_i2l hx hb dX6_countAnswer_19 rfl ?_
  refine lv_ladd hx hb dX6_countAnswer_20 ?_
  refine g_putJ C hM hS clo_6 13 (by decide) rfl (wn6 w) rfl rfl rfl rfl dX6_countAnswer_21 (Or.inl t_112) (fun H locs hM hS => ?_)
  refine lv_aload_n hx hb dX6_countAnswer_24 rfl (lv_at hl 1 rfl) ?_
  refine g_getN C hM clo_4 8 (by decide) hi n_780 rfl (v := .int (mT _ 4 8 _)) rfl dX6_countAnswer_25 ?_
  refine lv_if_ne (tgt := 41) hx hb dX6_countAnswer_28 (by decide) (fun c_28 => ?_) (fun c_28 => ?_)
  · skip
    exact g_vret C hr hM hS dX6_countAnswer_41 (by decide) (by decide) ⟨trivial, rfl, rfl, by rw [cansM, if_neg (show ¬ mT M 4 8 i = 0 from c_28)]; rfl⟩
  · skip
    refine lv_aload_n hx hb dX6_countAnswer_31 rfl (lv_at hl 0 rfl) ?_
    refine lv_dup hx hb dX6_countAnswer_32 rfl ?_
    refine g_get C hM clo_6 12 (by decide) (wn6 w) t_111 rfl (v := .int (mT _ 6 12 _)) rfl dX6_countAnswer_33 ?_
    refine lv_iconst (v := 1) hx hb dX6_countAnswer_36 (by decide) ?_
    refine lv_iadd hx hb dX6_countAnswer_37 ?_
    refine g_putI C hM hS clo_6 12 (by decide) rfl (wn6 w) rfl rfl rfl rfl dX6_countAnswer_38 (Or.inl t_111) (fun H locs hM hS => ?_)
    exact g_vret C hr hM hS dX6_countAnswer_41 (by decide) (by decide) ⟨trivial, rfl, rfl, by rw [cansM, if_pos (show mT M 4 8 i = 0 from c_28)]; rfl⟩

def ansP (M : Mem) (i : Nat) (o : Option Nat) : Mem := cansM (sP (sT (leaveM M i) 4 6 i 97) 4 11 i o) i
theorem mN_cans {M : Mem} {i : Nat} : mN (cansM M i) = mN M := by unfold cansM; split <;> rfl
theorem mN_ans {M : Mem} {i : Nat} {o : Option Nat} : mN (ansP M i o) = mN M := by unfold ansP; rw [mN_cans]; exact mN_leave
theorem wf_sent {M : Mem} {i : Nat} {o : Option Nat} (w : Wf M) (ho : ∀ a, o = some a → a < mN M 3) : Wf (sP M 4 11 i o) := wf_sP (Or.inr (Or.inl rfl)) (fun a ha => ⟨fun h => by omega, fun _ => ho a ha, fun h => by omega⟩) w
theorem wf_st {M : Mem} {i : Nat} {v : Int32} (w : Wf M) : Wf (sT M 4 6 i v) := wf_sT (by decide) (by decide) w
def rAnswer (M : Mem) (x : Int32) (y : Int32) : Nat := if inN x (mN M 4) = true then (if mT M 4 6 (ix x) = 111 ∧ ¬ mP M 4 9 (ix x) = none then (if y = -1 ∨ inN y (mN M 3) = true then 0 else 3) else 2) else 1
set_option maxHeartbeats 4000000 in
set_option maxRecDepth 100000 in
theorem c_answer {l : Launch} (hfl : l.stackTraces = false) (Γ : Gm) (K : Nat → Nat → Nat) (M : Mem) (x : Int32) (y : Int32) (w : Wf M) : CT l Γ (gFree Γ) yX6_answer (wsO yX6_answer cX6_answer 4 (some .int)) 9 [.ref (K 6 0), .int x, .int y] K M (DD (rAnswer M x y = 0) (some (.int (mT (ansP M (ix x) (if y = -1 then none else some (ix y))) 4 7 (ix x)))) K (ansP M (ix x) (if y = -1 then none else some (ix y)))) (XP ["java/lang/IndexOutOfBoundsException", "java/lang/IllegalStateException", "java/util/NoSuchElementException"] (rAnswer M x y)) 3 20 := by
  refine ct_intro hfl (by decide) (Nat.le_of_ble_eq_true rfl) ?_
  intro p e s m args below meth c C ht hr hnm hM ls hl
  have hx := C.1
  have hb := C.2.1
  have hS : va_S (gFree Γ) s.heap s.heap [] := va_S.rf
  have hl : lv_has ls 4 [(0, .ref (K 6 0)), (1, .int x), (2, .int y)] := hl
  have hb4 := wn4 w
  have hb0 := wn0 w
  have hb2 := wn2 w
  refine lv_aload_n hx hb dX6_answer_0 rfl (lv_at hl 0 rfl) ?_
  refine lv_iload_n hx hb dX6_answer_1 rfl (lv_at hl 1 rfl) ?_
  refine g_cV C hS (fun _ h => h) hM hl (fun _ h => h.elim) (c_ticketNumbered hfl Γ _ _ _ (by assumption)) kX6_ticketNumbered t_908 (HM.recv C hM clo_6 (wn6 (by assumption))) dX6_answer_2 rfl rfl (Nat.le_of_ble_eq_true rfl) (by decide) rfl ⟨by decide, by decide⟩ (g_pass C ht (fun E h => xp_of 0 (by simp [rAnswer, h.2]) h.1) (by decide) (by decide)) (fun H locs hc_2 hM hS => ?_)
  have hq_2 := (inN_ix hc_2 (by have := wn4 w; omega)).1
  refine lv_astore_n (lv' := [(3, _), (0, _), (1, _), (2, _)]) hx hb dX6_answer_5 rfl hl (by decide) rfl (fun ls hl => ?_)
  refine lv_aload_n hx hb dX6_answer_6 rfl (lv_at hl 0 rfl) ?_
  refine g_getN C hM clo_4 6 (by decide) (by assumption) n_776 rfl (v := .int (mT _ 4 6 _)) rfl dX6_answer_7 ?_
  refine lv_bipush (v := 111) hx hb dX6_answer_10 (by decide) ?_
  refine lv_icmp_ne (tgt := 22) hx hb dX6_answer_12 (by decide) (fun c_12 => ?_) (fun c_12 => ?_)
  · skip
    exact g_throwW C ht (xp_of 1 (by simp [rAnswer, hc_2, c_12]) rfl) hM hS (fun _ h => h) hl thr_122 (strX_23) dX6_answer_22 dX6_answer_25 dX6_answer_26 dX6_answer_29 dX6_answer_32 rfl (Nat.le_of_ble_eq_true rfl) ⟨by decide, by decide⟩ (by decide) (by decide)
  · skip
    refine lv_aload_n hx hb dX6_answer_15 rfl (lv_at hl 0 rfl) ?_
    rcases hp_16 : (mP M 4 9 (ix x)) with _ | q_16
    · refine g_getN C hM clo_4 9 (by decide) (by assumption) n_782 rfl (v := .null) (fvN rfl hp_16) dX6_answer_16 ?_
      refine lv_ifnonnullN hx hb dX6_answer_19 ?_
      exact g_throwW C ht (xp_of 1 (by simp [rAnswer, hc_2, c_12, hp_16]) rfl) hM hS (fun _ h => h) hl thr_122 (strX_23) dX6_answer_22 dX6_answer_25 dX6_answer_26 dX6_answer_29 dX6_answer_32 rfl (Nat.le_of_ble_eq_true rfl) ⟨by decide, by decide⟩ (by decide) (by decide)
    · refine g_getN C hM clo_4 9 (by decide) (by assumption) n_782 rfl (v := _) (fvR rfl hp_16) dX6_answer_16 ?_
      refine lv_ifnonnull (tgt := 33) hx hb dX6_answer_19 (by decide) ?_
      refine lv_iload_n hx hb dX6_answer_33 rfl (lv_at hl 3 rfl) ?_
      refine lv_iconst (v := -1) hx hb dX6_answer_34 (by decide) ?_
      refine lv_icmp_eq (tgt := 57) hx hb dX6_answer_35 (by decide) (fun c_35 => ?_) (fun c_35 => ?_)
      · skip
        refine lv_aload_n hx hb dX6_answer_57 rfl (lv_at hl 0 rfl) ?_
        refine g_cV C hS (fun _ h => h) hM hl (fun _ h => h) (c_leaveAgent hfl Γ _ _ _ (by assumption) (by assumption)) kX4_leaveAgent t_955 (HM.recv C hM clo_4 (by assumption)) dX6_answer_58 rfl rfl (Nat.le_of_ble_eq_true rfl) (by decide) rfl ⟨by decide, by decide⟩ xNo_goes (fun H locs hc_58 hM hS => ?_)
        have wA := wf_leave (i := ix x) w
        have hA : ix x < mN (leaveM M (ix x)) 4 := by rw [mN_leave]; exact hq_2
        refine lv_aload_n hx hb dX6_answer_61 rfl (lv_at hl 0 rfl) ?_
        refine lv_bipush (v := 97) hx hb dX6_answer_62 (by decide) ?_
        refine g_putI C hM hS clo_4 6 (by decide) rfl (by assumption) rfl rfl rfl rfl dX6_answer_64 (Or.inr n_776) (fun H locs hM hS => ?_)
        refine lv_aload_n hx hb dX6_answer_67 rfl (lv_at hl 0 rfl) ?_
        refine lv_iload_n hx hb dX6_answer_68 rfl (lv_at hl 3 rfl) ?_
        refine lv_iconst (v := -1) hx hb dX6_answer_69 (by decide) ?_
        refine lv_icmp_ne (tgt := 77) hx hb dX6_answer_70 (by decide) (fun c_70 => ?_) (fun c_70 => ?_)
        · skip
          have hyy : inN y (mN M 3) = true := by first | exact c_43 | exact absurd c_35 c_70
          have hb3 := wn3 w
          obtain ⟨hy1, hy2⟩ := inN_ix (n := mN M 3) hyy (by omega)
          have hyz : inN y (mN (sT (leaveM M (ix x)) 4 6 (ix x) 97) 3) = true := by show inN y (mN (leaveM M (ix x)) 3) = true; rw [mN_leave]; exact hyy
          refine lv_aload_n hx hb dX6_answer_77 rfl (lv_at hl 1 rfl) ?_
          refine g_get C hM clo_6 6 (by decide) (wn6 (by assumption)) t_105 rfl (v := _) (fv4 rfl) dX6_answer_78 ?_
          refine lv_iload_n hx hb dX6_answer_81 rfl (lv_at hl 3 rfl) ?_
          refine g_cV C hS (fun _ h => h) hM hl (fun _ h => h.elim) (c_get13 hfl Γ _ _ _ (wf_st wA) hyz) kJx4a65c_get_915e3 t_181 (HM.recvL C hM rfl (wn13 (wf_st wA))) dX6_answer_82 rfl rfl (Nat.le_of_ble_eq_true rfl) (by decide) rfl ⟨by decide, by decide⟩ xNo_goes (fun H locs hc_82 hM hS => ?_)
          refine g_chk C hM clo_3 (by show _ < mN (leaveM M (ix x)) 3; rw [mN_leave]; exact hy1) t_1156 dX6_answer_85 ?_
          refine g_putP C hM hS clo_4 11 (by decide) (some _) rfl rfl (by assumption) rfl rfl rfl rfl dX6_answer_88 (Or.inr n_785) (fun H locs hM hS => ?_)
          have wB := wf_sent (i := ix x) (o := some (ix y)) (wf_st (i := ix x) (v := 97) (wf_leave (i := ix x) w)) (fun a h => by cases h; show _ < mN (leaveM M (ix x)) 3; rw [mN_leave]; exact hy1)
          have hB : ix x < mN (sP (sT (leaveM M (ix x)) 4 6 (ix x) 97) 4 11 (ix x) (some (ix y))) 4 := by show _ < mN (leaveM M (ix x)) 4; rw [mN_leave]; exact hq_2
          have hC : ix x < mN (ansP M (ix x) (some (ix y))) 4 := by rw [mN_ans]; exact hq_2
          refine lv_aload_n hx hb dX6_answer_91 rfl (lv_at hl 1 rfl) ?_
          refine lv_aload_n hx hb dX6_answer_92 rfl (lv_at hl 0 rfl) ?_
          refine g_cV C hS (fun _ h => h) hM hl (fun _ h => h) (c_countAnswer hfl Γ _ _ _ wB hB) kX6_countAnswer t_1157 (HM.recv C hM clo_6 (wn6 wB)) dX6_answer_93 rfl rfl (Nat.le_of_ble_eq_true rfl) (by decide) rfl ⟨by decide, by decide⟩ xNo_goes (fun H locs hc_93 hM hS => ?_)
          refine lv_aload_n hx hb dX6_answer_96 rfl (lv_at hl 0 rfl) ?_
          refine g_getN C hM clo_4 7 (by decide) hC n_778 rfl (v := .int (mT _ 4 7 _)) rfl dX6_answer_97 ?_
          exact g_iret C hr hM hS dX6_answer_100 (by decide) (by decide) ⟨by simp [rAnswer, hp_16, hc_2, c_12, c_35, c_70], by rw [if_neg c_70]; rfl, rfl, by rw [if_neg c_70]; rfl⟩
        · skip
          refine lv_null hx hb dX6_answer_73 ?_
          refine lv_goto (tgt := 88) hx hb dX6_answer_74 (by decide) ?_
          refine g_putP C hM hS clo_4 11 (by decide) none rfl rfl (by assumption) rfl rfl rfl rfl dX6_answer_88 (Or.inr n_785) (fun H locs hM hS => ?_)
          have wB := wf_sent (i := ix x) (o := none) (wf_st (i := ix x) (v := 97) (wf_leave (i := ix x) w)) (fun a h => nomatch h)
          have hB : ix x < mN (sP (sT (leaveM M (ix x)) 4 6 (ix x) 97) 4 11 (ix x) (none)) 4 := by show _ < mN (leaveM M (ix x)) 4; rw [mN_leave]; exact hq_2
          have hC : ix x < mN (ansP M (ix x) (none)) 4 := by rw [mN_ans]; exact hq_2
          refine lv_aload_n hx hb dX6_answer_91 rfl (lv_at hl 1 rfl) ?_
          refine lv_aload_n hx hb dX6_answer_92 rfl (lv_at hl 0 rfl) ?_
          refine g_cV C hS (fun _ h => h) hM hl (fun _ h => h) (c_countAnswer hfl Γ _ _ _ wB hB) kX6_countAnswer t_1157 (HM.recv C hM clo_6 (wn6 wB)) dX6_answer_93 rfl rfl (Nat.le_of_ble_eq_true rfl) (by decide) rfl ⟨by decide, by decide⟩ xNo_goes (fun H locs hc_93 hM hS => ?_)
          refine lv_aload_n hx hb dX6_answer_96 rfl (lv_at hl 0 rfl) ?_
          refine g_getN C hM clo_4 7 (by decide) hC n_778 rfl (v := .int (mT _ 4 7 _)) rfl dX6_answer_97 ?_
          exact g_iret C hr hM hS dX6_answer_100 (by decide) (by decide) ⟨by simp [rAnswer, hp_16, hc_2, c_12, c_35, c_70], by rw [if_pos c_70]; rfl, rfl, by rw [if_pos c_70]; rfl⟩
      · skip
        refine lv_aload_n hx hb dX6_answer_38 rfl (lv_at hl 1 rfl) ?_
        refine lv_iload_n hx hb dX6_answer_39 rfl (lv_at hl 3 rfl) ?_
        refine g_cV C hS (fun _ h => h) hM hl (fun _ h => h.elim) (c_isAnswer hfl Γ _ _ _ (by assumption)) kX6_isAnswer t_1151 (HM.recv C hM clo_6 (wn6 (by assumption))) dX6_answer_40 rfl rfl (Nat.le_of_ble_eq_true rfl) (by decide) rfl ⟨by decide, by decide⟩ xNo_goes (fun H locs hc_40 hM hS => ?_)
        refine g_ifneB (tgt := 57) hx hb dX6_answer_43 (by decide) (fun c_43 => ?_) (fun c_43 => ?_)
        · skip
          refine lv_aload_n hx hb dX6_answer_57 rfl (lv_at hl 0 rfl) ?_
          refine g_cV C hS (fun _ h => h) hM hl (fun _ h => h) (c_leaveAgent hfl Γ _ _ _ (by assumption) (by assumption)) kX4_leaveAgent t_955 (HM.recv C hM clo_4 (by assumption)) dX6_answer_58 rfl rfl (Nat.le_of_ble_eq_true rfl) (by decide) rfl ⟨by decide, by decide⟩ xNo_goes (fun H locs hc_58 hM hS => ?_)
          have wA := wf_leave (i := ix x) w
          have hA : ix x < mN (leaveM M (ix x)) 4 := by rw [mN_leave]; exact hq_2
          refine lv_aload_n hx hb dX6_answer_61 rfl (lv_at hl 0 rfl) ?_
          refine lv_bipush (v := 97) hx hb dX6_answer_62 (by decide) ?_
          refine g_putI C hM hS clo_4 6 (by decide) rfl (by assumption) rfl rfl rfl rfl dX6_answer_64 (Or.inr n_776) (fun H locs hM hS => ?_)
          refine lv_aload_n hx hb dX6_answer_67 rfl (lv_at hl 0 rfl) ?_
          refine lv_iload_n hx hb dX6_answer_68 rfl (lv_at hl 3 rfl) ?_
          refine lv_iconst (v := -1) hx hb dX6_answer_69 (by decide) ?_
          refine lv_icmp_ne (tgt := 77) hx hb dX6_answer_70 (by decide) (fun c_70 => ?_) (fun c_70 => ?_)
          · skip
            have hyy : inN y (mN M 3) = true := by first | exact c_43 | exact absurd c_35 c_70
            have hb3 := wn3 w
            obtain ⟨hy1, hy2⟩ := inN_ix (n := mN M 3) hyy (by omega)
            have hyz : inN y (mN (sT (leaveM M (ix x)) 4 6 (ix x) 97) 3) = true := by show inN y (mN (leaveM M (ix x)) 3) = true; rw [mN_leave]; exact hyy
            refine lv_aload_n hx hb dX6_answer_77 rfl (lv_at hl 1 rfl) ?_
            refine g_get C hM clo_6 6 (by decide) (wn6 (by assumption)) t_105 rfl (v := _) (fv4 rfl) dX6_answer_78 ?_
            refine lv_iload_n hx hb dX6_answer_81 rfl (lv_at hl 3 rfl) ?_
            refine g_cV C hS (fun _ h => h) hM hl (fun _ h => h.elim) (c_get13 hfl Γ _ _ _ (wf_st wA) hyz) kJx4a65c_get_915e3 t_181 (HM.recvL C hM rfl (wn13 (wf_st wA))) dX6_answer_82 rfl rfl (Nat.le_of_ble_eq_true rfl) (by decide) rfl ⟨by decide, by decide⟩ xNo_goes (fun H locs hc_82 hM hS => ?_)
            refine g_chk C hM clo_3 (by show _ < mN (leaveM M (ix x)) 3; rw [mN_leave]; exact hy1) t_1156 dX6_answer_85 ?_
            refine g_putP C hM hS clo_4 11 (by decide) (some _) rfl rfl (by assumption) rfl rfl rfl rfl dX6_answer_88 (Or.inr n_785) (fun H locs hM hS => ?_)
            have wB := wf_sent (i := ix x) (o := some (ix y)) (wf_st (i := ix x) (v := 97) (wf_leave (i := ix x) w)) (fun a h => by cases h; show _ < mN (leaveM M (ix x)) 3; rw [mN_leave]; exact hy1)
            have hB : ix x < mN (sP (sT (leaveM M (ix x)) 4 6 (ix x) 97) 4 11 (ix x) (some (ix y))) 4 := by show _ < mN (leaveM M (ix x)) 4; rw [mN_leave]; exact hq_2
            have hC : ix x < mN (ansP M (ix x) (some (ix y))) 4 := by rw [mN_ans]; exact hq_2
            refine lv_aload_n hx hb dX6_answer_91 rfl (lv_at hl 1 rfl) ?_
            refine lv_aload_n hx hb dX6_answer_92 rfl (lv_at hl 0 rfl) ?_
            refine g_cV C hS (fun _ h => h) hM hl (fun _ h => h) (c_countAnswer hfl Γ _ _ _ wB hB) kX6_countAnswer t_1157 (HM.recv C hM clo_6 (wn6 wB)) dX6_answer_93 rfl rfl (Nat.le_of_ble_eq_true rfl) (by decide) rfl ⟨by decide, by decide⟩ xNo_goes (fun H locs hc_93 hM hS => ?_)
            refine lv_aload_n hx hb dX6_answer_96 rfl (lv_at hl 0 rfl) ?_
            refine g_getN C hM clo_4 7 (by decide) hC n_778 rfl (v := .int (mT _ 4 7 _)) rfl dX6_answer_97 ?_
            exact g_iret C hr hM hS dX6_answer_100 (by decide) (by decide) ⟨by simp [rAnswer, hp_16, hc_2, c_12, c_35, c_43, c_70], by rw [if_neg c_70]; rfl, rfl, by rw [if_neg c_70]; rfl⟩
          · skip
            refine lv_null hx hb dX6_answer_73 ?_
            refine lv_goto (tgt := 88) hx hb dX6_answer_74 (by decide) ?_
            refine g_putP C hM hS clo_4 11 (by decide) none rfl rfl (by assumption) rfl rfl rfl rfl dX6_answer_88 (Or.inr n_785) (fun H locs hM hS => ?_)
            have wB := wf_sent (i := ix x) (o := none) (wf_st (i := ix x) (v := 97) (wf_leave (i := ix x) w)) (fun a h => nomatch h)
            have hB : ix x < mN (sP (sT (leaveM M (ix x)) 4 6 (ix x) 97) 4 11 (ix x) (none)) 4 := by show _ < mN (leaveM M (ix x)) 4; rw [mN_leave]; exact hq_2
            have hC : ix x < mN (ansP M (ix x) (none)) 4 := by rw [mN_ans]; exact hq_2
            refine lv_aload_n hx hb dX6_answer_91 rfl (lv_at hl 1 rfl) ?_
            refine lv_aload_n hx hb dX6_answer_92 rfl (lv_at hl 0 rfl) ?_
            refine g_cV C hS (fun _ h => h) hM hl (fun _ h => h) (c_countAnswer hfl Γ _ _ _ wB hB) kX6_countAnswer t_1157 (HM.recv C hM clo_6 (wn6 wB)) dX6_answer_93 rfl rfl (Nat.le_of_ble_eq_true rfl) (by decide) rfl ⟨by decide, by decide⟩ xNo_goes (fun H locs hc_93 hM hS => ?_)
            refine lv_aload_n hx hb dX6_answer_96 rfl (lv_at hl 0 rfl) ?_
            refine g_getN C hM clo_4 7 (by decide) hC n_778 rfl (v := .int (mT _ 4 7 _)) rfl dX6_answer_97 ?_
            exact g_iret C hr hM hS dX6_answer_100 (by decide) (by decide) ⟨by simp [rAnswer, hp_16, hc_2, c_12, c_35, c_43, c_70], by rw [if_pos c_70]; rfl, rfl, by rw [if_pos c_70]; rfl⟩
        · skip
          exact g_throwEW C ht (xp_of 2 (by simp [rAnswer, hp_16, hc_2, c_12, c_35, c_43]) rfl) hM hS (fun _ h => h) hl (strX_24) dX6_answer_46 dX6_answer_49 dX6_answer_50 dX6_answer_53 dX6_answer_56 rfl (Nat.le_of_ble_eq_true rfl) ⟨by decide, by decide⟩ (by decide) (by decide)

def cls0 (M : Mem) (i : Nat) : Mem := match mP M 4 11 i with
  | none => M
  | some q => gainM M q (toM M i)
def clsM (M : Mem) (i : Nat) : Mem := sT (sT (sP (cls0 M i) 4 11 i none) 4 6 i 99) 4 12 i (mT M 6 9 0)
theorem wf_gain {M : Mem} {i q : Nat} (w : Wf M) : Wf (gainM M i q) := wf_sT (fun z => absurd z.1 (by decide)) (fun z => absurd z.1 (by decide)) w
theorem mN_gain {M : Mem} {i q : Nat} : mN (gainM M i q) = mN M := rfl
def rClose (M : Mem) (x : Int32) : Nat := if inN x (mN M 4) = true then (if mT M 4 6 (ix x) = 97 then 0 else 2) else 1
set_option maxHeartbeats 4000000 in
set_option maxRecDepth 100000 in
theorem c_close {l : Launch} (hfl : l.stackTraces = false) (Γ : Gm) (K : Nat → Nat → Nat) (M : Mem) (x : Int32) (w : Wf M) : CT l Γ (gFree Γ) yX6_close (wsO yX6_close cX6_close 3 (some .int)) 9 [.ref (K 6 0), .int x] K M (DD (rClose M x = 0) (some (.int (ccN (clsM M (ix x)) (mN M 4)))) K (clsM M (ix x))) (XP ["java/lang/IndexOutOfBoundsException", "java/lang/IllegalStateException"] (rClose M x)) 2 12 := by
  refine ct_intro hfl (by decide) (Nat.le_of_ble_eq_true rfl) ?_
  intro p e s m args below meth c C ht hr hnm hM ls hl
  have hx := C.1
  have hb := C.2.1
  have hS : va_S (gFree Γ) s.heap s.heap [] := va_S.rf
  have hl : lv_has ls 3 [(0, .ref (K 6 0)), (1, .int x)] := hl
  have hb4 := wn4 w
  have hb0 := wn0 w
  have hb2 := wn2 w
  refine lv_aload_n hx hb dX6_close_0 rfl (lv_at hl 0 rfl) ?_
  refine lv_iload_n hx hb dX6_close_1 rfl (lv_at hl 1 rfl) ?_
  refine g_cV C hS (fun _ h => h) hM hl (fun _ h => h.elim) (c_ticketNumbered hfl Γ _ _ _ (by assumption)) kX6_ticketNumbered t_908 (HM.recv C hM clo_6 (wn6 (by assumption))) dX6_close_2 rfl rfl (Nat.le_of_ble_eq_true rfl) (by decide) rfl ⟨by decide, by decide⟩ (g_pass C ht (fun E h => xp_of 0 (by simp [rClose, h.2]) h.1) (by decide) (by decide)) (fun H locs hc_2 hM hS => ?_)
  have hq_2 := (inN_ix hc_2 (by have := wn4 w; omega)).1
  refine lv_astore_n (lv' := [(2, _), (0, _), (1, _)]) hx hb dX6_close_5 rfl hl (by decide) rfl (fun ls hl => ?_)
  refine lv_aload_n hx hb dX6_close_6 rfl (lv_at hl 0 rfl) ?_
  refine g_getN C hM clo_4 6 (by decide) (by assumption) n_776 rfl (v := .int (mT _ 4 6 _)) rfl dX6_close_7 ?_
  refine lv_bipush (v := 97) hx hb dX6_close_10 (by decide) ?_
  refine lv_icmp_eq (tgt := 26) hx hb dX6_close_12 (by decide) (fun c_12 => ?_) (fun c_12 => ?_)
  · skip
    refine lv_aload_n hx hb dX6_close_26 rfl (lv_at hl 0 rfl) ?_
    rcases hp_27 : (mP M 4 11 (ix x)) with _ | q_27
    · refine g_getN C hM clo_4 11 (by decide) (by assumption) n_785 rfl (v := .null) (fvN rfl hp_27) dX6_close_27 ?_
      refine lv_ifnullN (tgt := 44) hx hb dX6_close_30 (by decide) ?_
      refine lv_aload_n hx hb dX6_close_44 rfl (lv_at hl 0 rfl) ?_
      refine lv_null hx hb dX6_close_45 ?_
      refine g_putP C hM hS clo_4 11 (by decide) none rfl rfl (by assumption) rfl rfl rfl rfl dX6_close_46 (Or.inr n_785) (fun H locs hM hS => ?_)
      refine lv_aload_n hx hb dX6_close_49 rfl (lv_at hl 0 rfl) ?_
      refine lv_bipush (v := 99) hx hb dX6_close_50 (by decide) ?_
      refine g_putI C hM hS clo_4 6 (by decide) rfl (by assumption) rfl rfl rfl rfl dX6_close_52 (Or.inr n_776) (fun H locs hM hS => ?_)
      refine lv_aload_n hx hb dX6_close_55 rfl (lv_at hl 0 rfl) ?_
      refine lv_aload_n hx hb dX6_close_56 rfl (lv_at hl 1 rfl) ?_
      refine g_get C hM clo_6 9 (by decide) (show 0 < mN M 6 from wn6 w) t_108 rfl (v := .int (mT _ 6 9 _)) rfl dX6_close_57 ?_
      refine g_putI C hM hS clo_4 12 (by decide) rfl (by assumption) rfl rfl rfl rfl dX6_close_60 (Or.inr n_787) (fun H locs hM hS => ?_)
      have wB : Wf (sT (sT (sP M 4 11 (ix x) none) 4 6 (ix x) 99) 4 12 (ix x) (mT M 6 9 0)) := wf_sT (by decide) (by decide) (wf_st (wf_sent w (fun a h => nomatch h)))
      have e9 : sT (sT (sP M 4 11 (ix x) none) 4 6 (ix x) 99) 4 12 (ix x) (mT M 6 9 0) = clsM M (ix x) := by rw [clsM, cls0, hp_27]
      refine lv_aload_n hx hb dX6_close_63 rfl (lv_at hl 1 rfl) ?_
      refine g_cV C hS (fun _ h => h) hM hl (fun _ h => h.elim) (c_closedTickets hfl Γ _ _ wB) kX6_closedTickets t_1174 (HM.recv C hM clo_6 (wn6 wB)) dX6_close_64 rfl rfl (Nat.le_of_ble_eq_true rfl) (by decide) rfl ⟨by decide, by decide⟩ xNo_goes (fun H locs hc_64 hM hS => ?_)
      exact g_iret C hr hM hS dX6_close_67 (by decide) (by decide) ⟨by simp [rClose, hc_2, c_12], by rw [← e9]; rfl, rfl, e9⟩
    · refine g_getN C hM clo_4 11 (by decide) (by assumption) n_785 rfl (v := _) (fvR rfl hp_27) dX6_close_27 ?_
      refine lv_ifnull hx hb dX6_close_30 ?_
      refine lv_aload_n hx hb dX6_close_33 rfl (lv_at hl 0 rfl) ?_
      refine g_getN C hM clo_4 11 (by decide) (by assumption) n_785 rfl (v := _) (fvR rfl hp_27) dX6_close_34 ?_
      refine lv_aload_n hx hb dX6_close_37 rfl (lv_at hl 0 rfl) ?_
      refine g_getN C hM clo_4 4 (by decide) (by assumption) n_772 rfl (v := .int (mT _ 4 4 _)) rfl dX6_close_38 ?_
      rw [(w.2.2.1 _ hq_2).2.2.1]
      refine g_cV C hS (fun _ h => h) hM hl (fun _ h => h) (c_gainWeight hfl Γ _ _ _ (toM M (ix x)) w ((w.2.2.1 _ hq_2).2.2.2.2.2.1 _ hp_27) (w.2.2.1 _ hq_2).2.2.2.1) kX3_gainWeight t_1169 (HM.recv C hM clo_3 ((w.2.2.1 _ hq_2).2.2.2.2.2.1 _ hp_27)) dX6_close_41 rfl rfl (Nat.le_of_ble_eq_true rfl) (by decide) rfl ⟨by decide, by decide⟩ xNo_goes (fun H locs hc_41 hM hS => ?_)
      refine lv_aload_n hx hb dX6_close_44 rfl (lv_at hl 0 rfl) ?_
      refine lv_null hx hb dX6_close_45 ?_
      refine g_putP C hM hS clo_4 11 (by decide) none rfl rfl (by assumption) rfl rfl rfl rfl dX6_close_46 (Or.inr n_785) (fun H locs hM hS => ?_)
      refine lv_aload_n hx hb dX6_close_49 rfl (lv_at hl 0 rfl) ?_
      refine lv_bipush (v := 99) hx hb dX6_close_50 (by decide) ?_
      refine g_putI C hM hS clo_4 6 (by decide) rfl (by assumption) rfl rfl rfl rfl dX6_close_52 (Or.inr n_776) (fun H locs hM hS => ?_)
      refine lv_aload_n hx hb dX6_close_55 rfl (lv_at hl 0 rfl) ?_
      refine lv_aload_n hx hb dX6_close_56 rfl (lv_at hl 1 rfl) ?_
      refine g_get C hM clo_6 9 (by decide) (show 0 < mN M 6 from wn6 w) t_108 rfl (v := .int (mT _ 6 9 _)) rfl dX6_close_57 ?_
      refine g_putI C hM hS clo_4 12 (by decide) rfl (by assumption) rfl rfl rfl rfl dX6_close_60 (Or.inr n_787) (fun H locs hM hS => ?_)
      have wB : Wf (sT (sT (sP (gainM M q_27 (toM M (ix x))) 4 11 (ix x) none) 4 6 (ix x) 99) 4 12 (ix x) (mT M 6 9 0)) := wf_sT (by decide) (by decide) (wf_st (wf_sent (wf_gain w) (fun a h => nomatch h)))
      have e9 : sT (sT (sP (gainM M q_27 (toM M (ix x))) 4 11 (ix x) none) 4 6 (ix x) 99) 4 12 (ix x) (mT M 6 9 0) = clsM M (ix x) := by rw [clsM, cls0, hp_27]
      refine lv_aload_n hx hb dX6_close_63 rfl (lv_at hl 1 rfl) ?_
      refine g_cV C hS (fun _ h => h) hM hl (fun _ h => h.elim) (c_closedTickets hfl Γ _ _ wB) kX6_closedTickets t_1174 (HM.recv C hM clo_6 (wn6 wB)) dX6_close_64 rfl rfl (Nat.le_of_ble_eq_true rfl) (by decide) rfl ⟨by decide, by decide⟩ xNo_goes (fun H locs hc_64 hM hS => ?_)
      exact g_iret C hr hM hS dX6_close_67 (by decide) (by decide) ⟨by simp [rClose, hc_2, c_12], by rw [← e9]; rfl, rfl, e9⟩
  · skip
    exact g_throwW C ht (xp_of 1 (by simp [rClose, hc_2, c_12]) rfl) hM hS (fun _ h => h) hl thr_122 (strX_25) dX6_close_15 dX6_close_18 dX6_close_19 dX6_close_22 dX6_close_25 rfl (Nat.le_of_ble_eq_true rfl) ⟨by decide, by decide⟩ (by decide) (by decide)

def rWeight (M : Mem) (x : Int32) (y : Int32) : Nat := if inN x (mN M 3) = true then (if inB y 0 5 = true then 0 else 2) else 1
set_option maxHeartbeats 4000000 in
set_option maxRecDepth 100000 in
theorem c_weight {l : Launch} (hfl : l.stackTraces = false) (Γ : Gm) (K : Nat → Nat → Nat) (M : Mem) (x : Int32) (y : Int32) (w : Wf M) : CT l Γ pF yX6_weight (wsO yX6_weight cX6_weight 3 (some .int)) 8 [.ref (K 6 0), .int x, .int y] K M (DD (rWeight M x y = 0) (some (.int (mT M 14 (ix y) (ix x)))) K (M)) (XP ["java/util/NoSuchElementException", "java/lang/IllegalArgumentException"] (rWeight M x y)) 2 12 := by
  refine ct_intro hfl (by decide) (Nat.le_of_ble_eq_true rfl) ?_
  intro p e s m args below meth c C ht hr hnm hM ls hl
  have hx := C.1
  have hb := C.2.1
  have hS : va_S pF s.heap s.heap [] := va_S.rf
  have hl : lv_has ls 3 [(0, .ref (K 6 0)), (1, .int x), (2, .int y)] := hl
  have hb4 := wn4 w
  have hb0 := wn0 w
  have hb2 := wn2 w
  refine lv_aload_n hx hb dX6_weight_0 rfl (lv_at hl 0 rfl) ?_
  refine lv_iload_n hx hb dX6_weight_1 rfl (lv_at hl 1 rfl) ?_
  refine g_cV C hS (fun _ h => h.elim) hM hl (fun _ h => h) (c_isAnswer hfl Γ _ _ _ (by assumption)) kX6_isAnswer t_1151 (HM.recv C hM clo_6 (wn6 (by assumption))) dX6_weight_2 rfl rfl (Nat.le_of_ble_eq_true rfl) (by decide) rfl ⟨by decide, by decide⟩ xNo_goes (fun H locs hc_2 hM hS => ?_)
  refine g_ifneB (tgt := 19) hx hb dX6_weight_5 (by decide) (fun c_5 => ?_) (fun c_5 => ?_)
  · skip
    refine lv_iload_n hx hb dX6_weight_19 rfl (lv_at hl 2 rfl) ?_
    refine g_cS C hS (fun _ h => h.elim) hM hl (fun _ h => h) (c_isTopic hfl Γ _ _ _) kX6_isTopic t_699 dX6_weight_20 rfl rfl (Nat.le_of_ble_eq_true rfl) (by decide) rfl ⟨by decide, by decide⟩ xNo_goes (fun H locs hc_20 hM hS => ?_)
    refine g_ifneB (tgt := 36) hx hb dX6_weight_23 (by decide) (fun c_23 => ?_) (fun c_23 => ?_)
    · skip
      have hb3 := wn3 w
      obtain ⟨hx1, hx2⟩ := inN_ix (n := mN M 3) c_5 (by omega)
      obtain ⟨hy1, hy2⟩ := inB_ix (n := 6) c_23 (by omega)
      refine lv_aload_n hx hb dX6_weight_36 rfl (lv_at hl 0 rfl) ?_
      refine g_get C hM clo_6 6 (by decide) (wn6 (by assumption)) t_105 rfl (v := _) (fv4 rfl) dX6_weight_37 ?_
      refine lv_iload_n hx hb dX6_weight_40 rfl (lv_at hl 1 rfl) ?_
      refine g_cV C hS (fun _ h => h.elim) hM hl (fun _ h => h) (c_get13 hfl Γ _ _ _ (by assumption) (by assumption)) kJx4a65c_get_915e3 t_181 (HM.recvL C hM rfl (wn13 (by assumption))) dX6_weight_41 rfl rfl (Nat.le_of_ble_eq_true rfl) (by decide) rfl ⟨by decide, by decide⟩ xNo_goes (fun H locs hc_41 hM hS => ?_)
      refine g_chk C hM clo_3 hx1 t_1156 dX6_weight_44 ?_
      refine g_getN C hM clo_3 1 (by decide) hx1 n_1214 rfl (v := _) (fv3 rfl) dX6_weight_47 ?_
      refine lv_iload_n hx hb dX6_weight_50 rfl (lv_at hl 2 rfl) ?_
      refine g_iald C hM rw_14 (wn14 w hx1) (ix y) hy2 hy1 (by decide) dX6_weight_51 ?_
      exact g_iret C hr hM hS dX6_weight_52 (by decide) (by decide) ⟨by simp [rWeight, c_5, c_23], rfl, rfl, rfl⟩
    · skip
      exact g_throw C ht (xp_of 1 (by simp [rWeight, c_5, c_23]) rfl) hM hS (fun _ h => h.elim) hl thr_59 (strX_10) dX6_weight_26 dX6_weight_29 dX6_weight_30 dX6_weight_32 dX6_weight_35 rfl (Nat.le_of_ble_eq_true rfl) ⟨by decide, by decide⟩ (by decide) (by decide)
  · skip
    exact g_throwEW C ht (xp_of 0 (by simp [rWeight, c_5]) rfl) hM hS (fun _ h => h.elim) hl (strX_24) dX6_weight_8 dX6_weight_11 dX6_weight_12 dX6_weight_15 dX6_weight_18 rfl (Nat.le_of_ble_eq_true rfl) ⟨by decide, by decide⟩ (by decide) (by decide)

