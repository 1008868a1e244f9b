theorem kX7_time : CeeV yX7_time RX7 cX7_time 1 (some .int) 0 := ⟨t_1415, t_1416, t_7, t_1417, by decide +kernel, by decide⟩
theorem kX7_mails : CeeV yX7_mails RX7 cX7_mails 1 (some .int) 0 := ⟨t_1467, t_1468, t_7, t_1469, by decide +kernel, by decide⟩
theorem kX7_tickets : CeeV yX7_tickets RX7 cX7_tickets 1 (some .int) 0 := ⟨t_1487, t_1488, t_7, t_1489, by decide +kernel, by decide⟩
theorem kX7_breaches : CeeV yX7_breaches RX7 cX7_breaches 1 (some .int) 0 := ⟨t_1640, t_1641, t_7, t_1642, by decide +kernel, by decide⟩
theorem kX7_answers : CeeV yX7_answers RX7 cX7_answers 1 (some .int) 0 := ⟨t_1644, t_1645, t_7, t_1646, by decide +kernel, by decide⟩
theorem kX7_minutesOpen : CeeV yX7_minutesOpen RX7 cX7_minutesOpen 1 (some .long) 0 := ⟨t_1648, t_1649, t_7, t_1650, by decide +kernel, by decide⟩
theorem kX7_isSound : CeeV yX7_isSound RX7 cX7_isSound 1 (some .boolean) 0 := ⟨t_1660, t_1661, t_7, t_1662, by decide +kernel, by decide⟩
theorem kX7_setClass : CeeV yX7_setClass RX7 cX7_setClass 4 (some .int) 2 := ⟨t_1423, t_1424, t_7, t_1425, by decide +kernel, by decide⟩
theorem kX7_setPromise : CeeV yX7_setPromise RX7 cX7_setPromise 4 (some .int) 2 := ⟨t_1427, t_1428, t_7, t_1429, by decide +kernel, by decide⟩
theorem kX7_ticketOf : CeeV yX7_ticketOf RX7 cX7_ticketOf 2 (some .int) 1 := ⟨t_1463, t_1464, t_7, t_1465, by decide +kernel, by decide⟩
theorem kX7_mailsOf : CeeV yX7_mailsOf RX7 cX7_mailsOf 2 (some .int) 1 := ⟨t_1471, t_1472, t_7, t_1473, by decide +kernel, by decide⟩
theorem kX7_mailAt : CeeV yX7_mailAt RX7 cX7_mailAt 5 (some .int) 2 := ⟨t_1483, t_1484, t_7, t_1485, by decide +kernel, by decide⟩
theorem kX7_stateOf : CeeV yX7_stateOf RX7 cX7_stateOf 2 (some .char) 1 := ⟨t_1491, t_1492, t_7, t_1493, by decide +kernel, by decide⟩
theorem kX7_mergedInto : CeeV yX7_mergedInto RX7 cX7_mergedInto 3 (some .int) 1 := ⟨t_1495, t_1496, t_7, t_1497, by decide +kernel, by decide⟩
theorem kX7_setTopic : CeeV yX7_setTopic RX7 cX7_setTopic 4 (some .int) 2 := ⟨t_1499, t_1500, t_7, t_1501, by decide +kernel, by decide⟩
theorem kX7_clock : CeeV yX7_clock RX7 cX7_clock 2 (some .int) 1 := ⟨t_1507, t_1508, t_7, t_1509, by decide +kernel, by decide⟩
theorem kX7_leftOf : CeeV yX7_leftOf RX7 cX7_leftOf 2 (some .int) 1 := ⟨t_1515, t_1516, t_7, t_1517, by decide +kernel, by decide⟩
theorem kX7_isBreached : CeeV yX7_isBreached RX7 cX7_isBreached 2 (some .boolean) 1 := ⟨t_1519, t_1520, t_7, t_1521, by decide +kernel, by decide⟩
theorem kX7_addAgent : CeeV yX7_addAgent RX7 cX7_addAgent 2 (some .int) 1 := ⟨t_1523, t_1524, t_7, t_1525, by decide +kernel, by decide⟩
theorem kX7_learn : CeeV yX7_learn RX7 cX7_learn 3 (some .int) 2 := ⟨t_1527, t_1528, t_7, t_1529, by decide +kernel, by decide⟩
theorem kX7_setOnShift : CeeV yX7_setOnShift RX7 cX7_setOnShift 5 (some .boolean) 2 := ⟨t_1538, t_1539, t_7, t_1540, by decide +kernel, by decide⟩
theorem kX7_held : CeeV yX7_held RX7 cX7_held 2 (some .int) 1 := ⟨t_1542, t_1543, t_7, t_1544, by decide +kernel, by decide⟩
theorem kX7_agentOf : CeeV yX7_agentOf RX7 cX7_agentOf 2 (some .int) 1 := ⟨t_1550, t_1551, t_7, t_1552, by decide +kernel, by decide⟩
theorem kX7_nextFor : CeeV yX7_nextFor RX7 cX7_nextFor 2 (some .int) 1 := ⟨t_1554, t_1555, t_7, t_1556, by decide +kernel, by decide⟩
theorem kX7_nextByTickets : CeeV yX7_nextByTickets RX7 cX7_nextByTickets 2 (some .int) 1 := ⟨t_1574, t_1575, t_7, t_1576, by decide +kernel, by decide⟩
theorem kX7_waiting : CeeV yX7_waiting RX7 cX7_waiting 4 (some .int) 1 := ⟨t_1579, t_1580, t_7, t_1581, by decide +kernel, by decide⟩
theorem kX7_take : CeeV yX7_take RX7 cX7_take 3 (some .int) 1 := ⟨t_1583, t_1584, t_7, t_1585, by decide +kernel, by decide⟩
theorem kX7_handOver : CeeV yX7_handOver RX7 cX7_handOver 3 (some .int) 2 := ⟨t_1587, t_1588, t_7, t_1589, by decide +kernel, by decide⟩
theorem kX7_giveBack : CeeV yX7_giveBack RX7 cX7_giveBack 3 (some .int) 1 := ⟨t_1591, t_1592, t_7, t_1593, by decide +kernel, by decide⟩
theorem kX7_turns : CeeV yX7_turns RX7 cX7_turns 4 (some .int) 3 := ⟨t_1600, s_49, t_7, t_1601, by decide +kernel, by decide⟩
theorem kX7_hold : CeeV yX7_hold RX7 cX7_hold 2 (some .int) 1 := ⟨t_1595, t_1596, t_7, t_1597, by decide +kernel, by decide⟩
theorem kX7_resume : CeeV yX7_resume RX7 cX7_resume 2 (some .int) 1 := ⟨t_1603, t_1604, t_7, t_1605, by decide +kernel, by decide⟩
theorem kX7_answer : CeeV yX7_answer RX7 cX7_answer 3 (some .int) 2 := ⟨t_1607, t_1608, t_7, t_1609, by decide +kernel, by decide⟩
theorem kX7_close : CeeV yX7_close RX7 cX7_close 4 (some .int) 1 := ⟨t_1611, t_1612, t_7, t_1613, by decide +kernel, by decide⟩
theorem kX7_merge : CeeV yX7_merge RX7 cX7_merge 4 (some .int) 2 := ⟨t_1615, t_1616, t_7, t_1617, by decide +kernel, by decide⟩
theorem kX7_addAnswer : CeeV yX7_addAnswer RX7 cX7_addAnswer 2 (some .int) 1 := ⟨t_1619, t_1620, t_7, t_1621, by decide +kernel, by decide⟩
theorem kX7_weight : CeeV yX7_weight RX7 cX7_weight 3 (some .int) 2 := ⟨t_1623, t_1624, t_7, t_1625, by decide +kernel, by decide⟩
theorem kX7_suggestion : CeeV yX7_suggestion RX7 cX7_suggestion 7 (some .int) 1 := ⟨t_1627, t_1628, t_7, t_1629, by decide +kernel, by decide⟩
theorem kX7_suggestionByWords : CeeV yX7_suggestionByWords RX7 cX7_suggestionByWords 2 (some .int) 1 := ⟨t_1635, t_1636, t_7, t_1637, by decide +kernel, by decide⟩
theorem kX7_pass : CeeV yX7_pass RX7 cX7_pass 4 (some .int) 1 := ⟨t_1396, t_1397, t_7, t_1398, by decide +kernel, by decide⟩
theorem kX7_minute : CeeV yX7_minute RX7 cX7_minute 3 (some .int) 0 := ⟨t_1408, s_29, t_7, t_1409, by decide +kernel, by decide⟩
theorem kX7_mail : CeeV yX7_mail RX7 cX7_mail 7 (some .int) 5 := ⟨t_1431, t_1432, t_7, t_1433, by decide +kernel, by decide⟩
theorem kX7_joined : CeeV yX7_joined RX7 cX7_joined 6 (some .int) 3 := ⟨t_1436, s_32, t_7, t_1437, by decide +kernel, by decide⟩
theorem kX7_makes : CeeV yX7_makes RX7 cX7_makes 4 none 3 := ⟨t_1452, s_36, t_7, t_1453, by decide +kernel, by decide⟩
theorem kX7_opens : CeeV yX7_opens RX7 cX7_opens 2 none 1 := ⟨t_1456, s_37, t_7, t_1457, by decide +kernel, by decide⟩
theorem kX7_learns : CeeV yX7_learns RX7 cX7_learns 4 none 2 := ⟨t_1460, s_38, t_7, t_1461, by decide +kernel, by decide⟩
theorem kX7_keptShare : CeeV yX7_keptShare RX7 cX7_keptShare 1 (some .float) 0 := ⟨t_1652, t_1653, t_7, t_1654, by decide +kernel, by decide⟩
theorem kX7_meanClock : CeeV yX7_meanClock RX7 cX7_meanClock 1 (some .double) 0 := ⟨t_1656, t_1657, t_7, t_1658, by decide +kernel, by decide⟩
def thI : Nat → Int32
  | 0 => 0
  | 1 => 1
  | 2 => 2
  | 3 => 3
  | _ => 4
set_option maxHeartbeats 4000000 in
set_option maxRecDepth 100000 in
theorem m_time {l : Launch} (hfl : l.stackTraces = false) (Γ : Gm) (K : Nat → Nat → Nat) (M : Mem)  (D : Mem) (w : Wf D) (r : RC D M) : CT l Γ (gFree Γ) yX7_time (wsO yX7_time cX7_time 1 (some .int)) 6 [.ref (K 7 0)] K M (DD True (some (.int (mT D 6 9 0))) K (sT M 7 19 0 0)) xNo 0 0 := by
  refine ct_intro hfl (by decide) (Nat.le_of_ble_eq_true rfl) ?_
  intro p e s m args below meth c C ht hr hnm hM ls hl
  have hx := C.1
  have hb := C.2.1
  have hS : va_S (gFree Γ) s.heap s.heap [] := va_S.rf
  have hl : lv_has ls 1 [(0, .ref (K 7 0))] := hl
  have hb4 := wn4 w
  have hb0 := wn0 w
  have hb2 := wn2 w
  have hb3 := wn3 w
  refine lv_aload_n hx hb dX7_time_0 rfl (lv_at hl 0 rfl) ?_
  refine lv_aload_n hx hb dX7_time_1 rfl (lv_at hl 0 rfl) ?_
  refine g_get C hM clo_7 20 (by decide) (r7 r) t_1318 rfl (v := .int (mT _ 7 20 _)) rfl dX7_time_2 ?_
  rw [rtime r]
  refine g_cV C hS (fun _ h => h) hM hl (fun _ h => h) (m_plain hfl Γ _ _ _ (r7 r)) kX7_plain t_1418 (HM.recv C hM clo_7 (r7 r)) dX7_time_5 rfl rfl (Nat.le_of_ble_eq_true rfl) (by decide) rfl ⟨by decide, by decide⟩ xNo_goes (fun H locs hc_5 hM hS => ?_)
  exact g_iret C hr hM hS dX7_time_8 (by decide) (by decide) ⟨trivial, rfl, rfl, rfl⟩

set_option maxHeartbeats 4000000 in
set_option maxRecDepth 100000 in
theorem m_mails {l : Launch} (hfl : l.stackTraces = false) (Γ : Gm) (K : Nat → Nat → Nat) (M : Mem)  (D : Mem) (w : Wf D) (r : RC D M) : CT l Γ (gFree Γ) yX7_mails (wsO yX7_mails cX7_mails 1 (some .int)) 6 [.ref (K 7 0)] K M (DD True (some (.int (nI (mN D 2)))) K (sT M 7 19 0 0)) xNo 0 0 := by
  refine ct_intro hfl (by decide) (Nat.le_of_ble_eq_true rfl) ?_
  intro p e s m args below meth c C ht hr hnm hM ls hl
  have hx := C.1
  have hb := C.2.1
  have hS : va_S (gFree Γ) s.heap s.heap [] := va_S.rf
  have hl : lv_has ls 1 [(0, .ref (K 7 0))] := hl
  have hb4 := wn4 w
  have hb0 := wn0 w
  have hb2 := wn2 w
  have hb3 := wn3 w
  refine lv_aload_n hx hb dX7_mails_0 rfl (lv_at hl 0 rfl) ?_
  refine lv_aload_n hx hb dX7_mails_1 rfl (lv_at hl 0 rfl) ?_
  refine g_get C hM clo_7 21 (by decide) (r7 r) t_1319 rfl (v := .int (mT _ 7 21 _)) rfl dX7_mails_2 ?_
  rw [rmails r]
  refine g_cV C hS (fun _ h => h) hM hl (fun _ h => h) (m_plain hfl Γ _ _ _ (r7 r)) kX7_plain t_1418 (HM.recv C hM clo_7 (r7 r)) dX7_mails_5 rfl rfl (Nat.le_of_ble_eq_true rfl) (by decide) rfl ⟨by decide, by decide⟩ xNo_goes (fun H locs hc_5 hM hS => ?_)
  exact g_iret C hr hM hS dX7_mails_8 (by decide) (by decide) ⟨trivial, rfl, rfl, rfl⟩

set_option maxHeartbeats 4000000 in
set_option maxRecDepth 100000 in
theorem m_tickets {l : Launch} (hfl : l.stackTraces = false) (Γ : Gm) (K : Nat → Nat → Nat) (M : Mem)  (D : Mem) (w : Wf D) (r : RC D M) : CT l Γ (gFree Γ) yX7_tickets (wsO yX7_tickets cX7_tickets 1 (some .int)) 6 [.ref (K 7 0)] K M (DD True (some (.int (nI (mN D 4)))) K (sT M 7 19 0 0)) xNo 0 0 := by
  refine ct_intro hfl (by decide) (Nat.le_of_ble_eq_true rfl) ?_
  intro p e s m args below meth c C ht hr hnm hM ls hl
  have hx := C.1
  have hb := C.2.1
  have hS : va_S (gFree Γ) s.heap s.heap [] := va_S.rf
  have hl : lv_has ls 1 [(0, .ref (K 7 0))] := hl
  have hb4 := wn4 w
  have hb0 := wn0 w
  have hb2 := wn2 w
  have hb3 := wn3 w
  refine lv_aload_n hx hb dX7_tickets_0 rfl (lv_at hl 0 rfl) ?_
  refine lv_aload_n hx hb dX7_tickets_1 rfl (lv_at hl 0 rfl) ?_
  refine g_get C hM clo_7 22 (by decide) (r7 r) t_1320 rfl (v := .int (mT _ 7 22 _)) rfl dX7_tickets_2 ?_
  rw [rticks r]
  refine g_cV C hS (fun _ h => h) hM hl (fun _ h => h) (m_plain hfl Γ _ _ _ (r7 r)) kX7_plain t_1418 (HM.recv C hM clo_7 (r7 r)) dX7_tickets_5 rfl rfl (Nat.le_of_ble_eq_true rfl) (by decide) rfl ⟨by decide, by decide⟩ xNo_goes (fun H locs hc_5 hM hS => ?_)
  exact g_iret C hr hM hS dX7_tickets_8 (by decide) (by decide) ⟨trivial, rfl, rfl, rfl⟩

set_option maxHeartbeats 4000000 in
set_option maxRecDepth 100000 in
theorem m_breaches {l : Launch} (hfl : l.stackTraces = false) (Γ : Gm) (K : Nat → Nat → Nat) (M : Mem)  (D : Mem) (w : Wf D) (r : RC D M) : CT l Γ (gFree Γ) yX7_breaches (wsO yX7_breaches cX7_breaches 1 (some .int)) 6 [.ref (K 7 0)] K M (DD True (some (.int (mT D 6 10 0))) K (sT M 7 19 0 0)) xNo 0 0 := by
  refine ct_intro hfl (by decide) (Nat.le_of_ble_eq_true rfl) ?_
  intro p e s m args below meth c C ht hr hnm hM ls hl
  have hx := C.1
  have hb := C.2.1
  have hS : va_S (gFree Γ) s.heap s.heap [] := va_S.rf
  have hl : lv_has ls 1 [(0, .ref (K 7 0))] := hl
  have hb4 := wn4 w
  have hb0 := wn0 w
  have hb2 := wn2 w
  have hb3 := wn3 w
  refine lv_aload_n hx hb dX7_breaches_0 rfl (lv_at hl 0 rfl) ?_
  refine lv_aload_n hx hb dX7_breaches_1 rfl (lv_at hl 0 rfl) ?_
  refine g_get C hM clo_7 25 (by decide) (r7 r) t_1323 rfl (v := .int (mT _ 7 25 _)) rfl dX7_breaches_2 ?_
  rw [(rF r).2.2.2.2.2.1]
  refine g_cV C hS (fun _ h => h) hM hl (fun _ h => h) (m_plain hfl Γ _ _ _ (r7 r)) kX7_plain t_1418 (HM.recv C hM clo_7 (r7 r)) dX7_breaches_5 rfl rfl (Nat.le_of_ble_eq_true rfl) (by decide) rfl ⟨by decide, by decide⟩ xNo_goes (fun H locs hc_5 hM hS => ?_)
  exact g_iret C hr hM hS dX7_breaches_8 (by decide) (by decide) ⟨trivial, rfl, rfl, rfl⟩

set_option maxHeartbeats 4000000 in
set_option maxRecDepth 100000 in
theorem m_answers {l : Launch} (hfl : l.stackTraces = false) (Γ : Gm) (K : Nat → Nat → Nat) (M : Mem)  (D : Mem) (w : Wf D) (r : RC D M) : CT l Γ (gFree Γ) yX7_answers (wsO yX7_answers cX7_answers 1 (some .int)) 6 [.ref (K 7 0)] K M (DD True (some (.int (mT D 6 11 0))) K (sT M 7 19 0 0)) xNo 0 0 := by
  refine ct_intro hfl (by decide) (Nat.le_of_ble_eq_true rfl) ?_
  intro p e s m args below meth c C ht hr hnm hM ls hl
  have hx := C.1
  have hb := C.2.1
  have hS : va_S (gFree Γ) s.heap s.heap [] := va_S.rf
  have hl : lv_has ls 1 [(0, .ref (K 7 0))] := hl
  have hb4 := wn4 w
  have hb0 := wn0 w
  have hb2 := wn2 w
  have hb3 := wn3 w
  refine lv_aload_n hx hb dX7_answers_0 rfl (lv_at hl 0 rfl) ?_
  refine lv_aload_n hx hb dX7_answers_1 rfl (lv_at hl 0 rfl) ?_
  refine g_get C hM clo_7 26 (by decide) (r7 r) t_1324 rfl (v := .int (mT _ 7 26 _)) rfl dX7_answers_2 ?_
  rw [(rF r).2.2.2.2.2.2.1]
  refine g_cV C hS (fun _ h => h) hM hl (fun _ h => h) (m_plain hfl Γ _ _ _ (r7 r)) kX7_plain t_1418 (HM.recv C hM clo_7 (r7 r)) dX7_answers_5 rfl rfl (Nat.le_of_ble_eq_true rfl) (by decide) rfl ⟨by decide, by decide⟩ xNo_goes (fun H locs hc_5 hM hS => ?_)
  exact g_iret C hr hM hS dX7_answers_8 (by decide) (by decide) ⟨trivial, rfl, rfl, rfl⟩

set_option maxHeartbeats 4000000 in
set_option maxRecDepth 100000 in
theorem m_minutesOpen {l : Launch} (hfl : l.stackTraces = false) (Γ : Gm) (K : Nat → Nat → Nat) (M : Mem)  (D : Mem) (w : Wf D) (r : RC D M) : CT l Γ (gFree Γ) yX7_minutesOpen (wsO yX7_minutesOpen cX7_minutesOpen 1 (some .long)) 6 [.ref (K 7 0)] K M (DD True (some (.long (mJ D 6 14 0))) K (sT M 7 19 0 0)) xNo 0 0 := by
  refine ct_intro hfl (by decide) (Nat.le_of_ble_eq_true rfl) ?_
  intro p e s m args below meth c C ht hr hnm hM ls hl
  have hx := C.1
  have hb := C.2.1
  have hS : va_S (gFree Γ) s.heap s.heap [] := va_S.rf
  have hl : lv_has ls 1 [(0, .ref (K 7 0))] := hl
  refine lv_aload_n hx hb dX7_minutesOpen_0 rfl (lv_at hl 0 rfl) ?_
  refine lv_iconst (v := 0) hx hb dX7_minutesOpen_1 (by decide) ?_
  refine g_putI C hM hS clo_7 19 (by decide) rfl (r7 r) rfl rfl rfl rfl dX7_minutesOpen_2 (Or.inl t_1317) (fun H locs hM hS => ?_)
  refine lv_aload_n hx hb dX7_minutesOpen_5 rfl (lv_at hl 0 rfl) ?_
  refine g_get C hM clo_7 29 (by decide) (r7 r) t_1327 rfl (v := .long (mJ _ 7 29 _)) rfl dX7_minutesOpen_6 ?_
  exact g_lret C hr hM hS dX7_minutesOpen_9 (by decide) (by decide) ⟨trivial, congrArg (fun z => some (Value.long z)) (rF r).2.2.2.2.2.2.2.2.2, rfl, rfl⟩

set_option maxHeartbeats 4000000 in
set_option maxRecDepth 100000 in
theorem m_isSound {l : Launch} (hfl : l.stackTraces = false) (Γ : Gm) (K : Nat → Nat → Nat) (M : Mem)  (D : Mem) (w : Wf D) (r : RC D M) : CT l Γ (gFree Γ) yX7_isSound (wsO yX7_isSound cX7_isSound 1 (some .boolean)) 6 [.ref (K 7 0)] K M (DD True (some (.int (bI true))) K (sT M 7 19 0 0)) xNo 0 0 := by
  refine ct_intro hfl (by decide) (Nat.le_of_ble_eq_true rfl) ?_
  intro p e s m args below meth c C ht hr hnm hM ls hl
  have hx := C.1
  have hb := C.2.1
  have hS : va_S (gFree Γ) s.heap s.heap [] := va_S.rf
  have hl : lv_has ls 1 [(0, .ref (K 7 0))] := hl
  have hb4 := wn4 w
  have hb0 := wn0 w
  have hb2 := wn2 w
  have hb3 := wn3 w
  refine lv_aload_n hx hb dX7_isSound_0 rfl (lv_at hl 0 rfl) ?_
  refine lv_iconst (v := 0) hx hb dX7_isSound_1 (by decide) ?_
  refine g_putI C hM hS clo_7 19 (by decide) rfl (r7 r) rfl rfl rfl rfl dX7_isSound_2 (Or.inl t_1317) (fun H locs hM hS => ?_)
  refine lv_iconst (v := 1) hx hb dX7_isSound_5 (by decide) ?_
  exact g_zret C hr rfl hM hS dX7_isSound_6 (by decide) (by decide) ⟨trivial, rfl, rfl, rfl⟩

set_option maxHeartbeats 4000000 in
set_option maxRecDepth 100000 in
theorem m_setClass {l : Launch} (hfl : l.stackTraces = false) (Γ : Gm) (K : Nat → Nat → Nat) (M : Mem) (x : Int32) (y : Int32) (D : Mem) (w : Wf D) (r : RC D M) : CT l Γ (gFree Γ) yX7_setClass (wsO yX7_setClass cX7_setClass 4 (some .int)) 6 [.ref (K 7 0), .int x, .int y] K M (DD True (some (.int (if rSetClass D x y = 0 then mT D 1 1 (ix x) else 0))) K (if rSetClass D x y = 0 then sT (sT M 7 19 0 0) 20 (ix x) 0 y else sT M 7 19 0 (thI (rSetClass D x y)))) xNo 0 0 := by
  refine ct_intro hfl (by decide) (Nat.le_of_ble_eq_true rfl) ?_
  intro p e s m args below meth c C ht hr hnm hM ls hl
  have hx := C.1
  have hb := C.2.1
  have hS : va_S (gFree Γ) s.heap s.heap [] := va_S.rf
  have hl : lv_has ls 4 [(0, .ref (K 7 0)), (1, .int x), (2, .int y)] := hl
  have hb4 := wn4 w
  have hb0 := wn0 w
  have hb2 := wn2 w
  have hb3 := wn3 w
  refine lv_aload_n hx hb dX7_setClass_0 rfl (lv_at hl 0 rfl) ?_
  refine lv_iload_n hx hb dX7_setClass_1 rfl (lv_at hl 1 rfl) ?_
  refine lv_iconst (v := 0) hx hb dX7_setClass_2 (by decide) ?_
  refine lv_bipush (v := 7) hx hb dX7_setClass_3 (by decide) ?_
  refine g_cS C hS (fun _ h => h) hM hl (fun _ h => h.elim) (m_in hfl Γ _ _ _ _ _) kX7_in t_1399 dX7_setClass_5 rfl rfl (Nat.le_of_ble_eq_true rfl) (by decide) rfl ⟨by decide, by decide⟩ xNo_goes (fun H locs hc_5 hM hS => ?_)
  refine g_ifeqB (tgt := 24) hx hb dX7_setClass_8 (by decide) (fun c_8 => ?_) (fun c_8 => ?_)
  · skip
    refine lv_iconst (v := 0) hx hb dX7_setClass_24 (by decide) ?_
    refine g_cV C hS (fun _ h => h) hM hl (fun _ h => h) (m_checked hfl Γ _ _ false (r7 r)) kX7_checked t_1402 (HM.recv C hM clo_7 (r7 r)) dX7_setClass_25 rfl rfl (Nat.le_of_ble_eq_true rfl) (by decide) rfl ⟨by decide, by decide⟩ xNo_goes (fun H locs hc_25 hM hS => ?_)
    refine g_if_le (tgt := 33) hx hb dX7_setClass_28 (by decide) (fun c_28 => ?_) (fun c_28 => ?_)
    · exact absurd (show ¬ (0 : Int32) < 1 from c_28) (by decide)
    · skip
      refine lv_iconst (v := 0) hx hb dX7_setClass_31 (by decide) ?_
      exact g_iret C hr hM hS dX7_setClass_32 (by decide) (by decide) ⟨trivial, by simp [rSetClass, thI, bI, c_8], rfl, by simp [rSetClass, thI, bI, c_8]⟩
  · skip
    refine lv_iload_n hx hb dX7_setClass_11 rfl (lv_at hl 2 rfl) ?_
    refine lv_iconst (v := 0) hx hb dX7_setClass_12 (by decide) ?_
    refine lv_iconst (v := 2) hx hb dX7_setClass_13 (by decide) ?_
    refine g_cS C hS (fun _ h => h) hM hl (fun _ h => h.elim) (m_in hfl Γ _ _ _ _ _) kX7_in t_1399 dX7_setClass_14 rfl rfl (Nat.le_of_ble_eq_true rfl) (by decide) rfl ⟨by decide, by decide⟩ xNo_goes (fun H locs hc_14 hM hS => ?_)
    refine g_ifeqB (tgt := 24) hx hb dX7_setClass_17 (by decide) (fun c_17 => ?_) (fun c_17 => ?_)
    · skip
      refine lv_iconst (v := 0) hx hb dX7_setClass_24 (by decide) ?_
      refine g_cV C hS (fun _ h => h) hM hl (fun _ h => h) (m_checked hfl Γ _ _ false (r7 r)) kX7_checked t_1402 (HM.recv C hM clo_7 (r7 r)) dX7_setClass_25 rfl rfl (Nat.le_of_ble_eq_true rfl) (by decide) rfl ⟨by decide, by decide⟩ xNo_goes (fun H locs hc_25 hM hS => ?_)
      refine g_if_le (tgt := 33) hx hb dX7_setClass_28 (by decide) (fun c_28 => ?_) (fun c_28 => ?_)
      · exact absurd (show ¬ (0 : Int32) < 1 from c_28) (by decide)
      · skip
        refine lv_iconst (v := 0) hx hb dX7_setClass_31 (by decide) ?_
        exact g_iret C hr hM hS dX7_setClass_32 (by decide) (by decide) ⟨trivial, by simp [rSetClass, thI, bI, c_8, c_17], rfl, by simp [rSetClass, thI, bI, c_8, c_17]⟩
    · skip
      refine lv_iconst (v := 1) hx hb dX7_setClass_20 (by decide) ?_
      refine lv_goto (tgt := 25) hx hb dX7_setClass_21 (by decide) ?_
      refine g_cV C hS (fun _ h => h) hM hl (fun _ h => h) (m_checked hfl Γ _ _ true (r7 r)) kX7_checked t_1402 (HM.recv C hM clo_7 (r7 r)) dX7_setClass_25 rfl rfl (Nat.le_of_ble_eq_true rfl) (by decide) rfl ⟨by decide, by decide⟩ xNo_goes (fun H locs hc_25 hM hS => ?_)
      refine g_if_le (tgt := 33) hx hb dX7_setClass_28 (by decide) (fun c_28 => ?_) (fun c_28 => ?_)
      · skip
        obtain ⟨hx1, hx2⟩ := inB_ix (n := 8) c_8 (by omega)
        replace r : RC D (sT M 7 19 0 (bI !true)) := r
        refine lv_aload_n hx hb dX7_setClass_33 rfl (lv_at hl 0 rfl) ?_
        refine g_get C hM clo_7 0 (by decide) (r7 r) t_1298 rfl (v := _) (fv4 rfl) dX7_setClass_34 ?_
        refine lv_iload_n hx hb dX7_setClass_37 rfl (lv_at hl 1 rfl) ?_
        refine g_iald C hM rw_20 (rn r 20 (by decide) (by decide)) (ix x) hx2 hx1 (by decide) dX7_setClass_38 ?_
        rw [rlev r hx1]
        refine lv_istore_n (lv' := [(3, _), (0, _), (1, _), (2, _)]) hx hb dX7_setClass_39 rfl hl (by decide) rfl (fun ls hl => ?_)
        refine lv_aload_n hx hb dX7_setClass_40 rfl (lv_at hl 1 rfl) ?_
        refine g_get C hM clo_7 0 (by decide) (r7 r) t_1298 rfl (v := _) (fv4 rfl) dX7_setClass_41 ?_
        refine lv_iload_n hx hb dX7_setClass_44 rfl (lv_at hl 2 rfl) ?_
        refine lv_iload_n hx hb dX7_setClass_45 rfl (lv_at hl 3 rfl) ?_
        refine g_iast C hM hS rw_20 (rn r 20 (by decide) (by decide)) (ix x) hx2 hx1 (by decide) dX7_setClass_46 (fun H locs hM hS => ?_)
        refine lv_iload_n hx hb dX7_setClass_47 rfl (lv_at hl 0 rfl) ?_
        exact g_iret C hr hM hS dX7_setClass_48 (by decide) (by decide) ⟨trivial, by simp [rSetClass, thI, bI, c_8, c_17], rfl, by simp [rSetClass, thI, bI, c_8, c_17]⟩
      · exact absurd (show (0 : Int32) < 0 from c_28) (by decide)

set_option maxHeartbeats 4000000 in
set_option maxRecDepth 100000 in
theorem m_setPromise {l : Launch} (hfl : l.stackTraces = false) (Γ : Gm) (K : Nat → Nat → Nat) (M : Mem) (x : Int32) (y : Int32) (D : Mem) (w : Wf D) (r : RC D M) : CT l Γ (gFree Γ) yX7_setPromise (wsO yX7_setPromise cX7_setPromise 4 (some .int)) 6 [.ref (K 7 0), .int x, .int y] K M (DD True (some (.int (if rSetPromise D x y = 0 then mT D 15 (ix x) 0 else 0))) K (if rSetPromise D x y = 0 then sT (sT M 7 19 0 0) 21 (ix x) 0 y else sT M 7 19 0 (thI (rSetPromise D x y)))) xNo 0 0 := by
  refine ct_intro hfl (by decide) (Nat.le_of_ble_eq_true rfl) ?_
  intro p e s m args below meth c C ht hr hnm hM ls hl
  have hx := C.1
  have hb := C.2.1
  have hS : va_S (gFree Γ) s.heap s.heap [] := va_S.rf
  have hl : lv_has ls 4 [(0, .ref (K 7 0)), (1, .int x), (2, .int y)] := hl
  have hb4 := wn4 w
  have hb0 := wn0 w
  have hb2 := wn2 w
  have hb3 := wn3 w
  refine lv_aload_n hx hb dX7_setPromise_0 rfl (lv_at hl 0 rfl) ?_
  refine lv_iload_n hx hb dX7_setPromise_1 rfl (lv_at hl 1 rfl) ?_
  refine lv_iconst (v := 0) hx hb dX7_setPromise_2 (by decide) ?_
  refine lv_iconst (v := 2) hx hb dX7_setPromise_3 (by decide) ?_
  refine g_cS C hS (fun _ h => h) hM hl (fun _ h => h.elim) (m_in hfl Γ _ _ _ _ _) kX7_in t_1399 dX7_setPromise_4 rfl rfl (Nat.le_of_ble_eq_true rfl) (by decide) rfl ⟨by decide, by decide⟩ xNo_goes (fun H locs hc_4 hM hS => ?_)
  refine g_ifeqB (tgt := 25) hx hb dX7_setPromise_7 (by decide) (fun c_7 => ?_) (fun c_7 => ?_)
  · skip
    refine lv_iconst (v := 0) hx hb dX7_setPromise_25 (by decide) ?_
    refine g_cV C hS (fun _ h => h) hM hl (fun _ h => h) (m_checked hfl Γ _ _ false (r7 r)) kX7_checked t_1402 (HM.recv C hM clo_7 (r7 r)) dX7_setPromise_26 rfl rfl (Nat.le_of_ble_eq_true rfl) (by decide) rfl ⟨by decide, by decide⟩ xNo_goes (fun H locs hc_26 hM hS => ?_)
    refine g_if_le (tgt := 34) hx hb dX7_setPromise_29 (by decide) (fun c_29 => ?_) (fun c_29 => ?_)
    · exact absurd (show ¬ (0 : Int32) < 1 from c_29) (by decide)
    · skip
      refine lv_iconst (v := 0) hx hb dX7_setPromise_32 (by decide) ?_
      exact g_iret C hr hM hS dX7_setPromise_33 (by decide) (by decide) ⟨trivial, by simp [rSetPromise, thI, bI, c_7], rfl, by simp [rSetPromise, thI, bI, c_7]⟩
  · skip
    refine lv_iload_n hx hb dX7_setPromise_10 rfl (lv_at hl 2 rfl) ?_
    refine lv_iconst (v := 1) hx hb dX7_setPromise_11 (by decide) ?_
    refine lv_sipush (v := 9999) hx hb dX7_setPromise_12 (by decide) ?_
    refine g_cS C hS (fun _ h => h) hM hl (fun _ h => h.elim) (m_in hfl Γ _ _ _ _ _) kX7_in t_1399 dX7_setPromise_15 rfl rfl (Nat.le_of_ble_eq_true rfl) (by decide) rfl ⟨by decide, by decide⟩ xNo_goes (fun H locs hc_15 hM hS => ?_)
    refine g_ifeqB (tgt := 25) hx hb dX7_setPromise_18 (by decide) (fun c_18 => ?_) (fun c_18 => ?_)
    · skip
      refine lv_iconst (v := 0) hx hb dX7_setPromise_25 (by decide) ?_
      refine g_cV C hS (fun _ h => h) hM hl (fun _ h => h) (m_checked hfl Γ _ _ false (r7 r)) kX7_checked t_1402 (HM.recv C hM clo_7 (r7 r)) dX7_setPromise_26 rfl rfl (Nat.le_of_ble_eq_true rfl) (by decide) rfl ⟨by decide, by decide⟩ xNo_goes (fun H locs hc_26 hM hS => ?_)
      refine g_if_le (tgt := 34) hx hb dX7_setPromise_29 (by decide) (fun c_29 => ?_) (fun c_29 => ?_)
      · exact absurd (show ¬ (0 : Int32) < 1 from c_29) (by decide)
      · skip
        refine lv_iconst (v := 0) hx hb dX7_setPromise_32 (by decide) ?_
        exact g_iret C hr hM hS dX7_setPromise_33 (by decide) (by decide) ⟨trivial, by simp [rSetPromise, thI, bI, c_7, c_18], rfl, by simp [rSetPromise, thI, bI, c_7, c_18]⟩
    · skip
      refine lv_iconst (v := 1) hx hb dX7_setPromise_21 (by decide) ?_
      refine lv_goto (tgt := 26) hx hb dX7_setPromise_22 (by decide) ?_
      refine g_cV C hS (fun _ h => h) hM hl (fun _ h => h) (m_checked hfl Γ _ _ true (r7 r)) kX7_checked t_1402 (HM.recv C hM clo_7 (r7 r)) dX7_setPromise_26 rfl rfl (Nat.le_of_ble_eq_true rfl) (by decide) rfl ⟨by decide, by decide⟩ xNo_goes (fun H locs hc_26 hM hS => ?_)
      refine g_if_le (tgt := 34) hx hb dX7_setPromise_29 (by decide) (fun c_29 => ?_) (fun c_29 => ?_)
      · skip
        obtain ⟨hx1, hx2⟩ := inB_ix (n := 3) c_7 (by omega)
        replace r : RC D (sT M 7 19 0 (bI !true)) := r
        refine lv_aload_n hx hb dX7_setPromise_34 rfl (lv_at hl 0 rfl) ?_
        refine g_get C hM clo_7 1 (by decide) (r7 r) t_1299 rfl (v := _) (fv4 rfl) dX7_setPromise_35 ?_
        refine lv_iload_n hx hb dX7_setPromise_38 rfl (lv_at hl 1 rfl) ?_
        refine g_iald C hM rw_21 (rn r 21 (by decide) (by decide)) (ix x) hx2 hx1 (by decide) dX7_setPromise_39 ?_
        rw [rprom r hx1]
        refine lv_istore_n (lv' := [(3, _), (0, _), (1, _), (2, _)]) hx hb dX7_setPromise_40 rfl hl (by decide) rfl (fun ls hl => ?_)
        refine lv_aload_n hx hb dX7_setPromise_41 rfl (lv_at hl 1 rfl) ?_
        refine g_get C hM clo_7 1 (by decide) (r7 r) t_1299 rfl (v := _) (fv4 rfl) dX7_setPromise_42 ?_
        refine lv_iload_n hx hb dX7_setPromise_45 rfl (lv_at hl 2 rfl) ?_
        refine lv_iload_n hx hb dX7_setPromise_46 rfl (lv_at hl 3 rfl) ?_
        refine g_iast C hM hS rw_21 (rn r 21 (by decide) (by decide)) (ix x) hx2 hx1 (by decide) dX7_setPromise_47 (fun H locs hM hS => ?_)
        refine lv_iload_n hx hb dX7_setPromise_48 rfl (lv_at hl 0 rfl) ?_
        exact g_iret C hr hM hS dX7_setPromise_49 (by decide) (by decide) ⟨trivial, by simp [rSetPromise, thI, bI, c_7, c_18], rfl, by simp [rSetPromise, thI, bI, c_7, c_18]⟩
      · exact absurd (show (0 : Int32) < 0 from c_29) (by decide)

set_option maxHeartbeats 4000000 in
set_option maxRecDepth 100000 in
theorem m_ticketOf {l : Launch} (hfl : l.stackTraces = false) (Γ : Gm) (K : Nat → Nat → Nat) (M : Mem) (x : Int32) (D : Mem) (w : Wf D) (r : RC D M) : CT l Γ (gFree Γ) yX7_ticketOf (wsO yX7_ticketOf cX7_ticketOf 2 (some .int)) 6 [.ref (K 7 0), .int x] K M (DD True (some (.int (if rTicketOf D x = 0 then nI (tkM D (ix x)) else 0))) K (if rTicketOf D x = 0 then sT M 7 19 0 0 else sT M 7 19 0 (thI (rTicketOf D x)))) xNo 0 0 := by
  refine ct_intro hfl (by decide) (Nat.le_of_ble_eq_true rfl) ?_
  intro p e s m args below meth c C ht hr hnm hM ls hl
  have hx := C.1
  have hb := C.2.1
  have hS : va_S (gFree Γ) s.heap s.heap [] := va_S.rf
  have hl : lv_has ls 2 [(0, .ref (K 7 0)), (1, .int x)] := hl
  have hb4 := wn4 w
  have hb0 := wn0 w
  have hb2 := wn2 w
  have hb3 := wn3 w
  refine lv_aload_n hx hb dX7_ticketOf_0 rfl (lv_at hl 0 rfl) ?_
  refine lv_iload_n hx hb dX7_ticketOf_1 rfl (lv_at hl 1 rfl) ?_
  refine lv_iconst (v := 0) hx hb dX7_ticketOf_2 (by decide) ?_
  refine lv_aload_n hx hb dX7_ticketOf_3 rfl (lv_at hl 0 rfl) ?_
  refine g_get C hM clo_7 21 (by decide) (r7 r) t_1319 rfl (v := .int (mT _ 7 21 _)) rfl dX7_ticketOf_4 ?_
  refine lv_iconst (v := 1) hx hb dX7_ticketOf_7 (by decide) ?_
  refine lv_isub hx hb dX7_ticketOf_8 ?_
  rw [rmails r]
  refine g_cS C hS (fun _ h => h) hM hl (fun _ h => h.elim) (m_in hfl Γ _ _ _ _ _) kX7_in t_1399 dX7_ticketOf_9 rfl rfl (Nat.le_of_ble_eq_true rfl) (by decide) rfl ⟨by decide, by decide⟩ xNo_goes (fun H locs hc_9 hM hS => ?_)
  rw [show inB x 0 (nI (mN D 2) - 1) = inN x (mN D 2) from rfl]
  refine g_cV C hS (fun _ h => h) hM hl (fun _ h => h) (m_checked hfl Γ _ _ _ (r7 r)) kX7_checked t_1402 (HM.recv C hM clo_7 (r7 r)) dX7_ticketOf_12 rfl rfl (Nat.le_of_ble_eq_true rfl) (by decide) rfl ⟨by decide, by decide⟩ xNo_goes (fun H locs hc_12 hM hS => ?_)
  refine g_ifleN (tgt := 22) hx hb dX7_ticketOf_15 (by decide) (fun c_15 => ?_) (fun c_15 => ?_)
  · skip
    obtain ⟨hx1, hx2⟩ := inN_ix (n := mN D 2) (by simpa using c_15) (by omega)
    replace r : RC D (sT M 7 19 0 (bI (!inN x (mN D 2)))) := r
    refine lv_aload_n hx hb dX7_ticketOf_22 rfl (lv_at hl 0 rfl) ?_
    refine g_get C hM clo_7 2 (by decide) (r7 r) t_1300 rfl (v := _) (fv4 rfl) dX7_ticketOf_23 ?_
    refine lv_iload_n hx hb dX7_ticketOf_26 rfl (lv_at hl 1 rfl) ?_
    refine g_iald C hM rw_22 (rn r 22 (by decide) (by decide)) (ix x) hx2 (by omega) (by decide) dX7_ticketOf_27 ?_
    rw [rtkof r hx1]
    exact g_iret C hr hM hS dX7_ticketOf_28 (by decide) (by decide) ⟨trivial, by simp [rTicketOf, thI, bI, c_15], rfl, by simp [rTicketOf, thI, bI, c_15]⟩
  · skip
    refine lv_iconst (v := 0) hx hb dX7_ticketOf_18 (by decide) ?_
    refine lv_goto (tgt := 28) hx hb dX7_ticketOf_19 (by decide) ?_
    exact g_iret C hr hM hS dX7_ticketOf_28 (by decide) (by decide) ⟨trivial, by simp [rTicketOf, thI, bI, c_15], rfl, by simp [rTicketOf, thI, bI, c_15]⟩

set_option maxHeartbeats 4000000 in
set_option maxRecDepth 100000 in
theorem m_mailsOf {l : Launch} (hfl : l.stackTraces = false) (Γ : Gm) (K : Nat → Nat → Nat) (M : Mem) (x : Int32) (D : Mem) (w : Wf D) (r : RC D M) : CT l Γ (gFree Γ) yX7_mailsOf (wsO yX7_mailsOf cX7_mailsOf 2 (some .int)) 6 [.ref (K 7 0), .int x] K M (DD True (some (.int (if rMailsOf D x = 0 then coN D (ix x) (mN D 2) else 0))) K (if rMailsOf D x = 0 then sT M 7 19 0 0 else sT M 7 19 0 (thI (rMailsOf D x)))) xNo 0 0 := by
  refine ct_intro hfl (by decide) (Nat.le_of_ble_eq_true rfl) ?_
  intro p e s m args below meth c C ht hr hnm hM ls hl
  have hx := C.1
  have hb := C.2.1
  have hS : va_S (gFree Γ) s.heap s.heap [] := va_S.rf
  have hl : lv_has ls 2 [(0, .ref (K 7 0)), (1, .int x)] := hl
  have hb4 := wn4 w
  have hb0 := wn0 w
  have hb2 := wn2 w
  have hb3 := wn3 w
  refine lv_aload_n hx hb dX7_mailsOf_0 rfl (lv_at hl 0 rfl) ?_
  refine lv_aload_n hx hb dX7_mailsOf_1 rfl (lv_at hl 0 rfl) ?_
  refine lv_iload_n hx hb dX7_mailsOf_2 rfl (lv_at hl 1 rfl) ?_
  refine g_cV C hS (fun _ h => h) hM hl (fun _ h => h.elim) (m_isTicket hfl Γ _ _ _ D w r) kX7_isTicket t_1474 (HM.recv C hM clo_7 (r7 r)) dX7_mailsOf_3 rfl rfl (Nat.le_of_ble_eq_true rfl) (by decide) rfl ⟨by decide, by decide⟩ xNo_goes (fun H locs hc_3 hM hS => ?_)
  refine g_cV C hS (fun _ h => h) hM hl (fun _ h => h) (m_checked hfl Γ _ _ _ (r7 r)) kX7_checked t_1402 (HM.recv C hM clo_7 (r7 r)) dX7_mailsOf_6 rfl rfl (Nat.le_of_ble_eq_true rfl) (by decide) rfl ⟨by decide, by decide⟩ xNo_goes (fun H locs hc_6 hM hS => ?_)
  refine g_ifleN (tgt := 16) hx hb dX7_mailsOf_9 (by decide) (fun c_9 => ?_) (fun c_9 => ?_)
  · skip
    obtain ⟨hx1, hx2⟩ := inN_ix (n := mN D 4) (by simpa using c_9) (by omega)
    replace r : RC D (sT M 7 19 0 (bI (!inN x (mN D 4)))) := r
    refine lv_aload_n hx hb dX7_mailsOf_16 rfl (lv_at hl 0 rfl) ?_
    refine lv_iload_n hx hb dX7_mailsOf_17 rfl (lv_at hl 1 rfl) ?_
    refine g_cV C hS (fun _ h => h) hM hl (fun _ h => h.elim) (m_countOf hfl Γ _ _ _ (ix x) D w r hx2 hx1) kX7_countOf t_1478 (HM.recv C hM clo_7 (r7 r)) dX7_mailsOf_18 rfl rfl (Nat.le_of_ble_eq_true rfl) (by decide) rfl ⟨by decide, by decide⟩ xNo_goes (fun H locs hc_18 hM hS => ?_)
    exact g_iret C hr hM hS dX7_mailsOf_21 (by decide) (by decide) ⟨trivial, by simp [rMailsOf, thI, bI, c_9], rfl, by simp [rMailsOf, thI, bI, c_9]⟩
  · skip
    refine lv_iconst (v := 0) hx hb dX7_mailsOf_12 (by decide) ?_
    refine lv_goto (tgt := 21) hx hb dX7_mailsOf_13 (by decide) ?_
    exact g_iret C hr hM hS dX7_mailsOf_21 (by decide) (by decide) ⟨trivial, by simp [rMailsOf, thI, bI, c_9], rfl, by simp [rMailsOf, thI, bI, c_9]⟩

set_option maxHeartbeats 4000000 in
set_option maxRecDepth 100000 in
theorem m_held {l : Launch} (hfl : l.stackTraces = false) (Γ : Gm) (K : Nat → Nat → Nat) (M : Mem) (x : Int32) (D : Mem) (w : Wf D) (r : RC D M) : CT l Γ (gFree Γ) yX7_held (wsO yX7_held cX7_held 2 (some .int)) 6 [.ref (K 7 0), .int x] K M (DD True (some (.int (if rHeld D x = 0 then heN D (ix x) (mN D 4) else 0))) K (if rHeld D x = 0 then sT M 7 19 0 0 else sT M 7 19 0 (thI (rHeld D x)))) xNo 0 0 := by
  refine ct_intro hfl (by decide) (Nat.le_of_ble_eq_true rfl) ?_
  intro p e s m args below meth c C ht hr hnm hM ls hl
  have hx := C.1
  have hb := C.2.1
  have hS : va_S (gFree Γ) s.heap s.heap [] := va_S.rf
  have hl : lv_has ls 2 [(0, .ref (K 7 0)), (1, .int x)] := hl
  have hb4 := wn4 w
  have hb0 := wn0 w
  have hb2 := wn2 w
  have hb3 := wn3 w
  refine lv_aload_n hx hb dX7_held_0 rfl (lv_at hl 0 rfl) ?_
  refine lv_aload_n hx hb dX7_held_1 rfl (lv_at hl 0 rfl) ?_
  refine lv_iload_n hx hb dX7_held_2 rfl (lv_at hl 1 rfl) ?_
  refine g_cV C hS (fun _ h => h) hM hl (fun _ h => h.elim) (m_isAgent hfl Γ _ _ _ D w r) kX7_isAgent t_1530 (HM.recv C hM clo_7 (r7 r)) dX7_held_3 rfl rfl (Nat.le_of_ble_eq_true rfl) (by decide) rfl ⟨by decide, by decide⟩ xNo_goes (fun H locs hc_3 hM hS => ?_)
  refine g_cV C hS (fun _ h => h) hM hl (fun _ h => h) (m_checked hfl Γ _ _ _ (r7 r)) kX7_checked t_1402 (HM.recv C hM clo_7 (r7 r)) dX7_held_6 rfl rfl (Nat.le_of_ble_eq_true rfl) (by decide) rfl ⟨by decide, by decide⟩ xNo_goes (fun H locs hc_6 hM hS => ?_)
  refine g_ifleN (tgt := 16) hx hb dX7_held_9 (by decide) (fun c_9 => ?_) (fun c_9 => ?_)
  · skip
    obtain ⟨hx1, hx2⟩ := inN_ix (n := mN D 0) (by simpa using c_9) (by omega)
    replace r : RC D (sT M 7 19 0 (bI (!inN x (mN D 0)))) := r
    refine lv_aload_n hx hb dX7_held_16 rfl (lv_at hl 0 rfl) ?_
    refine lv_iload_n hx hb dX7_held_17 rfl (lv_at hl 1 rfl) ?_
    refine g_cV C hS (fun _ h => h) hM hl (fun _ h => h.elim) (m_heldBy hfl Γ _ _ _ (ix x) D w r hx2 hx1) kX7_heldBy t_1545 (HM.recv C hM clo_7 (r7 r)) dX7_held_18 rfl rfl (Nat.le_of_ble_eq_true rfl) (by decide) rfl ⟨by decide, by decide⟩ xNo_goes (fun H locs hc_18 hM hS => ?_)
    exact g_iret C hr hM hS dX7_held_21 (by decide) (by decide) ⟨trivial, by simp [rHeld, thI, bI, c_9], rfl, by simp [rHeld, thI, bI, c_9]⟩
  · skip
    refine lv_iconst (v := 0) hx hb dX7_held_12 (by decide) ?_
    refine lv_goto (tgt := 21) hx hb dX7_held_13 (by decide) ?_
    exact g_iret C hr hM hS dX7_held_21 (by decide) (by decide) ⟨trivial, by simp [rHeld, thI, bI, c_9], rfl, by simp [rHeld, thI, bI, c_9]⟩

set_option maxHeartbeats 4000000 in
set_option maxRecDepth 100000 in
theorem m_stateOf {l : Launch} (hfl : l.stackTraces = false) (Γ : Gm) (K : Nat → Nat → Nat) (M : Mem) (x : Int32) (D : Mem) (w : Wf D) (r : RC D M) (hst : inN x (mN D 4) = true → narrow .char (.int (mT D 4 6 (ix x))) = .int (mT D 4 6 (ix x))) : CT l Γ (gFree Γ) yX7_stateOf (wsO yX7_stateOf cX7_stateOf 2 (some .char)) 6 [.ref (K 7 0), .int x] K M (DD True (some (.int (if rStateOf D x = 0 then stM D (ix x) else 63))) K (if rStateOf D x = 0 then sT M 7 19 0 0 else sT M 7 19 0 (thI (rStateOf D x)))) xNo 0 0 := by
  refine ct_intro hfl (by decide) (Nat.le_of_ble_eq_true rfl) ?_
  intro p e s m args below meth c C ht hr hnm hM ls hl
  have hx := C.1
  have hb := C.2.1
  have hS : va_S (gFree Γ) s.heap s.heap [] := va_S.rf
  have hl : lv_has ls 2 [(0, .ref (K 7 0)), (1, .int x)] := hl
  have hb4 := wn4 w
  have hb0 := wn0 w
  have hb2 := wn2 w
  have hb3 := wn3 w
  refine lv_aload_n hx hb dX7_stateOf_0 rfl (lv_at hl 0 rfl) ?_
  refine lv_aload_n hx hb dX7_stateOf_1 rfl (lv_at hl 0 rfl) ?_
  refine lv_iload_n hx hb dX7_stateOf_2 rfl (lv_at hl 1 rfl) ?_
  refine g_cV C hS (fun _ h => h) hM hl (fun _ h => h.elim) (m_isTicket hfl Γ _ _ _ D w r) kX7_isTicket t_1474 (HM.recv C hM clo_7 (r7 r)) dX7_stateOf_3 rfl rfl (Nat.le_of_ble_eq_true rfl) (by decide) rfl ⟨by decide, by decide⟩ xNo_goes (fun H locs hc_3 hM hS => ?_)
  refine g_cV C hS (fun _ h => h) hM hl (fun _ h => h) (m_checked hfl Γ _ _ _ (r7 r)) kX7_checked t_1402 (HM.recv C hM clo_7 (r7 r)) dX7_stateOf_6 rfl rfl (Nat.le_of_ble_eq_true rfl) (by decide) rfl ⟨by decide, by decide⟩ xNo_goes (fun H locs hc_6 hM hS => ?_)
  refine g_ifleN (tgt := 17) hx hb dX7_stateOf_9 (by decide) (fun c_9 => ?_) (fun c_9 => ?_)
  · skip
    obtain ⟨hx1, hx2⟩ := inN_ix (n := mN D 4) (by simpa using c_9) (by omega)
    replace r : RC D (sT M 7 19 0 (bI (!inN x (mN D 4)))) := r
    refine lv_aload_n hx hb dX7_stateOf_17 rfl (lv_at hl 0 rfl) ?_
    refine g_get C hM clo_7 13 (by decide) (r7 r) t_1311 rfl (v := _) (fv4 rfl) dX7_stateOf_18 ?_
    refine lv_iload_n hx hb dX7_stateOf_21 rfl (lv_at hl 1 rfl) ?_
    refine g_cald C hM rw_33 (rn r 33 (by decide) (by decide)) (ix x) hx2 (by omega) (by decide) dX7_stateOf_22 ?_
    rw [rst r hx1]
    exact g_zret C hr (by first | rfl | exact hst (by simpa using c_9)) hM hS dX7_stateOf_23 (by decide) (by decide) ⟨trivial, by simp [rStateOf, thI, bI, c_9, stM], rfl, by simp [rStateOf, thI, bI, c_9, stM]⟩
  · skip
    refine lv_bipush (v := 63) hx hb dX7_stateOf_12 (by decide) ?_
    refine lv_goto (tgt := 23) hx hb dX7_stateOf_14 (by decide) ?_
    exact g_zret C hr (by first | rfl | exact hst (by simpa using c_9)) hM hS dX7_stateOf_23 (by decide) (by decide) ⟨trivial, by simp [rStateOf, thI, bI, c_9, stM], rfl, by simp [rStateOf, thI, bI, c_9, stM]⟩

theorem wl_clock {D : Mem} {x : Int32} : wlM D x = thI (rClock D x) ∧ (0 < wlM D x ↔ rClock D x ≠ 0) := by
  unfold wlM rClock
  split
  · split
    · exact ⟨rfl, by decide⟩
    · exact ⟨rfl, by decide⟩
  · exact ⟨rfl, by decide⟩
set_option maxHeartbeats 4000000 in
set_option maxRecDepth 100000 in
theorem m_clock {l : Launch} (hfl : l.stackTraces = false) (Γ : Gm) (K : Nat → Nat → Nat) (M : Mem) (x : Int32) (D : Mem) (w : Wf D) (r : RC D M) : CT l Γ (gFree Γ) yX7_clock (wsO yX7_clock cX7_clock 2 (some .int)) 6 [.ref (K 7 0), .int x] K M (DD True (some (.int (if rClock D x = 0 then mT D 4 7 (ix x) else 0))) K (if rClock D x = 0 then sT M 7 19 0 0 else sT M 7 19 0 (thI (rClock D x)))) xNo 0 0 := by
  refine ct_intro hfl (by decide) (Nat.le_of_ble_eq_true rfl) ?_
  intro p e s m args below meth c C ht hr hnm hM ls hl
  have hx := C.1
  have hb := C.2.1
  have hS : va_S (gFree Γ) s.heap s.heap [] := va_S.rf
  have hl : lv_has ls 2 [(0, .ref (K 7 0)), (1, .int x)] := hl
  have hb4 := wn4 w
  have hb0 := wn0 w
  have hb2 := wn2 w
  have hb3 := wn3 w
  refine lv_aload_n hx hb dX7_clock_0 rfl (lv_at hl 0 rfl) ?_
  refine lv_aload_n hx hb dX7_clock_1 rfl (lv_at hl 0 rfl) ?_
  refine lv_iload_n hx hb dX7_clock_2 rfl (lv_at hl 1 rfl) ?_
  refine g_cV C hS (fun _ h => h) hM hl (fun _ h => h.elim) (m_wrongLive hfl Γ _ _ _ D w r) kX7_wrongLive t_1510 (HM.recv C hM clo_7 (r7 r)) dX7_clock_3 rfl rfl (Nat.le_of_ble_eq_true rfl) (by decide) rfl ⟨by decide, by decide⟩ xNo_goes (fun H locs hc_3 hM hS => ?_)
  refine g_putI C hM hS clo_7 19 (by decide) rfl (r7 r) rfl rfl rfl rfl dX7_clock_6 (Or.inl t_1317) (fun H locs hM hS => ?_)
  refine lv_aload_n hx hb dX7_clock_9 rfl (lv_at hl 0 rfl) ?_
  refine g_get C hM clo_7 19 (by decide) (r7 r) t_1317 rfl (v := .int (mT _ 7 19 _)) rfl dX7_clock_10 ?_
  have hw := (wl_clock (D := D) (x := x)).1
  refine g_if_le (tgt := 20) hx hb dX7_clock_13 (by decide) (fun c_13 => ?_) (fun c_13 => ?_)
  · skip
    have h0 : rClock D x = 0 := Classical.byContradiction (fun z => c_13 ((wl_clock (D := D) (x := x)).2.mpr z))
    have hin : inN x (mN D 4) = true := by cases hi : inN x (mN D 4) with | true => rfl | false => (unfold rClock at h0; rw [hi] at h0; cases h0)
    obtain ⟨hx1, hx2⟩ := inN_ix (n := mN D 4) hin (by omega)
    replace r : RC D (sT M 7 19 0 (wlM D x)) := r
    refine lv_aload_n hx hb dX7_clock_20 rfl (lv_at hl 0 rfl) ?_
    refine g_get C hM clo_7 7 (by decide) (r7 r) t_1305 rfl (v := _) (fv4 rfl) dX7_clock_21 ?_
    refine lv_iload_n hx hb dX7_clock_24 rfl (lv_at hl 1 rfl) ?_
    refine g_iald C hM rw_27 (rn r 27 (by decide) (by decide)) (ix x) hx2 (by omega) (by decide) dX7_clock_25 ?_
    rw [rclk r hx1]
    exact g_iret C hr hM hS dX7_clock_26 (by decide) (by decide) ⟨trivial, by rw [if_pos h0], rfl, by rw [if_pos h0, hw, h0]; rfl⟩
  · skip
    have h0 : ¬ rClock D x = 0 := (wl_clock (D := D) (x := x)).2.mp c_13
    refine lv_iconst (v := 0) hx hb dX7_clock_16 (by decide) ?_
    refine lv_goto (tgt := 26) hx hb dX7_clock_17 (by decide) ?_
    exact g_iret C hr hM hS dX7_clock_26 (by decide) (by decide) ⟨trivial, by rw [if_neg h0], rfl, by rw [if_neg h0, hw]⟩

theorem wl_leftOf {D : Mem} {x : Int32} : wlM D x = thI (rLeftOf D x) ∧ (0 < wlM D x ↔ rLeftOf D x ≠ 0) := by
  unfold wlM rLeftOf
  split
  · split
    · exact ⟨rfl, by decide⟩
    · exact ⟨rfl, by decide⟩
  · exact ⟨rfl, by decide⟩
set_option maxHeartbeats 4000000 in
set_option maxRecDepth 100000 in
theorem m_leftOf {l : Launch} (hfl : l.stackTraces = false) (Γ : Gm) (K : Nat → Nat → Nat) (M : Mem) (x : Int32) (D : Mem) (w : Wf D) (r : RC D M) : CT l Γ (gFree Γ) yX7_leftOf (wsO yX7_leftOf cX7_leftOf 2 (some .int)) 6 [.ref (K 7 0), .int x] K M (DD True (some (.int (if rLeftOf D x = 0 then leftM D (ix x) else 0))) K (if rLeftOf D x = 0 then sT M 7 19 0 0 else sT M 7 19 0 (thI (rLeftOf D x)))) xNo 0 0 := by
  refine ct_intro hfl (by decide) (Nat.le_of_ble_eq_true rfl) ?_
  intro p e s m args below meth c C ht hr hnm hM ls hl
  have hx := C.1
  have hb := C.2.1
  have hS : va_S (gFree Γ) s.heap s.heap [] := va_S.rf
  have hl : lv_has ls 2 [(0, .ref (K 7 0)), (1, .int x)] := hl
  have hb4 := wn4 w
  have hb0 := wn0 w
  have hb2 := wn2 w
  have hb3 := wn3 w
  refine lv_aload_n hx hb dX7_leftOf_0 rfl (lv_at hl 0 rfl) ?_
  refine lv_aload_n hx hb dX7_leftOf_1 rfl (lv_at hl 0 rfl) ?_
  refine lv_iload_n hx hb dX7_leftOf_2 rfl (lv_at hl 1 rfl) ?_
  refine g_cV C hS (fun _ h => h) hM hl (fun _ h => h.elim) (m_wrongLive hfl Γ _ _ _ D w r) kX7_wrongLive t_1510 (HM.recv C hM clo_7 (r7 r)) dX7_leftOf_3 rfl rfl (Nat.le_of_ble_eq_true rfl) (by decide) rfl ⟨by decide, by decide⟩ xNo_goes (fun H locs hc_3 hM hS => ?_)
  refine g_putI C hM hS clo_7 19 (by decide) rfl (r7 r) rfl rfl rfl rfl dX7_leftOf_6 (Or.inl t_1317) (fun H locs hM hS => ?_)
  refine lv_aload_n hx hb dX7_leftOf_9 rfl (lv_at hl 0 rfl) ?_
  refine g_get C hM clo_7 19 (by decide) (r7 r) t_1317 rfl (v := .int (mT _ 7 19 _)) rfl dX7_leftOf_10 ?_
  have hw := (wl_leftOf (D := D) (x := x)).1
  refine g_if_le (tgt := 20) hx hb dX7_leftOf_13 (by decide) (fun c_13 => ?_) (fun c_13 => ?_)
  · skip
    have h0 : rLeftOf D x = 0 := Classical.byContradiction (fun z => c_13 ((wl_leftOf (D := D) (x := x)).2.mpr z))
    have hin : inN x (mN D 4) = true := by cases hi : inN x (mN D 4) with | true => rfl | false => (unfold rLeftOf at h0; rw [hi] at h0; cases h0)
    obtain ⟨hx1, hx2⟩ := inN_ix (n := mN D 4) hin (by omega)
    replace r : RC D (sT M 7 19 0 (wlM D x)) := r
    refine lv_aload_n hx hb dX7_leftOf_20 rfl (lv_at hl 0 rfl) ?_
    refine lv_iload_n hx hb dX7_leftOf_21 rfl (lv_at hl 1 rfl) ?_
    refine g_cV C hS (fun _ h => h) hM hl (fun _ h => h.elim) (m_leftFor hfl Γ _ _ _ (ix x) D w r hx2 hx1) kX7_leftFor t_1410 (HM.recv C hM clo_7 (r7 r)) dX7_leftOf_22 rfl rfl (Nat.le_of_ble_eq_true rfl) (by decide) rfl ⟨by decide, by decide⟩ xNo_goes (fun H locs hc_22 hM hS => ?_)
    exact g_iret C hr hM hS dX7_leftOf_25 (by decide) (by decide) ⟨trivial, by rw [if_pos h0], rfl, by rw [if_pos h0, hw, h0]; rfl⟩
  · skip
    have h0 : ¬ rLeftOf D x = 0 := (wl_leftOf (D := D) (x := x)).2.mp c_13
    refine lv_iconst (v := 0) hx hb dX7_leftOf_16 (by decide) ?_
    refine lv_goto (tgt := 25) hx hb dX7_leftOf_17 (by decide) ?_
    exact g_iret C hr hM hS dX7_leftOf_25 (by decide) (by decide) ⟨trivial, by rw [if_neg h0], rfl, by rw [if_neg h0, hw]⟩

set_option maxHeartbeats 4000000 in
set_option maxRecDepth 100000 in
theorem m_isBreached {l : Launch} (hfl : l.stackTraces = false) (Γ : Gm) (K : Nat → Nat → Nat) (M : Mem) (x : Int32) (D : Mem) (w : Wf D) (r : RC D M) : CT l Γ (gFree Γ) yX7_isBreached (wsO yX7_isBreached cX7_isBreached 2 (some .boolean)) 6 [.ref (K 7 0), .int x] K M (DD True (some (.int (if rIsBreached D x = 0 then bI (ohM D (ix x) && !decide (mT D 4 8 (ix x) = 0)) else 0))) K (if rIsBreached D x = 0 then sT M 7 19 0 0 else sT M 7 19 0 (thI (rIsBreached D x)))) xNo 0 0 := by
  refine ct_intro hfl (by decide) (Nat.le_of_ble_eq_true rfl) ?_
  intro p e s m args below meth c C ht hr hnm hM ls hl
  have hx := C.1
  have hb := C.2.1
  have hS : va_S (gFree Γ) s.heap s.heap [] := va_S.rf
  have hl : lv_has ls 2 [(0, .ref (K 7 0)), (1, .int x)] := hl
  have hb4 := wn4 w
  have hb0 := wn0 w
  have hb2 := wn2 w
  have hb3 := wn3 w
  refine lv_aload_n hx hb dX7_isBreached_0 rfl (lv_at hl 0 rfl) ?_
  refine lv_aload_n hx hb dX7_isBreached_1 rfl (lv_at hl 0 rfl) ?_
  refine lv_iload_n hx hb dX7_isBreached_2 rfl (lv_at hl 1 rfl) ?_
  refine g_cV C hS (fun _ h => h) hM hl (fun _ h => h.elim) (m_isTicket hfl Γ _ _ _ D w r) kX7_isTicket t_1474 (HM.recv C hM clo_7 (r7 r)) dX7_isBreached_3 rfl rfl (Nat.le_of_ble_eq_true rfl) (by decide) rfl ⟨by decide, by decide⟩ xNo_goes (fun H locs hc_3 hM hS => ?_)
  refine g_cV C hS (fun _ h => h) hM hl (fun _ h => h) (m_checked hfl Γ _ _ _ (r7 r)) kX7_checked t_1402 (HM.recv C hM clo_7 (r7 r)) dX7_isBreached_6 rfl rfl (Nat.le_of_ble_eq_true rfl) (by decide) rfl ⟨by decide, by decide⟩ xNo_goes (fun H locs hc_6 hM hS => ?_)
  refine g_ifneN (tgt := 33) hx hb dX7_isBreached_9 (by decide) (fun c_9 => ?_) (fun c_9 => ?_)
  · skip
    refine lv_iconst (v := 0) hx hb dX7_isBreached_33 (by decide) ?_
    exact g_zret C hr rfl hM hS dX7_isBreached_34 (by decide) (by decide) ⟨trivial, by simp [rIsBreached, thI, bI, c_9], rfl, by simp [rIsBreached, thI, bI, c_9]⟩
  · skip
    obtain ⟨hx1, hx2⟩ := inN_ix (n := mN D 4) (by simpa using c_9) (by omega)
    replace r : RC D (sT M 7 19 0 (bI (!inN x (mN D 4)))) := r
    refine lv_aload_n hx hb dX7_isBreached_12 rfl (lv_at hl 0 rfl) ?_
    refine lv_iload_n hx hb dX7_isBreached_13 rfl (lv_at hl 1 rfl) ?_
    refine g_cV C hS (fun _ h => h) hM hl (fun _ h => h.elim) (m_isLive hfl Γ _ _ _ (ix x) D w r hx2 hx1) kX7_isLive t_1442 (HM.recv C hM clo_7 (r7 r)) dX7_isBreached_14 rfl rfl (Nat.le_of_ble_eq_true rfl) (by decide) rfl ⟨by decide, by decide⟩ xNo_goes (fun H locs hc_14 hM hS => ?_)
    refine g_ifeqB (tgt := 33) hx hb dX7_isBreached_17 (by decide) (fun c_17 => ?_) (fun c_17 => ?_)
    · skip
      refine lv_iconst (v := 0) hx hb dX7_isBreached_33 (by decide) ?_
      exact g_zret C hr rfl hM hS dX7_isBreached_34 (by decide) (by decide) ⟨trivial, by simp [rIsBreached, thI, bI, c_9, c_17], rfl, by simp [rIsBreached, thI, bI, c_9, c_17]⟩
    · skip
      refine lv_aload_n hx hb dX7_isBreached_20 rfl (lv_at hl 0 rfl) ?_
      refine g_get C hM clo_7 14 (by decide) (r7 r) t_1312 rfl (v := _) (fv4 rfl) dX7_isBreached_21 ?_
      refine lv_iload_n hx hb dX7_isBreached_24 rfl (lv_at hl 1 rfl) ?_
      refine g_zald C hM rw_34 (rn r 34 (by decide) (by decide)) (ix x) hx2 (by omega) (by decide) dX7_isBreached_25 ?_
      rw [rbrk r hx1]
      refine lv_if_eq (tgt := 33) hx hb dX7_isBreached_26 (by decide) (fun c_26 => ?_) (fun c_26 => ?_)
      · skip
        refine lv_iconst (v := 0) hx hb dX7_isBreached_33 (by decide) ?_
        exact g_zret C hr rfl hM hS dX7_isBreached_34 (by decide) (by decide) ⟨trivial, by simp [rIsBreached, thI, bI, c_9, c_17, c_26], rfl, by simp [rIsBreached, thI, bI, c_9, c_17, c_26]⟩
      · skip
        refine lv_iconst (v := 1) hx hb dX7_isBreached_29 (by decide) ?_
        refine lv_goto (tgt := 34) hx hb dX7_isBreached_30 (by decide) ?_
        exact g_zret C hr rfl hM hS dX7_isBreached_34 (by decide) (by decide) ⟨trivial, by simp [rIsBreached, thI, bI, c_9, c_17, c_26], rfl, by simp [rIsBreached, thI, bI, c_9, c_17, c_26]⟩

set_option maxHeartbeats 4000000 in
set_option maxRecDepth 100000 in
theorem m_agentOf {l : Launch} (hfl : l.stackTraces = false) (Γ : Gm) (K : Nat → Nat → Nat) (M : Mem) (x : Int32) (D : Mem) (w : Wf D) (r : RC D M) : CT l Γ (gFree Γ) yX7_agentOf (wsO yX7_agentOf cX7_agentOf 2 (some .int)) 6 [.ref (K 7 0), .int x] K M (DD True (some (.int (if rAgentOf D x = 0 then oI (mP D 4 9 (ix x)) else 0))) K (if rAgentOf D x = 0 then sT M 7 19 0 0 else sT M 7 19 0 (thI (rAgentOf D x)))) xNo 0 0 := by
  refine ct_intro hfl (by decide) (Nat.le_of_ble_eq_true rfl) ?_
  intro p e s m args below meth c C ht hr hnm hM ls hl
  have hx := C.1
  have hb := C.2.1
  have hS : va_S (gFree Γ) s.heap s.heap [] := va_S.rf
  have hl : lv_has ls 2 [(0, .ref (K 7 0)), (1, .int x)] := hl
  have hb4 := wn4 w
  have hb0 := wn0 w
  have hb2 := wn2 w
  have hb3 := wn3 w
  refine lv_aload_n hx hb dX7_agentOf_0 rfl (lv_at hl 0 rfl) ?_
  refine lv_aload_n hx hb dX7_agentOf_1 rfl (lv_at hl 0 rfl) ?_
  refine lv_iload_n hx hb dX7_agentOf_2 rfl (lv_at hl 1 rfl) ?_
  refine g_cV C hS (fun _ h => h) hM hl (fun _ h => h.elim) (m_isTicket hfl Γ _ _ _ D w r) kX7_isTicket t_1474 (HM.recv C hM clo_7 (r7 r)) dX7_agentOf_3 rfl rfl (Nat.le_of_ble_eq_true rfl) (by decide) rfl ⟨by decide, by decide⟩ xNo_goes (fun H locs hc_3 hM hS => ?_)
  refine g_ifneB (tgt := 13) hx hb dX7_agentOf_6 (by decide) (fun c_6 => ?_) (fun c_6 => ?_)
  · skip
    obtain ⟨hx1, hx2⟩ := inN_ix (n := mN D 4) c_6 (by omega)
    have hab : ∀ z, mP D 4 9 (ix x) = some z → z < 2 ^ 31 := fun z hz => by have := (w.2.2.1 _ hx1).2.2.2.2.1 z hz; omega
    refine lv_aload_n hx hb dX7_agentOf_13 rfl (lv_at hl 0 rfl) ?_
    refine g_get C hM clo_7 8 (by decide) (r7 r) t_1306 rfl (v := _) (fv4 rfl) dX7_agentOf_14 ?_
    refine lv_iload_n hx hb dX7_agentOf_17 rfl (lv_at hl 1 rfl) ?_
    refine g_iald C hM rw_28 (rn r 28 (by decide) (by decide)) (ix x) hx2 (by omega) (by decide) dX7_agentOf_18 ?_
    rw [ragt r hx1]
    refine g_if_ge (tgt := 26) hx hb dX7_agentOf_19 (by decide) (fun c_19 => ?_) (fun c_19 => ?_)
    · skip
      have hno : ¬ mP D 4 9 (ix x) = none := fun z => c_19 ((oI_neg hab).mpr z)
      refine lv_iconst (v := 0) hx hb dX7_agentOf_26 (by decide) ?_
      refine g_putI C hM hS clo_7 19 (by decide) rfl (r7 r) rfl rfl rfl rfl dX7_agentOf_27 (Or.inl t_1317) (fun H locs hM hS => ?_)
      refine lv_aload_n hx hb dX7_agentOf_30 rfl (lv_at hl 0 rfl) ?_
      refine g_get C hM clo_7 19 (by decide) (r7 r) t_1317 rfl (v := .int (mT _ 7 19 _)) rfl dX7_agentOf_31 ?_
      refine g_if_le (tgt := 41) hx hb dX7_agentOf_34 (by decide) (fun c_34 => ?_) (fun c_34 => ?_)
      · skip
        replace r : RC D (sT M 7 19 0 0) := r
        refine lv_aload_n hx hb dX7_agentOf_41 rfl (lv_at hl 0 rfl) ?_
        refine g_get C hM clo_7 8 (by decide) (r7 r) t_1306 rfl (v := _) (fv4 rfl) dX7_agentOf_42 ?_
        refine lv_iload_n hx hb dX7_agentOf_45 rfl (lv_at hl 1 rfl) ?_
        refine g_iald C hM rw_28 (rn r 28 (by decide) (by decide)) (ix x) hx2 (by omega) (by decide) dX7_agentOf_46 ?_
        rw [ragt r hx1]
        exact g_iret C hr hM hS dX7_agentOf_47 (by decide) (by decide) ⟨trivial, by simp [rAgentOf, c_6, hno], rfl, by simp [rAgentOf, thI, c_6, hno]⟩
      · exact absurd (show (0 : Int32) < 0 from c_34) (by decide)
    · skip
      have hno := (oI_neg hab).mp c_19
      refine lv_iconst (v := 2) hx hb dX7_agentOf_22 (by decide) ?_
      refine lv_goto (tgt := 27) hx hb dX7_agentOf_23 (by decide) ?_
      refine g_putI C hM hS clo_7 19 (by decide) rfl (r7 r) rfl rfl rfl rfl dX7_agentOf_27 (Or.inl t_1317) (fun H locs hM hS => ?_)
      refine lv_aload_n hx hb dX7_agentOf_30 rfl (lv_at hl 0 rfl) ?_
      refine g_get C hM clo_7 19 (by decide) (r7 r) t_1317 rfl (v := .int (mT _ 7 19 _)) rfl dX7_agentOf_31 ?_
      refine g_if_le (tgt := 41) hx hb dX7_agentOf_34 (by decide) (fun c_34 => ?_) (fun c_34 => ?_)
      · exact absurd (show ¬ (0 : Int32) < 2 from c_34) (by decide)
      · skip
        refine lv_iconst (v := 0) hx hb dX7_agentOf_37 (by decide) ?_
        refine lv_goto (tgt := 47) hx hb dX7_agentOf_38 (by decide) ?_
        exact g_iret C hr hM hS dX7_agentOf_47 (by decide) (by decide) ⟨trivial, by simp [rAgentOf, c_6, hno], rfl, by simp [rAgentOf, thI, c_6, hno]⟩
  · skip
    refine lv_iconst (v := 1) hx hb dX7_agentOf_9 (by decide) ?_
    refine lv_goto (tgt := 27) hx hb dX7_agentOf_10 (by decide) ?_
    refine g_putI C hM hS clo_7 19 (by decide) rfl (r7 r) rfl rfl rfl rfl dX7_agentOf_27 (Or.inl t_1317) (fun H locs hM hS => ?_)
    refine lv_aload_n hx hb dX7_agentOf_30 rfl (lv_at hl 0 rfl) ?_
    refine g_get C hM clo_7 19 (by decide) (r7 r) t_1317 rfl (v := .int (mT _ 7 19 _)) rfl dX7_agentOf_31 ?_
    refine g_if_le (tgt := 41) hx hb dX7_agentOf_34 (by decide) (fun c_34 => ?_) (fun c_34 => ?_)
    · exact absurd (show ¬ (0 : Int32) < 1 from c_34) (by decide)
    · skip
      refine lv_iconst (v := 0) hx hb dX7_agentOf_37 (by decide) ?_
      refine lv_goto (tgt := 47) hx hb dX7_agentOf_38 (by decide) ?_
      exact g_iret C hr hM hS dX7_agentOf_47 (by decide) (by decide) ⟨trivial, by simp [rAgentOf, c_6], rfl, by simp [rAgentOf, thI, c_6]⟩

