/-! the reference's cells, told by the desk's: D is the desk's memory as the reference sees it -/
def oI : Option Nat → Int32
  | none => -1
  | some a => nI a
def RT (D M : Mem) (t : Nat) : Prop := mT M 24 t 0 = nI (cuM D t) ∧ mT M 25 t 0 = mT D 4 2 t ∧ mT M 26 t 0 = mT D 4 4 t ∧ mT M 27 t 0 = mT D 4 7 t ∧ mT M 28 t 0 = oI (mP D 4 9 t) ∧ mT M 29 t 0 = mT D 4 10 t ∧ mT M 30 t 0 = mT D 4 12 t ∧ mT M 31 t 0 = oI (mP D 4 13 t) ∧ mT M 32 t 0 = oI (mP D 4 11 t) ∧ mT M 33 t 0 = mT D 4 6 t ∧ mT M 34 t 0 = mT D 4 8 t
def RF (D M : Mem) : Prop := mT M 7 20 0 = mT D 6 9 0 ∧ mT M 7 21 0 = nI (mN D 2) ∧ mT M 7 22 0 = nI (mN D 4) ∧ mT M 7 23 0 = nI (mN D 0) ∧ mT M 7 24 0 = nI (mN D 3) ∧ mT M 7 25 0 = mT D 6 10 0 ∧ mT M 7 26 0 = mT D 6 11 0 ∧ mT M 7 27 0 = mT D 6 12 0 ∧ (mT M 7 28 0).toInt64 = mJ D 6 13 0 ∧ mJ M 7 29 0 = mJ D 6 14 0
def RC (D M : Mem) : Prop := (mN M 7 = 1 ∧ ∀ k, 20 ≤ k → k ≤ 38 → mN M k = 1) ∧ RF D M ∧
  (∀ c, c < 8 → mT M 20 c 0 = mT D 1 1 c) ∧ (∀ c, c < 3 → mT M 21 c 0 = mT D 15 c 0) ∧
  (∀ k, k < mN D 2 → mT M 22 k 0 = nI (tkM D k)) ∧ (∀ t, t < mN D 4 → RT D M t) ∧
  (∀ t, mN D 4 ≤ t → t < 40 → mT M 27 t 0 = 0 ∧ mT M 29 t 0 = 0 ∧ mT M 30 t 0 = 0 ∧ mT M 34 t 0 = 0) ∧
  (∀ a, a < mN D 0 → mT M 36 a 0 = mT D 0 1 a ∧ mT M 35 a 0 = mT D 0 2 a) ∧ (∀ a, mN D 0 ≤ a → a < 6 → mT M 35 a 0 = 0) ∧
  (∀ q, q < mN D 3 → mT M 37 q 0 = mT D 3 0 q ∧ ∀ t, t < 6 → mT M 38 (6 * q + t) 0 = mT D 14 t q) ∧ ∀ j, 6 * mN D 3 ≤ j → j < 48 → mT M 38 j 0 = 0
section RCA
variable {D M : Mem}
theorem r7 (r : RC D M) : 0 < mN M 7 := by rw [r.1.1]; decide
theorem rn (r : RC D M) (k : Nat) (h1 : 20 ≤ k) (h2 : k ≤ 38) : 0 < mN M k := by rw [r.1.2 k h1 h2]; decide
theorem rF (r : RC D M) : RF D M := r.2.1
theorem rtime (r : RC D M) : mT M 7 20 0 = mT D 6 9 0 := r.2.1.1
theorem rmails (r : RC D M) : mT M 7 21 0 = nI (mN D 2) := r.2.1.2.1
theorem rticks (r : RC D M) : mT M 7 22 0 = nI (mN D 4) := r.2.1.2.2.1
theorem ragts (r : RC D M) : mT M 7 23 0 = nI (mN D 0) := r.2.1.2.2.2.1
theorem ranss (r : RC D M) : mT M 7 24 0 = nI (mN D 3) := r.2.1.2.2.2.2.1
theorem rlev (r : RC D M) {c : Nat} (h : c < 8) : mT M 20 c 0 = mT D 1 1 c := r.2.2.1 c h
theorem rprom (r : RC D M) {c : Nat} (h : c < 3) : mT M 21 c 0 = mT D 15 c 0 := r.2.2.2.1 c h
theorem rtkof (r : RC D M) {k : Nat} (h : k < mN D 2) : mT M 22 k 0 = nI (tkM D k) := r.2.2.2.2.1 k h
theorem rT (r : RC D M) {t : Nat} (h : t < mN D 4) : RT D M t := r.2.2.2.2.2.1 t h
theorem rcust (r : RC D M) {t : Nat} (h : t < mN D 4) : mT M 24 t 0 = nI (cuM D t) := (rT r h).1
theorem rsubj (r : RC D M) {t : Nat} (h : t < mN D 4) : mT M 25 t 0 = mT D 4 2 t := (rT r h).2.1
theorem rtop (r : RC D M) {t : Nat} (h : t < mN D 4) : mT M 26 t 0 = mT D 4 4 t := (rT r h).2.2.1
theorem rclk (r : RC D M) {t : Nat} (h : t < mN D 4) : mT M 27 t 0 = mT D 4 7 t := (rT r h).2.2.2.1
theorem ragt (r : RC D M) {t : Nat} (h : t < mN D 4) : mT M 28 t 0 = oI (mP D 4 9 t) := (rT r h).2.2.2.2.1
theorem rhand (r : RC D M) {t : Nat} (h : t < mN D 4) : mT M 29 t 0 = mT D 4 10 t := (rT r h).2.2.2.2.2.1
theorem rclos (r : RC D M) {t : Nat} (h : t < mN D 4) : mT M 30 t 0 = mT D 4 12 t := (rT r h).2.2.2.2.2.2.1
theorem rinto (r : RC D M) {t : Nat} (h : t < mN D 4) : mT M 31 t 0 = oI (mP D 4 13 t) := (rT r h).2.2.2.2.2.2.2.1
theorem rsent (r : RC D M) {t : Nat} (h : t < mN D 4) : mT M 32 t 0 = oI (mP D 4 11 t) := (rT r h).2.2.2.2.2.2.2.2.1
theorem rst (r : RC D M) {t : Nat} (h : t < mN D 4) : mT M 33 t 0 = mT D 4 6 t := (rT r h).2.2.2.2.2.2.2.2.2.1
theorem rbrk (r : RC D M) {t : Nat} (h : t < mN D 4) : mT M 34 t 0 = mT D 4 8 t := (rT r h).2.2.2.2.2.2.2.2.2.2
theorem rskil (r : RC D M) {a : Nat} (h : a < mN D 0) : mT M 36 a 0 = mT D 0 1 a := (r.2.2.2.2.2.2.2.1 a h).1
theorem ron (r : RC D M) {a : Nat} (h : a < mN D 0) : mT M 35 a 0 = mT D 0 2 a := (r.2.2.2.2.2.2.2.1 a h).2
theorem rwds (r : RC D M) {q : Nat} (h : q < mN D 3) : mT M 37 q 0 = mT D 3 0 q := (r.2.2.2.2.2.2.2.2.2.1 q h).1
theorem rwgt (r : RC D M) {q t : Nat} (h : q < mN D 3) (ht : t < 6) : mT M 38 (6 * q + t) 0 = mT D 14 t q := (r.2.2.2.2.2.2.2.2.2.1 q h).2 t ht
theorem nI_inj {a b : Nat} (ha : a < 2 ^ 31) (hb : b < 2 ^ 31) (h : nI a = nI b) : a = b := by
  have := congrArg Int32.toInt h
  rw [nI_toInt ha, nI_toInt hb] at this
  omega
theorem oI_neg {o : Option Nat} (h : ∀ a, o = some a → a < 2 ^ 31) : oI o < 0 ↔ o = none := by
  cases o with
  | none => exact ⟨fun _ => rfl, fun _ => by decide⟩
  | some a => exact ⟨fun z => absurd z (nI_pos (h a rfl)), fun z => nomatch z⟩
theorem oI_eq {o : Option Nat} {b : Nat} (h : ∀ a, o = some a → a < 2 ^ 31) (hb : b < 2 ^ 31) : oI o = nI b ↔ o = some b := by
  cases o with
  | none => exact ⟨fun z => absurd (show (-1 : Int32) < 0 by decide) (by rw [show (-1 : Int32) = nI b from z]; exact nI_pos hb), fun z => nomatch z⟩
  | some a => exact ⟨fun z => by rw [nI_inj (h a rfl) hb z], fun z => by rw [Option.some.inj z]; rfl⟩
end RCA
theorem bI_le (b : Bool) : 0 < bI b ↔ b = true := by cases b <;> decide
section IFB
variable {p : Program} {l : Launch} {e : Env} {R : Room} {s : State} {m : MethodId} {args : Array Value} {below : List Frame} {meth : Method} {c : Code} {H : Heap} {locs : List Loc} {cells slots : Nat} {Q : State → Prop} {cc : ByteArray} {pc : Nat} {ls : Array Slot} {rest : List Value}
theorem g_ifleB {b : Bool} {off : Int} {tgt : Nat} (hexec : p.tables.exec = Jvm.exec) (hb : c.code = cc) (hdg : decode cc pc = .ok (.ifCond .le off, 3)) (ht : (pc : Int) + off = (tgt : Int))
    (kt : b = false → W p l e R s m args below meth c H locs cells slots Q (F0 m tgt ls rest)) (kf : b = true → W p l e R s m args below meth c H locs cells slots Q (F0 m (pc + 3) ls rest)) : W p l e R s m args below meth c H locs cells slots Q (F0 m pc ls (.int (bI b) :: rest)) :=
  g_if_le hexec hb hdg ht (fun h => kt (by cases b with | false => rfl | true => exact absurd ((bI_le true).mpr rfl) h)) (fun h => kf ((bI_le b).mp h))
theorem g_ifleN {b : Bool} {off : Int} {tgt : Nat} (hexec : p.tables.exec = Jvm.exec) (hb : c.code = cc) (hdg : decode cc pc = .ok (.ifCond .le off, 3)) (ht : (pc : Int) + off = (tgt : Int))
    (kt : b = true → W p l e R s m args below meth c H locs cells slots Q (F0 m tgt ls rest)) (kf : b = false → W p l e R s m args below meth c H locs cells slots Q (F0 m (pc + 3) ls rest)) : W p l e R s m args below meth c H locs cells slots Q (F0 m pc ls (.int (bI (!b)) :: rest)) :=
  g_ifleB hexec hb hdg ht (fun h => kt (by simpa using h)) (fun h => kf (by simpa using h))
theorem g_ifneN {b : Bool} {off : Int} {tgt : Nat} (hexec : p.tables.exec = Jvm.exec) (hb : c.code = cc) (hdg : decode cc pc = .ok (.ifCond .ne off, 3)) (ht : (pc : Int) + off = (tgt : Int))
    (kt : b = false → W p l e R s m args below meth c H locs cells slots Q (F0 m tgt ls rest)) (kf : b = true → W p l e R s m args below meth c H locs cells slots Q (F0 m (pc + 3) ls rest)) : W p l e R s m args below meth c H locs cells slots Q (F0 m pc ls (.int (bI (!b)) :: rest)) :=
  g_ifneB hexec hb hdg ht (fun h => kt (by simpa using h)) (fun h => kf (by simpa using h))
end IFB
theorem rw_20 : RwOk 20 0 8 := ⟨by decide, rfl, fun _ _ _ _ => rfl⟩
theorem rw_21 : RwOk 21 0 3 := ⟨by decide, rfl, fun _ _ _ _ => rfl⟩
theorem rw_22 : RwOk 22 0 80 := ⟨by decide, rfl, fun _ _ _ _ => rfl⟩
theorem rw_23 : RwOk 23 0 80 := ⟨by decide, rfl, fun _ _ _ _ => rfl⟩
theorem rw_24 : RwOk 24 0 40 := ⟨by decide, rfl, fun _ _ _ _ => rfl⟩
theorem rw_25 : RwOk 25 0 40 := ⟨by decide, rfl, fun _ _ _ _ => rfl⟩
theorem rw_26 : RwOk 26 0 40 := ⟨by decide, rfl, fun _ _ _ _ => rfl⟩
theorem rw_27 : RwOk 27 0 40 := ⟨by decide, rfl, fun _ _ _ _ => rfl⟩
theorem rw_28 : RwOk 28 0 40 := ⟨by decide, rfl, fun _ _ _ _ => rfl⟩
theorem rw_29 : RwOk 29 0 40 := ⟨by decide, rfl, fun _ _ _ _ => rfl⟩
theorem rw_30 : RwOk 30 0 40 := ⟨by decide, rfl, fun _ _ _ _ => rfl⟩
theorem rw_31 : RwOk 31 0 40 := ⟨by decide, rfl, fun _ _ _ _ => rfl⟩
theorem rw_32 : RwOk 32 0 40 := ⟨by decide, rfl, fun _ _ _ _ => rfl⟩
theorem rw_33 : RwOk 33 1 40 := ⟨by decide, rfl, fun _ _ _ _ => rfl⟩
theorem rw_34 : RwOk 34 2 40 := ⟨by decide, rfl, fun _ _ _ _ => rfl⟩
theorem rw_35 : RwOk 35 2 6 := ⟨by decide, rfl, fun _ _ _ _ => rfl⟩
theorem rw_36 : RwOk 36 0 6 := ⟨by decide, rfl, fun _ _ _ _ => rfl⟩
theorem rw_37 : RwOk 37 0 8 := ⟨by decide, rfl, fun _ _ _ _ => rfl⟩
theorem rw_38 : RwOk 38 0 48 := ⟨by decide, rfl, fun _ _ _ _ => rfl⟩
theorem kX7_in : CeeS yX7_in cX7_in 3 (some .boolean) 3 := ⟨t_1400, t_7, t_1401, by decide +kernel, by decide⟩
theorem kX7_plain : CeeV yX7_plain RX7 cX7_plain 2 (some .int) 1 := ⟨t_1420, s_31, t_7, t_1421, by decide +kernel, by decide⟩
theorem kX7_checked : CeeV yX7_checked RX7 cX7_checked 2 (some .int) 1 := ⟨t_1404, s_28, t_7, t_1405, by decide +kernel, by decide⟩
theorem kX7_bits : CeeS yX7_bits cX7_bits 3 (some .int) 1 := ⟨t_1535, t_7, t_1536, by decide +kernel, by decide⟩
theorem kX7_isTicket : CeeV yX7_isTicket RX7 cX7_isTicket 2 (some .boolean) 1 := ⟨t_1476, s_39, t_7, t_1477, by decide +kernel, by decide⟩
theorem kX7_isAgent : CeeV yX7_isAgent RX7 cX7_isAgent 2 (some .boolean) 1 := ⟨t_1532, s_43, t_7, t_1533, by decide +kernel, by decide⟩
theorem kX7_isLive : CeeV yX7_isLive RX7 cX7_isLive 2 (some .boolean) 1 := ⟨t_1444, s_34, t_7, t_1445, by decide +kernel, by decide⟩
theorem kX7_leftFor : CeeV yX7_leftFor RX7 cX7_leftFor 2 (some .int) 1 := ⟨t_1412, s_30, t_7, t_1413, by decide +kernel, by decide⟩
theorem kX7_counts : CeeV yX7_counts RX7 cX7_counts 2 (some .boolean) 1 := ⟨t_1440, s_33, t_7, t_1441, by decide +kernel, by decide⟩
theorem kX7_latest : CeeV yX7_latest RX7 cX7_latest 4 (some .int) 1 := ⟨t_1448, s_35, t_7, t_1449, by decide +kernel, by decide⟩
theorem kX7_hasSkill : CeeV yX7_hasSkill RX7 cX7_hasSkill 3 (some .boolean) 2 := ⟨t_1504, s_41, t_7, t_1505, by decide +kernel, by decide⟩
theorem kX7_canAnswer : CeeV yX7_canAnswer RX7 cX7_canAnswer 3 (some .boolean) 2 := ⟨t_1567, s_47, t_7, t_1568, by decide +kernel, by decide⟩
theorem kX7_isFor : CeeV yX7_isFor RX7 cX7_isFor 3 (some .boolean) 2 := ⟨t_1563, s_46, t_7, t_1564, by decide +kernel, by decide⟩
theorem kX7_isSooner : CeeV yX7_isSooner RX7 cX7_isSooner 3 (some .boolean) 2 := ⟨t_1571, s_48, t_7, t_1572, by decide +kernel, by decide⟩
theorem kX7_next : CeeV yX7_next RX7 cX7_next 4 (some .int) 1 := ⟨t_1559, s_45, t_7, t_1560, by decide +kernel, by decide⟩
theorem kX7_countOf : CeeV yX7_countOf RX7 cX7_countOf 4 (some .int) 1 := ⟨t_1480, s_40, t_7, t_1481, by decide +kernel, by decide⟩
theorem kX7_heldBy : CeeV yX7_heldBy RX7 cX7_heldBy 4 (some .int) 1 := ⟨t_1547, s_44, t_7, t_1548, by decide +kernel, by decide⟩
theorem kX7_wordsOf : CeeV yX7_wordsOf RX7 cX7_wordsOf 4 (some .int) 1 := ⟨t_1632, s_50, t_7, t_1633, by decide +kernel, by decide⟩
theorem kX7_thrown : CeeV yX7_thrown RX7 cX7_thrown 1 (some .int) 0 := ⟨t_1392, t_1393, t_7, t_1394, by decide +kernel, by decide⟩
set_option maxHeartbeats 4000000 in
set_option maxRecDepth 100000 in
theorem m_in {l : Launch} (hfl : l.stackTraces = false) (Γ : Gm) (K : Nat → Nat → Nat) (M : Mem) (a lo hi : Int32) : CT l Γ pF yX7_in (wsO yX7_in cX7_in 3 (some .boolean)) 0 [.int a, .int lo, .int hi] K M (DD True (some (.int (bI (inB a lo hi)))) K M) xNo 0 0 := by
  refine ct_intro hfl (by decide) (Nat.le_of_ble_eq_true rfl) ?_
  intro p e s m args below meth c C ht hr hnm hM ls hl
  have hx := C.1
  have hb := C.2.1
  have hS : va_S pF s.heap s.heap [] := va_S.rf
  have hl : lv_has ls 3 [(0, .int a), (1, .int lo), (2, .int hi)] := hl
  refine lv_iload_n hx hb dX7_in_0 rfl (lv_at hl 0 rfl) ?_
  refine lv_iload_n hx hb dX7_in_1 rfl (lv_at hl 1 rfl) ?_
  refine lv_icmp_lt (tgt := 14) hx hb dX7_in_2 (by decide) (fun c_2 => ?_) (fun c_2 => ?_)
  · skip
    refine lv_iconst (v := 0) hx hb dX7_in_14 (by decide) ?_
    exact g_zret C hr rfl hM hS dX7_in_15 (by decide) (by decide) ⟨trivial, by simp_all [bI, inB], rfl, rfl⟩
  · skip
    refine lv_iload_n hx hb dX7_in_5 rfl (lv_at hl 0 rfl) ?_
    refine lv_iload_n hx hb dX7_in_6 rfl (lv_at hl 2 rfl) ?_
    refine lv_icmp_gt (tgt := 14) hx hb dX7_in_7 (by decide) (fun c_7 => ?_) (fun c_7 => ?_)
    · skip
      refine lv_iconst (v := 0) hx hb dX7_in_14 (by decide) ?_
      exact g_zret C hr rfl hM hS dX7_in_15 (by decide) (by decide) ⟨trivial, by simp_all [bI, inB], rfl, rfl⟩
    · skip
      refine lv_iconst (v := 1) hx hb dX7_in_10 (by decide) ?_
      refine lv_goto (tgt := 15) hx hb dX7_in_11 (by decide) ?_
      exact g_zret C hr rfl hM hS dX7_in_15 (by decide) (by decide) ⟨trivial, by simp_all [bI, inB], rfl, rfl⟩

set_option maxHeartbeats 4000000 in
set_option maxRecDepth 100000 in
theorem m_thrown {l : Launch} (hfl : l.stackTraces = false) (Γ : Gm) (K : Nat → Nat → Nat) (M : Mem)  (h7 : 0 < mN M 7) : CT l Γ pF yX7_thrown (wsO yX7_thrown cX7_thrown 1 (some .int)) 0 [.ref (K 7 0)] K M (DD True (some (.int (mT M 7 19 0))) K M) xNo 0 0 := by
  refine ct_intro hfl (by decide) (Nat.le_of_ble_eq_true rfl) ?_
  intro p e s m args below meth c C ht hr hnm hM ls hl
  have hx := C.1
  have hb := C.2.1
  have hS : va_S pF s.heap s.heap [] := va_S.rf
  have hl : lv_has ls 1 [(0, .ref (K 7 0))] := hl
  refine lv_aload_n hx hb dX7_thrown_0 rfl (lv_at hl 0 rfl) ?_
  refine g_get C hM clo_7 19 (by decide) h7 t_1317 rfl (v := .int (mT _ 7 19 _)) rfl dX7_thrown_1 ?_
  exact g_iret C hr hM hS dX7_thrown_4 (by decide) (by decide) ⟨trivial, rfl, rfl, rfl⟩

set_option maxHeartbeats 4000000 in
set_option maxRecDepth 100000 in
theorem m_plain {l : Launch} (hfl : l.stackTraces = false) (Γ : Gm) (K : Nat → Nat → Nat) (M : Mem) (x : Int32) (h7 : 0 < mN M 7) : CT l Γ (gFree Γ) yX7_plain (wsO yX7_plain cX7_plain 2 (some .int)) 0 [.ref (K 7 0), .int x] K M (DD True (some (.int x)) K (sT M 7 19 0 0)) xNo 0 0 := by
  refine ct_intro hfl (by decide) (Nat.le_of_ble_eq_true rfl) ?_
  intro p e s m args below meth c C ht hr hnm hM ls hl
  have hx := C.1
  have hb := C.2.1
  have hS : va_S (gFree Γ) s.heap s.heap [] := va_S.rf
  have hl : lv_has ls 2 [(0, .ref (K 7 0)), (1, .int x)] := hl
  refine lv_aload_n hx hb dX7_plain_0 rfl (lv_at hl 0 rfl) ?_
  refine lv_iconst (v := 0) hx hb dX7_plain_1 (by decide) ?_
  refine g_putI C hM hS clo_7 19 (by decide) rfl h7 rfl rfl rfl rfl dX7_plain_2 (Or.inl t_1317) (fun H locs hM hS => ?_)
  refine lv_iload_n hx hb dX7_plain_5 rfl (lv_at hl 1 rfl) ?_
  exact g_iret C hr hM hS dX7_plain_6 (by decide) (by decide) ⟨trivial, rfl, rfl, rfl⟩

set_option maxHeartbeats 4000000 in
set_option maxRecDepth 100000 in
theorem m_checked {l : Launch} (hfl : l.stackTraces = false) (Γ : Gm) (K : Nat → Nat → Nat) (M : Mem) (b : Bool) (h7 : 0 < mN M 7) : CT l Γ (gFree Γ) yX7_checked (wsO yX7_checked cX7_checked 2 (some .int)) 0 [.ref (K 7 0), .int (bI b)] K M (DD True (some (.int (bI (!b)))) K (sT M 7 19 0 (bI (!b)))) xNo 0 0 := by
  refine ct_intro hfl (by decide) (Nat.le_of_ble_eq_true rfl) ?_
  intro p e s m args below meth c C ht hr hnm hM ls hl
  have hx := C.1
  have hb := C.2.1
  have hS : va_S (gFree Γ) s.heap s.heap [] := va_S.rf
  have hl : lv_has ls 2 [(0, .ref (K 7 0)), (1, .int (bI b))] := hl
  refine lv_aload_n hx hb dX7_checked_0 rfl (lv_at hl 0 rfl) ?_
  refine lv_iload_n hx hb dX7_checked_1 rfl (lv_at hl 1 rfl) ?_
  refine g_ifeqB (tgt := 9) hx hb dX7_checked_2 (by decide) (fun c_2 => ?_) (fun c_2 => ?_)
  · skip
    refine lv_iconst (v := 1) hx hb dX7_checked_9 (by decide) ?_
    refine g_putI C hM hS clo_7 19 (by decide) rfl h7 rfl rfl rfl rfl dX7_checked_10 (Or.inl t_1317) (fun H locs hM hS => ?_)
    refine lv_aload_n hx hb dX7_checked_13 rfl (lv_at hl 0 rfl) ?_
    refine g_get C hM clo_7 19 (by decide) h7 t_1317 rfl (v := .int (mT _ 7 19 _)) rfl dX7_checked_14 ?_
    exact g_iret C hr hM hS dX7_checked_17 (by decide) (by decide) ⟨trivial, by rw [c_2]; rfl, rfl, by rw [c_2]; rfl⟩
  · skip
    refine lv_iconst (v := 0) hx hb dX7_checked_5 (by decide) ?_
    refine lv_goto (tgt := 10) hx hb dX7_checked_6 (by decide) ?_
    refine g_putI C hM hS clo_7 19 (by decide) rfl h7 rfl rfl rfl rfl dX7_checked_10 (Or.inl t_1317) (fun H locs hM hS => ?_)
    refine lv_aload_n hx hb dX7_checked_13 rfl (lv_at hl 0 rfl) ?_
    refine g_get C hM clo_7 19 (by decide) h7 t_1317 rfl (v := .int (mT _ 7 19 _)) rfl dX7_checked_14 ?_
    exact g_iret C hr hM hS dX7_checked_17 (by decide) (by decide) ⟨trivial, by rw [c_2]; rfl, rfl, by rw [c_2]; rfl⟩

def btN (x : Int32) : Nat → Int32
  | 0 => 0
  | n + 1 => btN x n + ((x >>> (nI n &&& 31)) &&& 1)
set_option maxHeartbeats 4000000 in
set_option maxRecDepth 100000 in
theorem m_bits {l : Launch} (hfl : l.stackTraces = false) (Γ : Gm) (K : Nat → Nat → Nat) (M : Mem) (x : Int32) : CT l Γ pF yX7_bits (wsO yX7_bits cX7_bits 3 (some .int)) 0 [.int x] K M (DD True (some (.int (btN x 10))) K M) xNo 0 0 := by
  refine ct_intro hfl (by decide) (Nat.le_of_ble_eq_true rfl) ?_
  intro p e s m args below meth c C ht hr hnm hM ls hl
  have hx := C.1
  have hb := C.2.1
  have hS : va_S pF s.heap s.heap [] := va_S.rf
  have hl : lv_has ls 3 [(0, .int x)] := hl
  refine lv_iconst (v := 0) hx hb dX7_bits_0 (by decide) ?_
  refine lv_istore_n (lv' := [(1, _), (0, _)]) hx hb dX7_bits_1 rfl hl (by decide) rfl (fun ls hl => ?_)
  refine lv_iconst (v := 0) hx hb dX7_bits_2 (by decide) ?_
  refine lv_istore_n (lv' := [(2, _), (1, _), (0, _)]) hx hb dX7_bits_3 rfl hl (by decide) rfl (fun ls hl => ?_)
  suffices K4 : ∀ (n9 : Nat) (n : Nat), 10 - n < n9 → (n ≤ 10) → ∀ (H : Heap) (locs : List Loc) (ls : Array Slot), HM Γ K M H → va_S pF s.heap H locs → lv_has ls 3 [(0, .int x), (1, .int (btN x n)), (2, .int (nI n))] → W p l e (rmL 0 0 0) s m args below meth c H locs 0 0 (vx_MQ below (cQ Γ pF (DD True (some (.int (btN x 10))) K M)) (cX Γ pF K M xNo) args s 0 0 pF) (F0 m 4 ls []) by
    exact K4 _ 0 (Nat.lt_succ_self _) (Nat.zero_le _) _ _ _ hM hS (lv_sub hl [2, 1, 0] rfl)
  intro n9
  induction n9 with
  | zero => intro n h9; exact absurd h9 (Nat.not_lt_zero _)
  | succ n9 ih =>
    intro n h9 hn H locs ls hM hS hl
    refine lv_iload_n hx hb dX7_bits_4 rfl (lv_at hl 2 rfl) ?_
    refine lv_bipush (v := 10) hx hb dX7_bits_5 (by decide) ?_
    refine g_icmp_ge (tgt := 24) hx hb dX7_bits_7 (by decide) (fun c_7 => ?_) (fun c_7 => ?_)
    · skip
      refine lv_iload_n hx hb dX7_bits_24 rfl (lv_at hl 1 rfl) ?_
      exact g_iret C hr hM hS dX7_bits_25 (by decide) (by decide) ⟨trivial, by rw [show n = 10 by have := (not_congr (nI_ltI (a := n) (b := 10) (by omega) (by omega))).mp c_7; omega], rfl, rfl⟩
    · skip
      have h6 : n < 10 := (nI_ltI (b := 10) (by omega) (by omega)).mp c_7
      refine lv_iload_n hx hb dX7_bits_10 rfl (lv_at hl 1 rfl) ?_
      refine lv_iload_n hx hb dX7_bits_11 rfl (lv_at hl 0 rfl) ?_
      refine lv_iload_n hx hb dX7_bits_12 rfl (lv_at hl 2 rfl) ?_
      refine lv_ishr hx hb dX7_bits_13 ?_
      refine lv_iconst (v := 1) hx hb dX7_bits_14 (by decide) ?_
      refine lv_iand hx hb dX7_bits_15 ?_
      refine lv_iadd hx hb dX7_bits_16 ?_
      refine lv_istore_n (lv' := [(1, _), (0, _), (2, _)]) hx hb dX7_bits_17 rfl hl (by decide) rfl (fun ls hl => ?_)
      refine lv_iinc (k := 2) (v := nI (n + 1)) (lv' := [(2, _), (1, _), (0, _)]) hx hb dX7_bits_18 hl rfl (nI_1 n) (by decide) rfl (fun ls hl => ?_)
      refine lv_goto (tgt := 4) hx hb dX7_bits_21 (by decide) ?_
      exact ih (n + 1) (by omega) h6 _ _ _ hM hS (lv_sub hl [2, 1, 0] rfl)

set_option maxHeartbeats 4000000 in
set_option maxRecDepth 100000 in
theorem m_isTicket {l : Launch} (hfl : l.stackTraces = false) (Γ : Gm) (K : Nat → Nat → Nat) (M : Mem) (x : Int32) (D : Mem) (w : Wf D) (r : RC D M) : CT l Γ pF yX7_isTicket (wsO yX7_isTicket cX7_isTicket 2 (some .boolean)) 1 [.ref (K 7 0), .int x] K M (DD True (some (.int (bI (inN x (mN D 4))))) K M) xNo 0 0 := by
  refine ct_intro hfl (by decide) (Nat.le_of_ble_eq_true rfl) ?_
  intro p e s m args below meth c C ht hr hnm hM ls hl
  have hx := C.1
  have hb := C.2.1
  have hS : va_S pF s.heap s.heap [] := va_S.rf
  have hl : lv_has ls 2 [(0, .ref (K 7 0)), (1, .int x)] := hl
  refine lv_iload_n hx hb dX7_isTicket_0 rfl (lv_at hl 1 rfl) ?_
  refine lv_iconst (v := 0) hx hb dX7_isTicket_1 (by decide) ?_
  refine lv_aload_n hx hb dX7_isTicket_2 rfl (lv_at hl 0 rfl) ?_
  refine g_get C hM clo_7 22 (by decide) (r7 r) t_1320 rfl (v := .int (mT _ 7 22 _)) rfl dX7_isTicket_3 ?_
  refine lv_iconst (v := 1) hx hb dX7_isTicket_6 (by decide) ?_
  refine lv_isub hx hb dX7_isTicket_7 ?_
  refine g_cS C hS (fun _ h => h.elim) hM hl (fun _ h => h) (m_in hfl Γ _ _ _ _ _) kX7_in t_1399 dX7_isTicket_8 rfl rfl (Nat.le_of_ble_eq_true rfl) (by decide) rfl ⟨by decide, by decide⟩ xNo_goes (fun H locs hc_8 hM hS => ?_)
  exact g_zret C hr (bI_narrow _) hM hS dX7_isTicket_11 (by decide) (by decide) ⟨trivial, by rw [rticks r]; rfl, rfl, rfl⟩

set_option maxHeartbeats 4000000 in
set_option maxRecDepth 100000 in
theorem m_isAgent {l : Launch} (hfl : l.stackTraces = false) (Γ : Gm) (K : Nat → Nat → Nat) (M : Mem) (x : Int32) (D : Mem) (w : Wf D) (r : RC D M) : CT l Γ pF yX7_isAgent (wsO yX7_isAgent cX7_isAgent 2 (some .boolean)) 1 [.ref (K 7 0), .int x] K M (DD True (some (.int (bI (inN x (mN D 0))))) K M) xNo 0 0 := by
  refine ct_intro hfl (by decide) (Nat.le_of_ble_eq_true rfl) ?_
  intro p e s m args below meth c C ht hr hnm hM ls hl
  have hx := C.1
  have hb := C.2.1
  have hS : va_S pF s.heap s.heap [] := va_S.rf
  have hl : lv_has ls 2 [(0, .ref (K 7 0)), (1, .int x)] := hl
  refine lv_iload_n hx hb dX7_isAgent_0 rfl (lv_at hl 1 rfl) ?_
  refine lv_iconst (v := 0) hx hb dX7_isAgent_1 (by decide) ?_
  refine lv_aload_n hx hb dX7_isAgent_2 rfl (lv_at hl 0 rfl) ?_
  refine g_get C hM clo_7 23 (by decide) (r7 r) t_1321 rfl (v := .int (mT _ 7 23 _)) rfl dX7_isAgent_3 ?_
  refine lv_iconst (v := 1) hx hb dX7_isAgent_6 (by decide) ?_
  refine lv_isub hx hb dX7_isAgent_7 ?_
  refine g_cS C hS (fun _ h => h.elim) hM hl (fun _ h => h) (m_in hfl Γ _ _ _ _ _) kX7_in t_1399 dX7_isAgent_8 rfl rfl (Nat.le_of_ble_eq_true rfl) (by decide) rfl ⟨by decide, by decide⟩ xNo_goes (fun H locs hc_8 hM hS => ?_)
  exact g_zret C hr (bI_narrow _) hM hS dX7_isAgent_11 (by decide) (by decide) ⟨trivial, by rw [ragts r]; rfl, rfl, rfl⟩

set_option maxHeartbeats 4000000 in
set_option maxRecDepth 100000 in
theorem m_isLive {l : Launch} (hfl : l.stackTraces = false) (Γ : Gm) (K : Nat → Nat → Nat) (M : Mem) (x : Int32) (t : Nat) (D : Mem) (w : Wf D) (r : RC D M) (hx9 : x = nI t) (ht9 : t < mN D 4) : CT l Γ pF yX7_isLive (wsO yX7_isLive cX7_isLive 2 (some .boolean)) 0 [.ref (K 7 0), .int x] K M (DD True (some (.int (bI (ohM D t)))) K M) xNo 0 0 := by
  refine ct_intro hfl (by decide) (Nat.le_of_ble_eq_true rfl) ?_
  intro p e s m args below meth c C ht hr hnm hM ls hl
  have hx := C.1
  have hb := C.2.1
  have hS : va_S pF s.heap s.heap [] := va_S.rf
  have hl : lv_has ls 2 [(0, .ref (K 7 0)), (1, .int x)] := hl
  have hb4 := wn4 w
  have hb0 := wn0 w
  have hb2 := wn2 w
  have hb3 := wn3 w
  refine lv_aload_n hx hb dX7_isLive_0 rfl (lv_at hl 0 rfl) ?_
  refine g_get C hM clo_7 13 (by decide) (r7 r) t_1311 rfl (v := _) (fv4 rfl) dX7_isLive_1 ?_
  refine lv_iload_n hx hb dX7_isLive_4 rfl (lv_at hl 1 rfl) ?_
  refine g_cald C hM rw_33 (rn r 33 (by decide) (by decide)) t hx9 (by omega) (by decide) dX7_isLive_5 ?_
  rw [rst r ht9]
  refine lv_bipush (v := 111) hx hb dX7_isLive_6 (by decide) ?_
  refine lv_icmp_eq (tgt := 22) hx hb dX7_isLive_8 (by decide) (fun c_8 => ?_) (fun c_8 => ?_)
  · skip
    refine lv_iconst (v := 1) hx hb dX7_isLive_22 (by decide) ?_
    refine lv_goto (tgt := 27) hx hb dX7_isLive_23 (by decide) ?_
    exact g_zret C hr rfl hM hS dX7_isLive_27 (by decide) (by decide) ⟨trivial, by simp [bI, ohM, stM, c_8], rfl, rfl⟩
  · skip
    refine lv_aload_n hx hb dX7_isLive_11 rfl (lv_at hl 0 rfl) ?_
    refine g_get C hM clo_7 13 (by decide) (r7 r) t_1311 rfl (v := _) (fv4 rfl) dX7_isLive_12 ?_
    refine lv_iload_n hx hb dX7_isLive_15 rfl (lv_at hl 1 rfl) ?_
    refine g_cald C hM rw_33 (rn r 33 (by decide) (by decide)) t hx9 (by omega) (by decide) dX7_isLive_16 ?_
    rw [rst r ht9]
    refine lv_bipush (v := 104) hx hb dX7_isLive_17 (by decide) ?_
    refine lv_icmp_ne (tgt := 26) hx hb dX7_isLive_19 (by decide) (fun c_19 => ?_) (fun c_19 => ?_)
    · skip
      refine lv_iconst (v := 0) hx hb dX7_isLive_26 (by decide) ?_
      exact g_zret C hr rfl hM hS dX7_isLive_27 (by decide) (by decide) ⟨trivial, by simp [bI, ohM, stM, c_8, c_19], rfl, rfl⟩
    · skip
      refine lv_iconst (v := 1) hx hb dX7_isLive_22 (by decide) ?_
      refine lv_goto (tgt := 27) hx hb dX7_isLive_23 (by decide) ?_
      exact g_zret C hr rfl hM hS dX7_isLive_27 (by decide) (by decide) ⟨trivial, by simp [bI, ohM, stM, c_8, c_19], rfl, rfl⟩

set_option maxHeartbeats 4000000 in
set_option maxRecDepth 100000 in
theorem m_leftFor {l : Launch} (hfl : l.stackTraces = false) (Γ : Gm) (K : Nat → Nat → Nat) (M : Mem) (x : Int32) (t : Nat) (D : Mem) (w : Wf D) (r : RC D M) (hx9 : x = nI t) (ht9 : t < mN D 4) : CT l Γ pF yX7_leftFor (wsO yX7_leftFor cX7_leftFor 2 (some .int)) 0 [.ref (K 7 0), .int x] K M (DD True (some (.int (leftM D t))) K M) xNo 0 0 := by
  refine ct_intro hfl (by decide) (Nat.le_of_ble_eq_true rfl) ?_
  intro p e s m args below meth c C ht hr hnm hM ls hl
  have hx := C.1
  have hb := C.2.1
  have hS : va_S pF s.heap s.heap [] := va_S.rf
  have hl : lv_has ls 2 [(0, .ref (K 7 0)), (1, .int x)] := hl
  have hb4 := wn4 w
  have hb0 := wn0 w
  have hb2 := wn2 w
  have hb3 := wn3 w
  have h1 := w.2.2.1 t ht9
  have h2 := w.2.1 _ h1.2.1
  refine lv_aload_n hx hb dX7_leftFor_0 rfl (lv_at hl 0 rfl) ?_
  refine g_get C hM clo_7 1 (by decide) (r7 r) t_1299 rfl (v := _) (fv4 rfl) dX7_leftFor_1 ?_
  refine lv_aload_n hx hb dX7_leftFor_4 rfl (lv_at hl 0 rfl) ?_
  refine g_get C hM clo_7 0 (by decide) (r7 r) t_1298 rfl (v := _) (fv4 rfl) dX7_leftFor_5 ?_
  refine lv_aload_n hx hb dX7_leftFor_8 rfl (lv_at hl 0 rfl) ?_
  refine g_get C hM clo_7 4 (by decide) (r7 r) t_1302 rfl (v := _) (fv4 rfl) dX7_leftFor_9 ?_
  refine lv_iload_n hx hb dX7_leftFor_12 rfl (lv_at hl 1 rfl) ?_
  refine g_iald C hM rw_24 (rn r 24 (by decide) (by decide)) t hx9 (by omega) (by decide) dX7_leftFor_13 ?_
  rw [rcust r ht9]
  refine g_iald C hM rw_20 (rn r 20 (by decide) (by decide)) (cuM D t) rfl h1.2.1 (by decide) dX7_leftFor_14 ?_
  rw [rlev r h1.2.1, h2.1]
  refine g_iald C hM rw_21 (rn r 21 (by decide) (by decide)) (lvM D (cuM D t)) rfl h2.2 (by decide) dX7_leftFor_15 ?_
  refine lv_aload_n hx hb dX7_leftFor_16 rfl (lv_at hl 0 rfl) ?_
  refine g_get C hM clo_7 7 (by decide) (r7 r) t_1305 rfl (v := _) (fv4 rfl) dX7_leftFor_17 ?_
  refine lv_iload_n hx hb dX7_leftFor_20 rfl (lv_at hl 1 rfl) ?_
  refine g_iald C hM rw_27 (rn r 27 (by decide) (by decide)) t hx9 (by omega) (by decide) dX7_leftFor_21 ?_
  refine lv_isub hx hb dX7_leftFor_22 ?_
  exact g_iret C hr hM hS dX7_leftFor_23 (by decide) (by decide) ⟨trivial, by rw [leftM, rprom r h2.2, rclk r ht9], rfl, rfl⟩

def ctM (D : Mem) (t : Nat) : Bool := ohM D t || decide (mT D 4 6 t = 97) || (decide (mT D 4 6 t = 99) && !decide (1440 < mT D 6 9 0 - mT D 4 12 t))
set_option maxHeartbeats 4000000 in
set_option maxRecDepth 100000 in
theorem m_counts {l : Launch} (hfl : l.stackTraces = false) (Γ : Gm) (K : Nat → Nat → Nat) (M : Mem) (x : Int32) (t : Nat) (D : Mem) (w : Wf D) (r : RC D M) (hx9 : x = nI t) (ht9 : t < mN D 4) : CT l Γ pF yX7_counts (wsO yX7_counts cX7_counts 2 (some .boolean)) 1 [.ref (K 7 0), .int x] K M (DD True (some (.int (bI (ctM D t)))) K M) xNo 0 0 := by
  refine ct_intro hfl (by decide) (Nat.le_of_ble_eq_true rfl) ?_
  intro p e s m args below meth c C ht hr hnm hM ls hl
  have hx := C.1
  have hb := C.2.1
  have hS : va_S pF s.heap s.heap [] := va_S.rf
  have hl : lv_has ls 2 [(0, .ref (K 7 0)), (1, .int x)] := hl
  have hb4 := wn4 w
  have hb0 := wn0 w
  have hb2 := wn2 w
  have hb3 := wn3 w
  refine lv_aload_n hx hb dX7_counts_0 rfl (lv_at hl 0 rfl) ?_
  refine lv_iload_n hx hb dX7_counts_1 rfl (lv_at hl 1 rfl) ?_
  refine g_cV C hS (fun _ h => h.elim) hM hl (fun _ h => h) (m_isLive hfl Γ _ _ _ t D w r hx9 ht9) kX7_isLive t_1442 (HM.recv C hM clo_7 (r7 r)) dX7_counts_2 rfl rfl (Nat.le_of_ble_eq_true rfl) (by decide) rfl ⟨by decide, by decide⟩ xNo_goes (fun H locs hc_2 hM hS => ?_)
  refine g_ifneB (tgt := 47) hx hb dX7_counts_5 (by decide) (fun c_5 => ?_) (fun c_5 => ?_)
  · skip
    refine lv_iconst (v := 1) hx hb dX7_counts_47 (by decide) ?_
    refine lv_goto (tgt := 52) hx hb dX7_counts_48 (by decide) ?_
    exact g_zret C hr rfl hM hS dX7_counts_52 (by decide) (by decide) ⟨trivial, by simp [bI, ctM, c_5], rfl, rfl⟩
  · skip
    refine lv_aload_n hx hb dX7_counts_8 rfl (lv_at hl 0 rfl) ?_
    refine g_get C hM clo_7 13 (by decide) (r7 r) t_1311 rfl (v := _) (fv4 rfl) dX7_counts_9 ?_
    refine lv_iload_n hx hb dX7_counts_12 rfl (lv_at hl 1 rfl) ?_
    refine g_cald C hM rw_33 (rn r 33 (by decide) (by decide)) t hx9 (by omega) (by decide) dX7_counts_13 ?_
    rw [rst r ht9]
    refine lv_bipush (v := 97) hx hb dX7_counts_14 (by decide) ?_
    refine lv_icmp_eq (tgt := 47) hx hb dX7_counts_16 (by decide) (fun c_16 => ?_) (fun c_16 => ?_)
    · skip
      refine lv_iconst (v := 1) hx hb dX7_counts_47 (by decide) ?_
      refine lv_goto (tgt := 52) hx hb dX7_counts_48 (by decide) ?_
      exact g_zret C hr rfl hM hS dX7_counts_52 (by decide) (by decide) ⟨trivial, by simp [bI, ctM, c_5, c_16], rfl, rfl⟩
    · skip
      refine lv_aload_n hx hb dX7_counts_19 rfl (lv_at hl 0 rfl) ?_
      refine g_get C hM clo_7 13 (by decide) (r7 r) t_1311 rfl (v := _) (fv4 rfl) dX7_counts_20 ?_
      refine lv_iload_n hx hb dX7_counts_23 rfl (lv_at hl 1 rfl) ?_
      refine g_cald C hM rw_33 (rn r 33 (by decide) (by decide)) t hx9 (by omega) (by decide) dX7_counts_24 ?_
      rw [rst r ht9]
      refine lv_bipush (v := 99) hx hb dX7_counts_25 (by decide) ?_
      refine lv_icmp_ne (tgt := 51) hx hb dX7_counts_27 (by decide) (fun c_27 => ?_) (fun c_27 => ?_)
      · skip
        refine lv_iconst (v := 0) hx hb dX7_counts_51 (by decide) ?_
        exact g_zret C hr rfl hM hS dX7_counts_52 (by decide) (by decide) ⟨trivial, by simp [bI, ctM, c_5, c_16, c_27], rfl, rfl⟩
      · skip
        refine lv_aload_n hx hb dX7_counts_30 rfl (lv_at hl 0 rfl) ?_
        refine g_get C hM clo_7 20 (by decide) (r7 r) t_1318 rfl (v := .int (mT _ 7 20 _)) rfl dX7_counts_31 ?_
        refine lv_aload_n hx hb dX7_counts_34 rfl (lv_at hl 0 rfl) ?_
        refine g_get C hM clo_7 10 (by decide) (r7 r) t_1308 rfl (v := _) (fv4 rfl) dX7_counts_35 ?_
        refine lv_iload_n hx hb dX7_counts_38 rfl (lv_at hl 1 rfl) ?_
        refine g_iald C hM rw_30 (rn r 30 (by decide) (by decide)) t hx9 (by omega) (by decide) dX7_counts_39 ?_
        refine lv_isub hx hb dX7_counts_40 ?_
        rw [rclos r ht9, rtime r]
        refine lv_sipush (v := 1440) hx hb dX7_counts_41 (by decide) ?_
        refine lv_icmp_gt (tgt := 51) hx hb dX7_counts_44 (by decide) (fun c_44 => ?_) (fun c_44 => ?_)
        · skip
          refine lv_iconst (v := 0) hx hb dX7_counts_51 (by decide) ?_
          exact g_zret C hr rfl hM hS dX7_counts_52 (by decide) (by decide) ⟨trivial, by simp [bI, ctM, c_5, c_16, c_27, c_44], rfl, rfl⟩
        · skip
          refine lv_iconst (v := 1) hx hb dX7_counts_47 (by decide) ?_
          refine lv_goto (tgt := 52) hx hb dX7_counts_48 (by decide) ?_
          exact g_zret C hr rfl hM hS dX7_counts_52 (by decide) (by decide) ⟨trivial, by simp [bI, ctM, c_5, c_16, c_27, c_44], rfl, rfl⟩

def laN (D : Mem) (t : Nat) : Nat → Int32
  | 0 => -1
  | k + 1 => if tkM D k = t then nI k else laN D t k
def coN (D : Mem) (t : Nat) : Nat → Int32
  | 0 => 0
  | k + 1 => coN D t k + if tkM D k = t then 1 else 0
def woN (D M : Mem) (t : Nat) : Nat → Int32
  | 0 => 0
  | k + 1 => woN D M t k ||| if tkM D k = t then mT M 23 k 0 else 0
def heN (D : Mem) (a : Nat) : Nat → Int32
  | 0 => 0
  | k + 1 => heN D a k + if mP D 4 9 k = some a then 1 else 0
