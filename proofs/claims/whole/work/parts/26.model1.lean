theorem kX7_wrongLive : CeeV yX7_wrongLive RX7 cX7_wrongLive 2 (some .int) 1 := ⟨t_1512, s_42, t_7, t_1513, by decide +kernel, by decide⟩
set_option maxHeartbeats 4000000 in
set_option maxRecDepth 100000 in
theorem m_latest {l : Launch} (hfl : l.stackTraces = false) (Γ : Gm) (K : Nat → Nat → Nat) (M : Mem) (x : Int32) (t : Nat) (D : Mem) (w : Wf D) (r : RC D M) (hx9 : x = nI t) (ht9 : t < mN D 4) : CT l Γ pF yX7_latest (wsO yX7_latest cX7_latest 4 (some .int)) 0 [.ref (K 7 0), .int x] K M (DD True (some (.int (laN D t (mN D 2)))) K M) xNo 0 0 := by
  refine ct_intro hfl (by decide) (Nat.le_of_ble_eq_true rfl) ?_
  intro p e s m args below meth c C ht hr hnm hM ls hl
  have hx := C.1
  have hb := C.2.1
  have hS : va_S pF s.heap s.heap [] := va_S.rf
  have hl : lv_has ls 4 [(0, .ref (K 7 0)), (1, .int x)] := hl
  have hb4 := wn4 w
  have hb0 := wn0 w
  have hb2 := wn2 w
  have hb3 := wn3 w
  refine lv_iconst (v := -1) hx hb dX7_latest_0 (by decide) ?_
  refine lv_istore_n (lv' := [(2, _), (0, _), (1, _)]) hx hb dX7_latest_1 rfl hl (by decide) rfl (fun ls hl => ?_)
  refine lv_iconst (v := 0) hx hb dX7_latest_2 (by decide) ?_
  refine lv_istore_n (lv' := [(3, _), (2, _), (0, _), (1, _)]) hx hb dX7_latest_3 rfl hl (by decide) rfl (fun ls hl => ?_)
  suffices K4 : ∀ (n9 : Nat) (n : Nat), mN D 2 - n < n9 → (n ≤ mN D 2) → ∀ (H : Heap) (locs : List Loc) (ls : Array Slot), HM Γ K M H → va_S pF s.heap H locs → lv_has ls 4 [(0, .ref (K 7 0)), (1, .int x), (2, .int (laN D t n)), (3, .int (nI n))] → W p l e (rmL 0 0 0) s m args below meth c H locs 0 0 (vx_MQ below (cQ Γ pF (DD True (some (.int (laN D t (mN D 2)))) K M)) (cX Γ pF K M xNo) args s 0 0 pF) (F0 m 4 ls []) by
    exact K4 _ 0 (Nat.lt_succ_self _) (Nat.zero_le _) _ _ _ hM hS (lv_sub hl [2, 3, 1, 0] rfl)
  intro n9
  induction n9 with
  | zero => intro n h9; exact absurd h9 (Nat.not_lt_zero _)
  | succ n9 ih =>
    intro n h9 hn H locs ls hM hS hl
    refine lv_iload_n hx hb dX7_latest_4 rfl (lv_at hl 3 rfl) ?_
    refine lv_aload_n hx hb dX7_latest_5 rfl (lv_at hl 0 rfl) ?_
    refine g_get C hM clo_7 21 (by decide) (r7 r) t_1319 rfl (v := .int (mT _ 7 21 _)) rfl dX7_latest_6 ?_
    refine g_icmp_ge (tgt := 34) hx hb dX7_latest_9 (by decide) (fun c_9 => ?_) (fun c_9 => ?_)
    · skip
      refine lv_iload_n hx hb dX7_latest_34 rfl (lv_at hl 2 rfl) ?_
      exact g_iret C hr hM hS dX7_latest_35 (by decide) (by decide) ⟨trivial, by rw [show n = mN D 2 by rw [rmails r] at c_9; have := (not_congr (nI_ltI (a := n) (b := mN D 2) (by omega) (by omega))).mp c_9; omega], rfl, rfl⟩
    · skip
      have h6 : n < mN D 2 := by rw [rmails r] at c_9; exact (nI_ltI (by omega) (by omega)).mp c_9
      refine lv_aload_n hx hb dX7_latest_12 rfl (lv_at hl 0 rfl) ?_
      refine g_get C hM clo_7 2 (by decide) (r7 r) t_1300 rfl (v := _) (fv4 rfl) dX7_latest_13 ?_
      refine lv_iload_n hx hb dX7_latest_16 rfl (lv_at hl 3 rfl) ?_
      refine g_iald C hM rw_22 (rn r 22 (by decide) (by decide)) n rfl (by omega) (by decide) dX7_latest_17 ?_
      rw [rtkof r h6]
      have htk := tkM_eq w h6
      have hte : nI (tkM D n) = x ↔ tkM D n = t := by rw [hx9]; exact ⟨fun z => nI_inj (by omega) (by omega) z, fun z => by rw [z]⟩
      refine lv_iload_n hx hb dX7_latest_18 rfl (lv_at hl 1 rfl) ?_
      refine lv_icmp_ne (tgt := 26) hx hb dX7_latest_19 (by decide) (fun c_19 => ?_) (fun c_19 => ?_)
      · skip
        refine lv_iload_n hx hb dX7_latest_26 rfl (lv_at hl 2 rfl) ?_
        refine lv_istore_n (lv' := [(2, _), (0, _), (1, _), (3, _)]) hx hb dX7_latest_27 rfl hl (by decide) rfl (fun ls hl => ?_)
        refine lv_iinc (k := 3) (v := nI (n + 1)) (lv' := [(3, _), (2, _), (0, _), (1, _)]) hx hb dX7_latest_28 hl rfl (nI_1 n) (by decide) rfl (fun ls hl => ?_)
        refine lv_goto (tgt := 4) hx hb dX7_latest_31 (by decide) ?_
        exact ih (n + 1) (by omega) h6 _ _ _ hM hS ((by rw [laN, if_neg (fun z => c_19 (hte.mpr z))]; exact lv_sub hl [2, 3, 1, 0] rfl))
      · skip
        refine lv_iload_n hx hb dX7_latest_22 rfl (lv_at hl 3 rfl) ?_
        refine lv_goto (tgt := 27) hx hb dX7_latest_23 (by decide) ?_
        refine lv_istore_n (lv' := [(2, _), (0, _), (1, _), (3, _)]) hx hb dX7_latest_27 rfl hl (by decide) rfl (fun ls hl => ?_)
        refine lv_iinc (k := 3) (v := nI (n + 1)) (lv' := [(3, _), (2, _), (0, _), (1, _)]) hx hb dX7_latest_28 hl rfl (nI_1 n) (by decide) rfl (fun ls hl => ?_)
        refine lv_goto (tgt := 4) hx hb dX7_latest_31 (by decide) ?_
        exact ih (n + 1) (by omega) h6 _ _ _ hM hS ((by rw [laN, if_pos (hte.mp c_19)]; exact lv_sub hl [2, 3, 1, 0] rfl))

set_option maxHeartbeats 4000000 in
set_option maxRecDepth 100000 in
theorem m_countOf {l : Launch} (hfl : l.stackTraces = false) (Γ : Gm) (K : Nat → Nat → Nat) (M : Mem) (x : Int32) (t : Nat) (D : Mem) (w : Wf D) (r : RC D M) (hx9 : x = nI t) (ht9 : t < mN D 4) : CT l Γ pF yX7_countOf (wsO yX7_countOf cX7_countOf 4 (some .int)) 0 [.ref (K 7 0), .int x] K M (DD True (some (.int (coN D t (mN D 2)))) K M) xNo 0 0 := by
  refine ct_intro hfl (by decide) (Nat.le_of_ble_eq_true rfl) ?_
  intro p e s m args below meth c C ht hr hnm hM ls hl
  have hx := C.1
  have hb := C.2.1
  have hS : va_S pF s.heap s.heap [] := va_S.rf
  have hl : lv_has ls 4 [(0, .ref (K 7 0)), (1, .int x)] := hl
  have hb4 := wn4 w
  have hb0 := wn0 w
  have hb2 := wn2 w
  have hb3 := wn3 w
  refine lv_iconst (v := 0) hx hb dX7_countOf_0 (by decide) ?_
  refine lv_istore_n (lv' := [(2, _), (0, _), (1, _)]) hx hb dX7_countOf_1 rfl hl (by decide) rfl (fun ls hl => ?_)
  refine lv_iconst (v := 0) hx hb dX7_countOf_2 (by decide) ?_
  refine lv_istore_n (lv' := [(3, _), (2, _), (0, _), (1, _)]) hx hb dX7_countOf_3 rfl hl (by decide) rfl (fun ls hl => ?_)
  suffices K4 : ∀ (n9 : Nat) (n : Nat), mN D 2 - n < n9 → (n ≤ mN D 2) → ∀ (H : Heap) (locs : List Loc) (ls : Array Slot), HM Γ K M H → va_S pF s.heap H locs → lv_has ls 4 [(0, .ref (K 7 0)), (1, .int x), (2, .int (coN D t n)), (3, .int (nI n))] → W p l e (rmL 0 0 0) s m args below meth c H locs 0 0 (vx_MQ below (cQ Γ pF (DD True (some (.int (coN D t (mN D 2)))) K M)) (cX Γ pF K M xNo) args s 0 0 pF) (F0 m 4 ls []) by
    exact K4 _ 0 (Nat.lt_succ_self _) (Nat.zero_le _) _ _ _ hM hS (lv_sub hl [2, 3, 1, 0] rfl)
  intro n9
  induction n9 with
  | zero => intro n h9; exact absurd h9 (Nat.not_lt_zero _)
  | succ n9 ih =>
    intro n h9 hn H locs ls hM hS hl
    refine lv_iload_n hx hb dX7_countOf_4 rfl (lv_at hl 3 rfl) ?_
    refine lv_aload_n hx hb dX7_countOf_5 rfl (lv_at hl 0 rfl) ?_
    refine g_get C hM clo_7 21 (by decide) (r7 r) t_1319 rfl (v := .int (mT _ 7 21 _)) rfl dX7_countOf_6 ?_
    refine g_icmp_ge (tgt := 36) hx hb dX7_countOf_9 (by decide) (fun c_9 => ?_) (fun c_9 => ?_)
    · skip
      refine lv_iload_n hx hb dX7_countOf_36 rfl (lv_at hl 2 rfl) ?_
      exact g_iret C hr hM hS dX7_countOf_37 (by decide) (by decide) ⟨trivial, by rw [show n = mN D 2 by rw [rmails r] at c_9; have := (not_congr (nI_ltI (a := n) (b := mN D 2) (by omega) (by omega))).mp c_9; omega], rfl, rfl⟩
    · skip
      have h6 : n < mN D 2 := by rw [rmails r] at c_9; exact (nI_ltI (by omega) (by omega)).mp c_9
      refine lv_iload_n hx hb dX7_countOf_12 rfl (lv_at hl 2 rfl) ?_
      refine lv_aload_n hx hb dX7_countOf_13 rfl (lv_at hl 0 rfl) ?_
      refine g_get C hM clo_7 2 (by decide) (r7 r) t_1300 rfl (v := _) (fv4 rfl) dX7_countOf_14 ?_
      refine lv_iload_n hx hb dX7_countOf_17 rfl (lv_at hl 3 rfl) ?_
      refine g_iald C hM rw_22 (rn r 22 (by decide) (by decide)) n rfl (by omega) (by decide) dX7_countOf_18 ?_
      rw [rtkof r h6]
      have htk := tkM_eq w h6
      have hte : nI (tkM D n) = x ↔ tkM D n = t := by rw [hx9]; exact ⟨fun z => nI_inj (by omega) (by omega) z, fun z => by rw [z]⟩
      refine lv_iload_n hx hb dX7_countOf_19 rfl (lv_at hl 1 rfl) ?_
      refine lv_icmp_ne (tgt := 27) hx hb dX7_countOf_20 (by decide) (fun c_20 => ?_) (fun c_20 => ?_)
      · skip
        refine lv_iconst (v := 0) hx hb dX7_countOf_27 (by decide) ?_
        refine lv_iadd hx hb dX7_countOf_28 ?_
        refine lv_istore_n (lv' := [(2, _), (0, _), (1, _), (3, _)]) hx hb dX7_countOf_29 rfl hl (by decide) rfl (fun ls hl => ?_)
        refine lv_iinc (k := 3) (v := nI (n + 1)) (lv' := [(3, _), (2, _), (0, _), (1, _)]) hx hb dX7_countOf_30 hl rfl (nI_1 n) (by decide) rfl (fun ls hl => ?_)
        refine lv_goto (tgt := 4) hx hb dX7_countOf_33 (by decide) ?_
        exact ih (n + 1) (by omega) h6 _ _ _ hM hS ((by rw [coN, if_neg (fun z => c_20 (hte.mpr z))]; exact lv_sub hl [2, 3, 1, 0] rfl))
      · skip
        refine lv_iconst (v := 1) hx hb dX7_countOf_23 (by decide) ?_
        refine lv_goto (tgt := 28) hx hb dX7_countOf_24 (by decide) ?_
        refine lv_iadd hx hb dX7_countOf_28 ?_
        refine lv_istore_n (lv' := [(2, _), (0, _), (1, _), (3, _)]) hx hb dX7_countOf_29 rfl hl (by decide) rfl (fun ls hl => ?_)
        refine lv_iinc (k := 3) (v := nI (n + 1)) (lv' := [(3, _), (2, _), (0, _), (1, _)]) hx hb dX7_countOf_30 hl rfl (nI_1 n) (by decide) rfl (fun ls hl => ?_)
        refine lv_goto (tgt := 4) hx hb dX7_countOf_33 (by decide) ?_
        exact ih (n + 1) (by omega) h6 _ _ _ hM hS ((by rw [coN, if_pos (hte.mp c_20)]; exact lv_sub hl [2, 3, 1, 0] rfl))

set_option maxHeartbeats 4000000 in
set_option maxRecDepth 100000 in
theorem m_wordsOf {l : Launch} (hfl : l.stackTraces = false) (Γ : Gm) (K : Nat → Nat → Nat) (M : Mem) (x : Int32) (t : Nat) (D : Mem) (w : Wf D) (r : RC D M) (hx9 : x = nI t) (ht9 : t < mN D 4) : CT l Γ pF yX7_wordsOf (wsO yX7_wordsOf cX7_wordsOf 4 (some .int)) 0 [.ref (K 7 0), .int x] K M (DD True (some (.int (woN D M t (mN D 2)))) K M) xNo 0 0 := by
  refine ct_intro hfl (by decide) (Nat.le_of_ble_eq_true rfl) ?_
  intro p e s m args below meth c C ht hr hnm hM ls hl
  have hx := C.1
  have hb := C.2.1
  have hS : va_S pF s.heap s.heap [] := va_S.rf
  have hl : lv_has ls 4 [(0, .ref (K 7 0)), (1, .int x)] := hl
  have hb4 := wn4 w
  have hb0 := wn0 w
  have hb2 := wn2 w
  have hb3 := wn3 w
  refine lv_iconst (v := 0) hx hb dX7_wordsOf_0 (by decide) ?_
  refine lv_istore_n (lv' := [(2, _), (0, _), (1, _)]) hx hb dX7_wordsOf_1 rfl hl (by decide) rfl (fun ls hl => ?_)
  refine lv_iconst (v := 0) hx hb dX7_wordsOf_2 (by decide) ?_
  refine lv_istore_n (lv' := [(3, _), (2, _), (0, _), (1, _)]) hx hb dX7_wordsOf_3 rfl hl (by decide) rfl (fun ls hl => ?_)
  suffices K4 : ∀ (n9 : Nat) (n : Nat), mN D 2 - n < n9 → (n ≤ mN D 2) → ∀ (H : Heap) (locs : List Loc) (ls : Array Slot), HM Γ K M H → va_S pF s.heap H locs → lv_has ls 4 [(0, .ref (K 7 0)), (1, .int x), (2, .int (woN D M t n)), (3, .int (nI n))] → W p l e (rmL 0 0 0) s m args below meth c H locs 0 0 (vx_MQ below (cQ Γ pF (DD True (some (.int (woN D M t (mN D 2)))) K M)) (cX Γ pF K M xNo) args s 0 0 pF) (F0 m 4 ls []) by
    exact K4 _ 0 (Nat.lt_succ_self _) (Nat.zero_le _) _ _ _ hM hS (lv_sub hl [2, 3, 1, 0] rfl)
  intro n9
  induction n9 with
  | zero => intro n h9; exact absurd h9 (Nat.not_lt_zero _)
  | succ n9 ih =>
    intro n h9 hn H locs ls hM hS hl
    refine lv_iload_n hx hb dX7_wordsOf_4 rfl (lv_at hl 3 rfl) ?_
    refine lv_aload_n hx hb dX7_wordsOf_5 rfl (lv_at hl 0 rfl) ?_
    refine g_get C hM clo_7 21 (by decide) (r7 r) t_1319 rfl (v := .int (mT _ 7 21 _)) rfl dX7_wordsOf_6 ?_
    refine g_icmp_ge (tgt := 41) hx hb dX7_wordsOf_9 (by decide) (fun c_9 => ?_) (fun c_9 => ?_)
    · skip
      refine lv_iload_n hx hb dX7_wordsOf_41 rfl (lv_at hl 2 rfl) ?_
      exact g_iret C hr hM hS dX7_wordsOf_42 (by decide) (by decide) ⟨trivial, by rw [show n = mN D 2 by rw [rmails r] at c_9; have := (not_congr (nI_ltI (a := n) (b := mN D 2) (by omega) (by omega))).mp c_9; omega], rfl, rfl⟩
    · skip
      have h6 : n < mN D 2 := by rw [rmails r] at c_9; exact (nI_ltI (by omega) (by omega)).mp c_9
      refine lv_iload_n hx hb dX7_wordsOf_12 rfl (lv_at hl 2 rfl) ?_
      refine lv_aload_n hx hb dX7_wordsOf_13 rfl (lv_at hl 0 rfl) ?_
      refine g_get C hM clo_7 2 (by decide) (r7 r) t_1300 rfl (v := _) (fv4 rfl) dX7_wordsOf_14 ?_
      refine lv_iload_n hx hb dX7_wordsOf_17 rfl (lv_at hl 3 rfl) ?_
      refine g_iald C hM rw_22 (rn r 22 (by decide) (by decide)) n rfl (by omega) (by decide) dX7_wordsOf_18 ?_
      rw [rtkof r h6]
      have htk := tkM_eq w h6
      have hte : nI (tkM D n) = x ↔ tkM D n = t := by rw [hx9]; exact ⟨fun z => nI_inj (by omega) (by omega) z, fun z => by rw [z]⟩
      refine lv_iload_n hx hb dX7_wordsOf_19 rfl (lv_at hl 1 rfl) ?_
      refine lv_icmp_ne (tgt := 32) hx hb dX7_wordsOf_20 (by decide) (fun c_20 => ?_) (fun c_20 => ?_)
      · skip
        refine lv_iconst (v := 0) hx hb dX7_wordsOf_32 (by decide) ?_
        refine lv_ior hx hb dX7_wordsOf_33 ?_
        refine lv_istore_n (lv' := [(2, _), (0, _), (1, _), (3, _)]) hx hb dX7_wordsOf_34 rfl hl (by decide) rfl (fun ls hl => ?_)
        refine lv_iinc (k := 3) (v := nI (n + 1)) (lv' := [(3, _), (2, _), (0, _), (1, _)]) hx hb dX7_wordsOf_35 hl rfl (nI_1 n) (by decide) rfl (fun ls hl => ?_)
        refine lv_goto (tgt := 4) hx hb dX7_wordsOf_38 (by decide) ?_
        exact ih (n + 1) (by omega) h6 _ _ _ hM hS ((by rw [woN, if_neg (fun z => c_20 (hte.mpr z))]; exact lv_sub hl [2, 3, 1, 0] rfl))
      · skip
        refine lv_aload_n hx hb dX7_wordsOf_23 rfl (lv_at hl 0 rfl) ?_
        refine g_get C hM clo_7 3 (by decide) (r7 r) t_1301 rfl (v := _) (fv4 rfl) dX7_wordsOf_24 ?_
        refine lv_iload_n hx hb dX7_wordsOf_27 rfl (lv_at hl 3 rfl) ?_
        refine g_iald C hM rw_23 (rn r 23 (by decide) (by decide)) n rfl (by omega) (by decide) dX7_wordsOf_28 ?_
        refine lv_goto (tgt := 33) hx hb dX7_wordsOf_29 (by decide) ?_
        refine lv_ior hx hb dX7_wordsOf_33 ?_
        refine lv_istore_n (lv' := [(2, _), (0, _), (1, _), (3, _)]) hx hb dX7_wordsOf_34 rfl hl (by decide) rfl (fun ls hl => ?_)
        refine lv_iinc (k := 3) (v := nI (n + 1)) (lv' := [(3, _), (2, _), (0, _), (1, _)]) hx hb dX7_wordsOf_35 hl rfl (nI_1 n) (by decide) rfl (fun ls hl => ?_)
        refine lv_goto (tgt := 4) hx hb dX7_wordsOf_38 (by decide) ?_
        exact ih (n + 1) (by omega) h6 _ _ _ hM hS ((by rw [woN, if_pos (hte.mp c_20)]; exact lv_sub hl [2, 3, 1, 0] rfl))

set_option maxHeartbeats 4000000 in
set_option maxRecDepth 100000 in
theorem m_heldBy {l : Launch} (hfl : l.stackTraces = false) (Γ : Gm) (K : Nat → Nat → Nat) (M : Mem) (x : Int32) (a : Nat) (D : Mem) (w : Wf D) (r : RC D M) (hxa : x = nI a) (ha9 : a < mN D 0) : CT l Γ pF yX7_heldBy (wsO yX7_heldBy cX7_heldBy 4 (some .int)) 0 [.ref (K 7 0), .int x] K M (DD True (some (.int (heN D a (mN D 4)))) K M) xNo 0 0 := by
  refine ct_intro hfl (by decide) (Nat.le_of_ble_eq_true rfl) ?_
  intro p e s m args below meth c C ht hr hnm hM ls hl
  have hx := C.1
  have hb := C.2.1
  have hS : va_S pF s.heap s.heap [] := va_S.rf
  have hl : lv_has ls 4 [(0, .ref (K 7 0)), (1, .int x)] := hl
  have hb4 := wn4 w
  have hb0 := wn0 w
  have hb2 := wn2 w
  have hb3 := wn3 w
  refine lv_iconst (v := 0) hx hb dX7_heldBy_0 (by decide) ?_
  refine lv_istore_n (lv' := [(2, _), (0, _), (1, _)]) hx hb dX7_heldBy_1 rfl hl (by decide) rfl (fun ls hl => ?_)
  refine lv_iconst (v := 0) hx hb dX7_heldBy_2 (by decide) ?_
  refine lv_istore_n (lv' := [(3, _), (2, _), (0, _), (1, _)]) hx hb dX7_heldBy_3 rfl hl (by decide) rfl (fun ls hl => ?_)
  suffices K4 : ∀ (n9 : Nat) (n : Nat), mN D 4 - n < n9 → (n ≤ mN D 4) → ∀ (H : Heap) (locs : List Loc) (ls : Array Slot), HM Γ K M H → va_S pF s.heap H locs → lv_has ls 4 [(0, .ref (K 7 0)), (1, .int x), (2, .int (heN D a n)), (3, .int (nI n))] → W p l e (rmL 0 0 0) s m args below meth c H locs 0 0 (vx_MQ below (cQ Γ pF (DD True (some (.int (heN D a (mN D 4)))) K M)) (cX Γ pF K M xNo) args s 0 0 pF) (F0 m 4 ls []) by
    exact K4 _ 0 (Nat.lt_succ_self _) (Nat.zero_le _) _ _ _ hM hS (lv_sub hl [2, 3, 1, 0] rfl)
  intro n9
  induction n9 with
  | zero => intro n h9; exact absurd h9 (Nat.not_lt_zero _)
  | succ n9 ih =>
    intro n h9 hn H locs ls hM hS hl
    refine lv_iload_n hx hb dX7_heldBy_4 rfl (lv_at hl 3 rfl) ?_
    refine lv_aload_n hx hb dX7_heldBy_5 rfl (lv_at hl 0 rfl) ?_
    refine g_get C hM clo_7 22 (by decide) (r7 r) t_1320 rfl (v := .int (mT _ 7 22 _)) rfl dX7_heldBy_6 ?_
    refine g_icmp_ge (tgt := 36) hx hb dX7_heldBy_9 (by decide) (fun c_9 => ?_) (fun c_9 => ?_)
    · skip
      refine lv_iload_n hx hb dX7_heldBy_36 rfl (lv_at hl 2 rfl) ?_
      exact g_iret C hr hM hS dX7_heldBy_37 (by decide) (by decide) ⟨trivial, by rw [show n = mN D 4 by rw [rticks r] at c_9; have := (not_congr (nI_ltI (a := n) (b := mN D 4) (by omega) (by omega))).mp c_9; omega], rfl, rfl⟩
    · skip
      have h6 : n < mN D 4 := by rw [rticks r] at c_9; exact (nI_ltI (by omega) (by omega)).mp c_9
      refine lv_iload_n hx hb dX7_heldBy_12 rfl (lv_at hl 2 rfl) ?_
      refine lv_aload_n hx hb dX7_heldBy_13 rfl (lv_at hl 0 rfl) ?_
      refine g_get C hM clo_7 8 (by decide) (r7 r) t_1306 rfl (v := _) (fv4 rfl) dX7_heldBy_14 ?_
      refine lv_iload_n hx hb dX7_heldBy_17 rfl (lv_at hl 3 rfl) ?_
      refine g_iald C hM rw_28 (rn r 28 (by decide) (by decide)) n rfl (by omega) (by decide) dX7_heldBy_18 ?_
      rw [ragt r h6]
      have hab : ∀ z, mP D 4 9 n = some z → z < 2 ^ 31 := fun z hz => by have := (w.2.2.1 n h6).2.2.2.2.1 z hz; omega
      have hte : oI (mP D 4 9 n) = x ↔ mP D 4 9 n = some a := by rw [hxa]; exact oI_eq hab (by omega)
      refine lv_iload_n hx hb dX7_heldBy_19 rfl (lv_at hl 1 rfl) ?_
      refine lv_icmp_ne (tgt := 27) hx hb dX7_heldBy_20 (by decide) (fun c_20 => ?_) (fun c_20 => ?_)
      · skip
        refine lv_iconst (v := 0) hx hb dX7_heldBy_27 (by decide) ?_
        refine lv_iadd hx hb dX7_heldBy_28 ?_
        refine lv_istore_n (lv' := [(2, _), (0, _), (1, _), (3, _)]) hx hb dX7_heldBy_29 rfl hl (by decide) rfl (fun ls hl => ?_)
        refine lv_iinc (k := 3) (v := nI (n + 1)) (lv' := [(3, _), (2, _), (0, _), (1, _)]) hx hb dX7_heldBy_30 hl rfl (nI_1 n) (by decide) rfl (fun ls hl => ?_)
        refine lv_goto (tgt := 4) hx hb dX7_heldBy_33 (by decide) ?_
        exact ih (n + 1) (by omega) h6 _ _ _ hM hS ((by rw [heN, if_neg (fun z => c_20 (hte.mpr z))]; exact lv_sub hl [2, 3, 1, 0] rfl))
      · skip
        refine lv_iconst (v := 1) hx hb dX7_heldBy_23 (by decide) ?_
        refine lv_goto (tgt := 28) hx hb dX7_heldBy_24 (by decide) ?_
        refine lv_iadd hx hb dX7_heldBy_28 ?_
        refine lv_istore_n (lv' := [(2, _), (0, _), (1, _), (3, _)]) hx hb dX7_heldBy_29 rfl hl (by decide) rfl (fun ls hl => ?_)
        refine lv_iinc (k := 3) (v := nI (n + 1)) (lv' := [(3, _), (2, _), (0, _), (1, _)]) hx hb dX7_heldBy_30 hl rfl (nI_1 n) (by decide) rfl (fun ls hl => ?_)
        refine lv_goto (tgt := 4) hx hb dX7_heldBy_33 (by decide) ?_
        exact ih (n + 1) (by omega) h6 _ _ _ hM hS ((by rw [heN, if_pos (hte.mp c_20)]; exact lv_sub hl [2, 3, 1, 0] rfl))

set_option maxHeartbeats 4000000 in
set_option maxRecDepth 100000 in
theorem m_hasSkill {l : Launch} (hfl : l.stackTraces = false) (Γ : Gm) (K : Nat → Nat → Nat) (M : Mem) (x y : Int32) (a : Nat) (D : Mem) (w : Wf D) (r : RC D M) (hxa : x = nI a) (ha9 : a < mN D 0) : CT l Γ pF yX7_hasSkill (wsO yX7_hasSkill cX7_hasSkill 3 (some .boolean)) 0 [.ref (K 7 0), .int x, .int y] K M (DD True (some (.int (bI (hsM D a y)))) K M) xNo 0 0 := by
  refine ct_intro hfl (by decide) (Nat.le_of_ble_eq_true rfl) ?_
  intro p e s m args below meth c C ht hr hnm hM ls hl
  have hx := C.1
  have hb := C.2.1
  have hS : va_S pF s.heap s.heap [] := va_S.rf
  have hl : lv_has ls 3 [(0, .ref (K 7 0)), (1, .int x), (2, .int y)] := hl
  have hb4 := wn4 w
  have hb0 := wn0 w
  have hb2 := wn2 w
  have hb3 := wn3 w
  refine lv_aload_n hx hb dX7_hasSkill_0 rfl (lv_at hl 0 rfl) ?_
  refine g_get C hM clo_7 16 (by decide) (r7 r) t_1314 rfl (v := _) (fv4 rfl) dX7_hasSkill_1 ?_
  refine lv_iload_n hx hb dX7_hasSkill_4 rfl (lv_at hl 1 rfl) ?_
  refine g_iald C hM rw_36 (rn r 36 (by decide) (by decide)) a hxa (by omega) (by decide) dX7_hasSkill_5 ?_
  rw [rskil r ha9]
  refine lv_iload_n hx hb dX7_hasSkill_6 rfl (lv_at hl 2 rfl) ?_
  refine lv_ishr hx hb dX7_hasSkill_7 ?_
  refine lv_iconst (v := 1) hx hb dX7_hasSkill_8 (by decide) ?_
  refine lv_iand hx hb dX7_hasSkill_9 ?_
  refine lv_iconst (v := 1) hx hb dX7_hasSkill_10 (by decide) ?_
  refine lv_icmp_ne (tgt := 18) hx hb dX7_hasSkill_11 (by decide) (fun c_11 => ?_) (fun c_11 => ?_)
  · skip
    refine lv_iconst (v := 0) hx hb dX7_hasSkill_18 (by decide) ?_
    exact g_zret C hr rfl hM hS dX7_hasSkill_19 (by decide) (by decide) ⟨trivial, by simp [bI, hsM, c_11], rfl, rfl⟩
  · skip
    refine lv_iconst (v := 1) hx hb dX7_hasSkill_14 (by decide) ?_
    refine lv_goto (tgt := 19) hx hb dX7_hasSkill_15 (by decide) ?_
    exact g_zret C hr rfl hM hS dX7_hasSkill_19 (by decide) (by decide) ⟨trivial, by simp [bI, hsM, c_11], rfl, rfl⟩

set_option maxHeartbeats 4000000 in
set_option maxRecDepth 100000 in
theorem m_canAnswer {l : Launch} (hfl : l.stackTraces = false) (Γ : Gm) (K : Nat → Nat → Nat) (M : Mem) (x y : Int32) (a t : Nat) (D : Mem) (w : Wf D) (r : RC D M) (hxa : x = nI a) (hx9 : y = nI t) (ha9 : a < mN D 0) (ht9 : t < mN D 4) : CT l Γ pF yX7_canAnswer (wsO yX7_canAnswer cX7_canAnswer 3 (some .boolean)) 1 [.ref (K 7 0), .int x, .int y] K M (DD True (some (.int (bI (caM D a (mT D 4 4 t))))) K M) xNo 0 0 := by
  refine ct_intro hfl (by decide) (Nat.le_of_ble_eq_true rfl) ?_
  intro p e s m args below meth c C ht hr hnm hM ls hl
  have hx := C.1
  have hb := C.2.1
  have hS : va_S pF s.heap s.heap [] := va_S.rf
  have hl : lv_has ls 3 [(0, .ref (K 7 0)), (1, .int x), (2, .int y)] := hl
  have hb4 := wn4 w
  have hb0 := wn0 w
  have hb2 := wn2 w
  have hb3 := wn3 w
  refine lv_aload_n hx hb dX7_canAnswer_0 rfl (lv_at hl 0 rfl) ?_
  refine g_get C hM clo_7 15 (by decide) (r7 r) t_1313 rfl (v := _) (fv4 rfl) dX7_canAnswer_1 ?_
  refine lv_iload_n hx hb dX7_canAnswer_4 rfl (lv_at hl 1 rfl) ?_
  refine g_zald C hM rw_35 (rn r 35 (by decide) (by decide)) a hxa (by omega) (by decide) dX7_canAnswer_5 ?_
  rw [ron r ha9]
  refine lv_if_eq (tgt := 27) hx hb dX7_canAnswer_6 (by decide) (fun c_6 => ?_) (fun c_6 => ?_)
  · skip
    refine lv_iconst (v := 0) hx hb dX7_canAnswer_27 (by decide) ?_
    exact g_zret C hr rfl hM hS dX7_canAnswer_28 (by decide) (by decide) ⟨trivial, by simp [bI, caM, c_6], rfl, rfl⟩
  · skip
    refine lv_aload_n hx hb dX7_canAnswer_9 rfl (lv_at hl 0 rfl) ?_
    refine lv_iload_n hx hb dX7_canAnswer_10 rfl (lv_at hl 1 rfl) ?_
    refine lv_aload_n hx hb dX7_canAnswer_11 rfl (lv_at hl 0 rfl) ?_
    refine g_get C hM clo_7 6 (by decide) (r7 r) t_1304 rfl (v := _) (fv4 rfl) dX7_canAnswer_12 ?_
    refine lv_iload_n hx hb dX7_canAnswer_15 rfl (lv_at hl 2 rfl) ?_
    refine g_iald C hM rw_26 (rn r 26 (by decide) (by decide)) t hx9 (by omega) (by decide) dX7_canAnswer_16 ?_
    rw [rtop r ht9]
    refine g_cV C hS (fun _ h => h.elim) hM hl (fun _ h => h) (m_hasSkill hfl Γ _ _ _ _ a D w r hxa ha9) kX7_hasSkill t_1502 (HM.recv C hM clo_7 (r7 r)) dX7_canAnswer_17 rfl rfl (Nat.le_of_ble_eq_true rfl) (by decide) rfl ⟨by decide, by decide⟩ xNo_goes (fun H locs hc_17 hM hS => ?_)
    refine g_ifeqB (tgt := 27) hx hb dX7_canAnswer_20 (by decide) (fun c_20 => ?_) (fun c_20 => ?_)
    · skip
      refine lv_iconst (v := 0) hx hb dX7_canAnswer_27 (by decide) ?_
      exact g_zret C hr rfl hM hS dX7_canAnswer_28 (by decide) (by decide) ⟨trivial, by simp [bI, caM, c_6, c_20], rfl, rfl⟩
    · skip
      refine lv_iconst (v := 1) hx hb dX7_canAnswer_23 (by decide) ?_
      refine lv_goto (tgt := 28) hx hb dX7_canAnswer_24 (by decide) ?_
      exact g_zret C hr rfl hM hS dX7_canAnswer_28 (by decide) (by decide) ⟨trivial, by simp [bI, caM, c_6, c_20], rfl, rfl⟩

def fiM (D : Mem) (a t : Nat) : Bool := waM D t && caM D a (mT D 4 4 t)
def soM (D : Mem) (i j : Nat) : Bool := if leftM D i = leftM D j then decide (leM D j < leM D i) else decide (leftM D i < leftM D j)
def mnN (D : Mem) (a : Nat) : Nat → Option Nat
  | 0 => none
  | n + 1 => if fiM D a n = true then (match mnN D a n with
    | none => some n
    | some b => if soM D n b = true then some n else some b) else mnN D a n
theorem mnN_lt {D : Mem} {a : Nat} : ∀ n, ∀ t, mnN D a n = some t → t < n
  | 0, t, h => nomatch h
  | n + 1, t, h => by
    unfold mnN at h
    split at h
    · split at h
      · cases h; omega
      · rename_i b hb
        split at h
        · cases h; omega
        · cases h; have := mnN_lt n _ hb; omega
    · have := mnN_lt n t h; omega
set_option maxHeartbeats 4000000 in
set_option maxRecDepth 100000 in
theorem m_isFor {l : Launch} (hfl : l.stackTraces = false) (Γ : Gm) (K : Nat → Nat → Nat) (M : Mem) (x y : Int32) (a t : Nat) (D : Mem) (w : Wf D) (r : RC D M) (hxa : x = nI a) (hx9 : y = nI t) (ha9 : a < mN D 0) (ht9 : t < mN D 4) : CT l Γ pF yX7_isFor (wsO yX7_isFor cX7_isFor 3 (some .boolean)) 2 [.ref (K 7 0), .int x, .int y] K M (DD True (some (.int (bI (fiM D a t)))) K M) xNo 0 0 := by
  refine ct_intro hfl (by decide) (Nat.le_of_ble_eq_true rfl) ?_
  intro p e s m args below meth c C ht hr hnm hM ls hl
  have hx := C.1
  have hb := C.2.1
  have hS : va_S pF s.heap s.heap [] := va_S.rf
  have hl : lv_has ls 3 [(0, .ref (K 7 0)), (1, .int x), (2, .int y)] := hl
  have hb4 := wn4 w
  have hb0 := wn0 w
  have hb2 := wn2 w
  have hb3 := wn3 w
  refine lv_aload_n hx hb dX7_isFor_0 rfl (lv_at hl 0 rfl) ?_
  refine g_get C hM clo_7 13 (by decide) (r7 r) t_1311 rfl (v := _) (fv4 rfl) dX7_isFor_1 ?_
  refine lv_iload_n hx hb dX7_isFor_4 rfl (lv_at hl 2 rfl) ?_
  refine g_cald C hM rw_33 (rn r 33 (by decide) (by decide)) t hx9 (by omega) (by decide) dX7_isFor_5 ?_
  rw [rst r ht9]
  refine lv_bipush (v := 111) hx hb dX7_isFor_6 (by decide) ?_
  refine lv_icmp_ne (tgt := 33) hx hb dX7_isFor_8 (by decide) (fun c_8 => ?_) (fun c_8 => ?_)
  · skip
    refine lv_iconst (v := 0) hx hb dX7_isFor_33 (by decide) ?_
    exact g_zret C hr rfl hM hS dX7_isFor_34 (by decide) (by decide) ⟨trivial, by simp [bI, fiM, waM, stM, c_8], rfl, rfl⟩
  · skip
    refine lv_aload_n hx hb dX7_isFor_11 rfl (lv_at hl 0 rfl) ?_
    refine g_get C hM clo_7 8 (by decide) (r7 r) t_1306 rfl (v := _) (fv4 rfl) dX7_isFor_12 ?_
    refine lv_iload_n hx hb dX7_isFor_15 rfl (lv_at hl 2 rfl) ?_
    refine g_iald C hM rw_28 (rn r 28 (by decide) (by decide)) t hx9 (by omega) (by decide) dX7_isFor_16 ?_
    rw [ragt r ht9]
    have hab : ∀ z, mP D 4 9 t = some z → z < 2 ^ 31 := fun z hz => by have := (w.2.2.1 t ht9).2.2.2.2.1 z hz; omega
    refine g_if_ge (tgt := 33) hx hb dX7_isFor_17 (by decide) (fun c_17 => ?_) (fun c_17 => ?_)
    · skip
      refine lv_iconst (v := 0) hx hb dX7_isFor_33 (by decide) ?_
      exact g_zret C hr rfl hM hS dX7_isFor_34 (by decide) (by decide) ⟨trivial, by rw [fiM, waM, show (mP D 4 9 t).isNone = false by cases ho : mP D 4 9 t with | none => exact absurd ((oI_neg hab).mpr ho) c_17 | some z => rfl]; simp [bI], rfl, rfl⟩
    · skip
      have hno : mP D 4 9 t = none := (oI_neg hab).mp c_17
      refine lv_aload_n hx hb dX7_isFor_20 rfl (lv_at hl 0 rfl) ?_
      refine lv_iload_n hx hb dX7_isFor_21 rfl (lv_at hl 1 rfl) ?_
      refine lv_iload_n hx hb dX7_isFor_22 rfl (lv_at hl 2 rfl) ?_
      refine g_cV C hS (fun _ h => h.elim) hM hl (fun _ h => h) (m_canAnswer hfl Γ _ _ _ _ a t D w r hxa hx9 ha9 ht9) kX7_canAnswer t_1565 (HM.recv C hM clo_7 (r7 r)) dX7_isFor_23 rfl rfl (Nat.le_of_ble_eq_true rfl) (by decide) rfl ⟨by decide, by decide⟩ xNo_goes (fun H locs hc_23 hM hS => ?_)
      refine g_ifeqB (tgt := 33) hx hb dX7_isFor_26 (by decide) (fun c_26 => ?_) (fun c_26 => ?_)
      · skip
        refine lv_iconst (v := 0) hx hb dX7_isFor_33 (by decide) ?_
        exact g_zret C hr rfl hM hS dX7_isFor_34 (by decide) (by decide) ⟨trivial, by simp [bI, fiM, waM, stM, c_8, c_26, hno], rfl, rfl⟩
      · skip
        refine lv_iconst (v := 1) hx hb dX7_isFor_29 (by decide) ?_
        refine lv_goto (tgt := 34) hx hb dX7_isFor_30 (by decide) ?_
        exact g_zret C hr rfl hM hS dX7_isFor_34 (by decide) (by decide) ⟨trivial, by simp [bI, fiM, waM, stM, c_8, c_26, hno], rfl, rfl⟩

set_option maxHeartbeats 4000000 in
set_option maxRecDepth 100000 in
theorem m_isSooner {l : Launch} (hfl : l.stackTraces = false) (Γ : Gm) (K : Nat → Nat → Nat) (M : Mem) (x y : Int32) (t u : Nat) (D : Mem) (w : Wf D) (r : RC D M) (hx9 : x = nI t) (hy9 : y = nI u) (ht9 : t < mN D 4) (hu9 : u < mN D 4) : CT l Γ pF yX7_isSooner (wsO yX7_isSooner cX7_isSooner 3 (some .boolean)) 1 [.ref (K 7 0), .int x, .int y] K M (DD True (some (.int (bI (soM D t u)))) K M) xNo 0 0 := by
  refine ct_intro hfl (by decide) (Nat.le_of_ble_eq_true rfl) ?_
  intro p e s m args below meth c C ht hr hnm hM ls hl
  have hx := C.1
  have hb := C.2.1
  have hS : va_S pF s.heap s.heap [] := va_S.rf
  have hl : lv_has ls 3 [(0, .ref (K 7 0)), (1, .int x), (2, .int y)] := hl
  have hb4 := wn4 w
  have hb0 := wn0 w
  have hb2 := wn2 w
  have hb3 := wn3 w
  have h1 := w.2.2.1 t ht9
  have h3 := w.2.2.1 u hu9
  refine lv_aload_n hx hb dX7_isSooner_0 rfl (lv_at hl 0 rfl) ?_
  refine lv_iload_n hx hb dX7_isSooner_1 rfl (lv_at hl 1 rfl) ?_
  refine g_cV C hS (fun _ h => h.elim) hM hl (fun _ h => h) (m_leftFor hfl Γ _ _ _ t D w r hx9 ht9) kX7_leftFor t_1410 (HM.recv C hM clo_7 (r7 r)) dX7_isSooner_2 rfl rfl (Nat.le_of_ble_eq_true rfl) (by decide) rfl ⟨by decide, by decide⟩ xNo_goes (fun H locs hc_2 hM hS => ?_)
  refine lv_aload_n hx hb dX7_isSooner_5 rfl (lv_at hl 0 rfl) ?_
  refine lv_iload_n hx hb dX7_isSooner_6 rfl (lv_at hl 2 rfl) ?_
  refine g_cV C hS (fun _ h => h.elim) hM hl (fun _ h => h) (m_leftFor hfl Γ _ _ _ u D w r hy9 hu9) kX7_leftFor t_1410 (HM.recv C hM clo_7 (r7 r)) dX7_isSooner_7 rfl rfl (Nat.le_of_ble_eq_true rfl) (by decide) rfl ⟨by decide, by decide⟩ xNo_goes (fun H locs hc_7 hM hS => ?_)
  refine lv_icmp_eq (tgt := 32) hx hb dX7_isSooner_10 (by decide) (fun c_10 => ?_) (fun c_10 => ?_)
  · skip
    refine lv_aload_n hx hb dX7_isSooner_32 rfl (lv_at hl 0 rfl) ?_
    refine g_get C hM clo_7 0 (by decide) (r7 r) t_1298 rfl (v := _) (fv4 rfl) dX7_isSooner_33 ?_
    refine lv_aload_n hx hb dX7_isSooner_36 rfl (lv_at hl 0 rfl) ?_
    refine g_get C hM clo_7 4 (by decide) (r7 r) t_1302 rfl (v := _) (fv4 rfl) dX7_isSooner_37 ?_
    refine lv_iload_n hx hb dX7_isSooner_40 rfl (lv_at hl 1 rfl) ?_
    refine g_iald C hM rw_24 (rn r 24 (by decide) (by decide)) t hx9 (by omega) (by decide) dX7_isSooner_41 ?_
    rw [rcust r ht9]
    refine g_iald C hM rw_20 (rn r 20 (by decide) (by decide)) (cuM D t) rfl h1.2.1 (by decide) dX7_isSooner_42 ?_
    rw [rlev r h1.2.1]
    refine lv_aload_n hx hb dX7_isSooner_43 rfl (lv_at hl 0 rfl) ?_
    refine g_get C hM clo_7 0 (by decide) (r7 r) t_1298 rfl (v := _) (fv4 rfl) dX7_isSooner_44 ?_
    refine lv_aload_n hx hb dX7_isSooner_47 rfl (lv_at hl 0 rfl) ?_
    refine g_get C hM clo_7 4 (by decide) (r7 r) t_1302 rfl (v := _) (fv4 rfl) dX7_isSooner_48 ?_
    refine lv_iload_n hx hb dX7_isSooner_51 rfl (lv_at hl 2 rfl) ?_
    refine g_iald C hM rw_24 (rn r 24 (by decide) (by decide)) u hy9 (by omega) (by decide) dX7_isSooner_52 ?_
    rw [rcust r hu9]
    refine g_iald C hM rw_20 (rn r 20 (by decide) (by decide)) (cuM D u) rfl h3.2.1 (by decide) dX7_isSooner_53 ?_
    rw [rlev r h3.2.1]
    refine g_icmp_le (tgt := 61) hx hb dX7_isSooner_54 (by decide) (fun c_54 => ?_) (fun c_54 => ?_)
    · skip
      refine lv_iconst (v := 0) hx hb dX7_isSooner_61 (by decide) ?_
      exact g_zret C hr rfl hM hS dX7_isSooner_62 (by decide) (by decide) ⟨trivial, by rw [soM, if_pos c_10, decide_eq_false (show ¬ leM D u < leM D t from c_54) ]; rfl, rfl, rfl⟩
    · skip
      refine lv_iconst (v := 1) hx hb dX7_isSooner_57 (by decide) ?_
      refine lv_goto (tgt := 62) hx hb dX7_isSooner_58 (by decide) ?_
      exact g_zret C hr rfl hM hS dX7_isSooner_62 (by decide) (by decide) ⟨trivial, by rw [soM, if_pos c_10, decide_eq_true (show leM D u < leM D t from c_54) ]; rfl, rfl, rfl⟩
  · skip
    refine lv_aload_n hx hb dX7_isSooner_13 rfl (lv_at hl 0 rfl) ?_
    refine lv_iload_n hx hb dX7_isSooner_14 rfl (lv_at hl 1 rfl) ?_
    refine g_cV C hS (fun _ h => h.elim) hM hl (fun _ h => h) (m_leftFor hfl Γ _ _ _ t D w r hx9 ht9) kX7_leftFor t_1410 (HM.recv C hM clo_7 (r7 r)) dX7_isSooner_15 rfl rfl (Nat.le_of_ble_eq_true rfl) (by decide) rfl ⟨by decide, by decide⟩ xNo_goes (fun H locs hc_15 hM hS => ?_)
    refine lv_aload_n hx hb dX7_isSooner_18 rfl (lv_at hl 0 rfl) ?_
    refine lv_iload_n hx hb dX7_isSooner_19 rfl (lv_at hl 2 rfl) ?_
    refine g_cV C hS (fun _ h => h.elim) hM hl (fun _ h => h) (m_leftFor hfl Γ _ _ _ u D w r hy9 hu9) kX7_leftFor t_1410 (HM.recv C hM clo_7 (r7 r)) dX7_isSooner_20 rfl rfl (Nat.le_of_ble_eq_true rfl) (by decide) rfl ⟨by decide, by decide⟩ xNo_goes (fun H locs hc_20 hM hS => ?_)
    refine g_icmp_ge (tgt := 30) hx hb dX7_isSooner_23 (by decide) (fun c_23 => ?_) (fun c_23 => ?_)
    · skip
      refine lv_iconst (v := 0) hx hb dX7_isSooner_30 (by decide) ?_
      exact g_zret C hr rfl hM hS dX7_isSooner_31 (by decide) (by decide) ⟨trivial, by rw [soM, if_neg c_10, decide_eq_false c_23 ]; rfl, rfl, rfl⟩
    · skip
      refine lv_iconst (v := 1) hx hb dX7_isSooner_26 (by decide) ?_
      refine lv_goto (tgt := 31) hx hb dX7_isSooner_27 (by decide) ?_
      exact g_zret C hr rfl hM hS dX7_isSooner_31 (by decide) (by decide) ⟨trivial, by rw [soM, if_neg c_10, decide_eq_true c_23 ]; rfl, rfl, rfl⟩

set_option maxHeartbeats 4000000 in
set_option maxRecDepth 100000 in
theorem m_next {l : Launch} (hfl : l.stackTraces = false) (Γ : Gm) (K : Nat → Nat → Nat) (M : Mem) (x : Int32) (a : Nat) (D : Mem) (w : Wf D) (r : RC D M) (hxa : x = nI a) (ha9 : a < mN D 0) : CT l Γ pF yX7_next (wsO yX7_next cX7_next 4 (some .int)) 3 [.ref (K 7 0), .int x] K M (DD True (some (.int (oI (mnN D a (mN D 4))))) K M) xNo 0 0 := by
  refine ct_intro hfl (by decide) (Nat.le_of_ble_eq_true rfl) ?_
  intro p e s m args below meth c C ht hr hnm hM ls hl
  have hx := C.1
  have hb := C.2.1
  have hS : va_S pF s.heap s.heap [] := va_S.rf
  have hl : lv_has ls 4 [(0, .ref (K 7 0)), (1, .int x)] := hl
  have hb4 := wn4 w
  have hb0 := wn0 w
  have hb2 := wn2 w
  have hb3 := wn3 w
  refine lv_iconst (v := -1) hx hb dX7_next_0 (by decide) ?_
  refine lv_istore_n (lv' := [(2, _), (0, _), (1, _)]) hx hb dX7_next_1 rfl hl (by decide) rfl (fun ls hl => ?_)
  refine lv_iconst (v := 0) hx hb dX7_next_2 (by decide) ?_
  refine lv_istore_n (lv' := [(3, _), (2, _), (0, _), (1, _)]) hx hb dX7_next_3 rfl hl (by decide) rfl (fun ls hl => ?_)
  suffices K4 : ∀ (n9 : Nat) (n : Nat), mN D 4 - n < n9 → (n ≤ mN D 4) → ∀ (H : Heap) (locs : List Loc) (ls : Array Slot), HM Γ K M H → va_S pF s.heap H locs → lv_has ls 4 [(0, .ref (K 7 0)), (1, .int x), (2, .int (oI (mnN D a n))), (3, .int (nI n))] → W p l e (rmL 3 0 0) s m args below meth c H locs 0 0 (vx_MQ below (cQ Γ pF (DD True (some (.int (oI (mnN D a (mN D 4))))) K M)) (cX Γ pF K M xNo) args s 0 0 pF) (F0 m 4 ls []) by
    exact K4 _ 0 (Nat.lt_succ_self _) (Nat.zero_le _) _ _ _ hM hS (lv_sub hl [2, 3, 1, 0] rfl)
  intro n9
  induction n9 with
  | zero => intro n h9; exact absurd h9 (Nat.not_lt_zero _)
  | succ n9 ih =>
    intro n h9 hn H locs ls hM hS hl
    refine lv_iload_n hx hb dX7_next_4 rfl (lv_at hl 3 rfl) ?_
    refine lv_aload_n hx hb dX7_next_5 rfl (lv_at hl 0 rfl) ?_
    refine g_get C hM clo_7 22 (by decide) (r7 r) t_1320 rfl (v := .int (mT _ 7 22 _)) rfl dX7_next_6 ?_
    refine g_icmp_ge (tgt := 42) hx hb dX7_next_9 (by decide) (fun c_9 => ?_) (fun c_9 => ?_)
    · skip
      refine lv_iload_n hx hb dX7_next_42 rfl (lv_at hl 2 rfl) ?_
      exact g_iret C hr hM hS dX7_next_43 (by decide) (by decide) ⟨trivial, by rw [show n = mN D 4 by rw [rticks r] at c_9; have := (not_congr (nI_ltI (a := n) (b := mN D 4) (by omega) (by omega))).mp c_9; omega], rfl, rfl⟩
    · skip
      have h6 : n < mN D 4 := by rw [rticks r] at c_9; exact (nI_ltI (by omega) (by omega)).mp c_9
      have hlt := mnN_lt (D := D) (a := a) n
      have hab : ∀ z, mnN D a n = some z → z < 2 ^ 31 := fun z hz => by have := hlt z hz; omega
      refine lv_aload_n hx hb dX7_next_12 rfl (lv_at hl 0 rfl) ?_
      refine lv_iload_n hx hb dX7_next_13 rfl (lv_at hl 1 rfl) ?_
      refine lv_iload_n hx hb dX7_next_14 rfl (lv_at hl 3 rfl) ?_
      refine g_cV C hS (fun _ h => h.elim) hM hl (fun _ h => h) (m_isFor hfl Γ _ _ _ _ a n D w r hxa rfl ha9 h6) kX7_isFor t_1561 (HM.recv C hM clo_7 (r7 r)) dX7_next_15 rfl rfl (Nat.le_of_ble_eq_true rfl) (by decide) rfl ⟨by decide, by decide⟩ xNo_goes (fun H locs hc_15 hM hS => ?_)
      refine g_ifeqB (tgt := 36) hx hb dX7_next_18 (by decide) (fun c_18 => ?_) (fun c_18 => ?_)
      · skip
        refine lv_iinc (k := 3) (v := nI (n + 1)) (lv' := [(3, _), (0, _), (1, _), (2, _)]) hx hb dX7_next_36 hl rfl (nI_1 n) (by decide) rfl (fun ls hl => ?_)
        refine lv_goto (tgt := 4) hx hb dX7_next_39 (by decide) ?_
        exact ih (n + 1) (by omega) h6 _ _ _ hM hS ((by rw [mnN, c_18]; exact lv_sub hl [1, 2, 3, 0] rfl))
      · skip
        refine lv_iload_n hx hb dX7_next_21 rfl (lv_at hl 2 rfl) ?_
        refine lv_if_lt (tgt := 34) hx hb dX7_next_22 (by decide) (fun c_22 => ?_) (fun c_22 => ?_)
        · skip
          have hno := (oI_neg hab).mp c_22
          refine lv_iload_n hx hb dX7_next_34 rfl (lv_at hl 3 rfl) ?_
          refine lv_istore_n (lv' := [(2, _), (0, _), (1, _), (3, _)]) hx hb dX7_next_35 rfl hl (by decide) rfl (fun ls hl => ?_)
          refine lv_iinc (k := 3) (v := nI (n + 1)) (lv' := [(3, _), (2, _), (0, _), (1, _)]) hx hb dX7_next_36 hl rfl (nI_1 n) (by decide) rfl (fun ls hl => ?_)
          refine lv_goto (tgt := 4) hx hb dX7_next_39 (by decide) ?_
          exact ih (n + 1) (by omega) h6 _ _ _ hM hS ((by simp only [mnN, c_18, hno, if_true, if_false]; exact lv_sub hl [2, 3, 1, 0] rfl))
        · skip
          obtain ⟨b, hbb⟩ : ∃ b, mnN D a n = some b := by cases ho : mnN D a n with | none => exact absurd ((oI_neg hab).mpr ho) c_22 | some z => exact ⟨z, rfl⟩
          have hb5 : b < mN D 4 := by have := hlt b hbb; omega
          refine lv_aload_n hx hb dX7_next_25 rfl (lv_at hl 0 rfl) ?_
          refine lv_iload_n hx hb dX7_next_26 rfl (lv_at hl 3 rfl) ?_
          refine lv_iload_n hx hb dX7_next_27 rfl (lv_at hl 2 rfl) ?_
          refine g_cV C hS (fun _ h => h.elim) hM hl (fun _ h => h) (m_isSooner hfl Γ _ _ _ _ n b D w r rfl (by rw [hbb]; rfl) h6 hb5) kX7_isSooner t_1569 (HM.recv C hM clo_7 (r7 r)) dX7_next_28 rfl rfl (Nat.le_of_ble_eq_true rfl) (by decide) rfl ⟨by decide, by decide⟩ xNo_goes (fun H locs hc_28 hM hS => ?_)
          refine g_ifeqB (tgt := 36) hx hb dX7_next_31 (by decide) (fun c_31 => ?_) (fun c_31 => ?_)
          · skip
            refine lv_iinc (k := 3) (v := nI (n + 1)) (lv' := [(3, _), (0, _), (1, _), (2, _)]) hx hb dX7_next_36 hl rfl (nI_1 n) (by decide) rfl (fun ls hl => ?_)
            refine lv_goto (tgt := 4) hx hb dX7_next_39 (by decide) ?_
            exact ih (n + 1) (by omega) h6 _ _ _ hM hS ((by rw [show mnN D a (n + 1) = mnN D a n by simp [mnN, c_18, hbb, c_31]]; exact lv_sub hl [1, 2, 3, 0] rfl))
          · skip
            refine lv_iload_n hx hb dX7_next_34 rfl (lv_at hl 3 rfl) ?_
            refine lv_istore_n (lv' := [(2, _), (0, _), (1, _), (3, _)]) hx hb dX7_next_35 rfl hl (by decide) rfl (fun ls hl => ?_)
            refine lv_iinc (k := 3) (v := nI (n + 1)) (lv' := [(3, _), (2, _), (0, _), (1, _)]) hx hb dX7_next_36 hl rfl (nI_1 n) (by decide) rfl (fun ls hl => ?_)
            refine lv_goto (tgt := 4) hx hb dX7_next_39 (by decide) ?_
            exact ih (n + 1) (by omega) h6 _ _ _ hM hS ((by simp only [mnN, c_18, hbb, c_31, if_true, if_false]; exact lv_sub hl [2, 3, 1, 0] rfl))

def wlM (D : Mem) (x : Int32) : Int32 := if inN x (mN D 4) = true then (if ohM D (ix x) = true then 0 else 2) else 1
set_option maxHeartbeats 4000000 in
set_option maxRecDepth 100000 in
theorem m_wrongLive {l : Launch} (hfl : l.stackTraces = false) (Γ : Gm) (K : Nat → Nat → Nat) (M : Mem) (x : Int32) (D : Mem) (w : Wf D) (r : RC D M) : CT l Γ pF yX7_wrongLive (wsO yX7_wrongLive cX7_wrongLive 2 (some .int)) 2 [.ref (K 7 0), .int x] K M (DD True (some (.int (wlM D x))) K M) xNo 0 0 := by
  refine ct_intro hfl (by decide) (Nat.le_of_ble_eq_true rfl) ?_
  intro p e s m args below meth c C ht hr hnm hM ls hl
  have hx := C.1
  have hb := C.2.1
  have hS : va_S pF s.heap s.heap [] := va_S.rf
  have hl : lv_has ls 2 [(0, .ref (K 7 0)), (1, .int x)] := hl
  have hb4 := wn4 w
  have hb0 := wn0 w
  have hb2 := wn2 w
  have hb3 := wn3 w
  refine lv_aload_n hx hb dX7_wrongLive_0 rfl (lv_at hl 0 rfl) ?_
  refine lv_iload_n hx hb dX7_wrongLive_1 rfl (lv_at hl 1 rfl) ?_
  refine g_cV C hS (fun _ h => h.elim) hM hl (fun _ h => h) (m_isTicket hfl Γ _ _ _ D w r) kX7_isTicket t_1474 (HM.recv C hM clo_7 (r7 r)) dX7_wrongLive_2 rfl rfl (Nat.le_of_ble_eq_true rfl) (by decide) rfl ⟨by decide, by decide⟩ xNo_goes (fun H locs hc_2 hM hS => ?_)
  refine g_ifneB (tgt := 12) hx hb dX7_wrongLive_5 (by decide) (fun c_5 => ?_) (fun c_5 => ?_)
  · skip
    obtain ⟨hx1, hx2⟩ := inN_ix c_5 (by omega)
    refine lv_aload_n hx hb dX7_wrongLive_12 rfl (lv_at hl 0 rfl) ?_
    refine lv_iload_n hx hb dX7_wrongLive_13 rfl (lv_at hl 1 rfl) ?_
    refine g_cV C hS (fun _ h => h.elim) hM hl (fun _ h => h) (m_isLive hfl Γ _ _ _ (ix x) D w r hx2 hx1) kX7_isLive t_1442 (HM.recv C hM clo_7 (r7 r)) dX7_wrongLive_14 rfl rfl (Nat.le_of_ble_eq_true rfl) (by decide) rfl ⟨by decide, by decide⟩ xNo_goes (fun H locs hc_14 hM hS => ?_)
    refine g_ifneB (tgt := 24) hx hb dX7_wrongLive_17 (by decide) (fun c_17 => ?_) (fun c_17 => ?_)
    · skip
      refine lv_iconst (v := 0) hx hb dX7_wrongLive_24 (by decide) ?_
      exact g_iret C hr hM hS dX7_wrongLive_25 (by decide) (by decide) ⟨trivial, by simp [wlM, c_5, c_17], rfl, rfl⟩
    · skip
      refine lv_iconst (v := 2) hx hb dX7_wrongLive_20 (by decide) ?_
      refine lv_goto (tgt := 25) hx hb dX7_wrongLive_21 (by decide) ?_
      exact g_iret C hr hM hS dX7_wrongLive_25 (by decide) (by decide) ⟨trivial, by simp [wlM, c_5, c_17], rfl, rfl⟩
  · skip
    refine lv_iconst (v := 1) hx hb dX7_wrongLive_8 (by decide) ?_
    refine lv_goto (tgt := 25) hx hb dX7_wrongLive_9 (by decide) ?_
    exact g_iret C hr hM hS dX7_wrongLive_25 (by decide) (by decide) ⟨trivial, by simp [wlM, c_5], rfl, rfl⟩

