def rTicketOf (M : Mem) (x : Int32) : Nat := if inN x (mN M 2) = true then 0 else 1
set_option maxHeartbeats 4000000 in
set_option maxRecDepth 100000 in
theorem c_ticketOf {l : Launch} (hfl : l.stackTraces = false) (Γ : Gm) (K : Nat → Nat → Nat) (M : Mem) (x : Int32) (w : Wf M) : CT l Γ pF yX6_ticketOf (wsO yX6_ticketOf cX6_ticketOf 2 (some .int)) 8 [.ref (K 6 0), .int x] K M (DD (rTicketOf M x = 0) (some (.int (mT M 4 0 (tkM M (ix x))))) K (M)) (XP ["java/util/NoSuchElementException"] (rTicketOf M x)) 2 12 := by
  refine ct_intro hfl (by decide) (Nat.le_of_ble_eq_true rfl) ?_
  intro p e s m args below meth c C ht hr hnm hM ls hl
  have hx := C.1
  have hb := C.2.1
  have hS : va_S pF s.heap s.heap [] := va_S.rf
  have hl : lv_has ls 2 [(0, .ref (K 6 0)), (1, .int x)] := hl
  have hb4 := wn4 w
  have hb0 := wn0 w
  have hb2 := wn2 w
  refine lv_iload_n hx hb dX6_ticketOf_0 rfl (lv_at hl 1 rfl) ?_
  refine lv_iconst (v := 0) hx hb dX6_ticketOf_1 (by decide) ?_
  refine lv_aload_n hx hb dX6_ticketOf_2 rfl (lv_at hl 0 rfl) ?_
  refine g_get C hM clo_6 3 (by decide) (wn6 (by assumption)) t_102 rfl (v := _) (fv4 rfl) dX6_ticketOf_3 ?_
  refine g_cV C hS (fun _ h => h.elim) hM hl (fun _ h => h) (c_size10 hfl Γ _ _ (by assumption)) kJx4a65c_size_8abf5 t_153 (HM.recvL C hM rfl (wn10 (by assumption))) dX6_ticketOf_6 rfl rfl (Nat.le_of_ble_eq_true rfl) (by decide) rfl ⟨by decide, by decide⟩ xNo_goes (fun H locs hc_6 hM hS => ?_)
  refine lv_iconst (v := 1) hx hb dX6_ticketOf_9 (by decide) ?_
  refine lv_isub hx hb dX6_ticketOf_10 ?_
  refine g_cS C hS (fun _ h => h.elim) hM hl (fun _ h => h) (c_isWithin hfl Γ _ _ _ _ _) kX6_isWithin t_257 dX6_ticketOf_11 rfl rfl (Nat.le_of_ble_eq_true rfl) (by decide) rfl ⟨by decide, by decide⟩ xNo_goes (fun H locs hc_11 hM hS => ?_)
  refine g_ifneB (tgt := 27) hx hb dX6_ticketOf_14 (by decide) (fun c_14 => ?_) (fun c_14 => ?_)
  · skip
    refine lv_aload_n hx hb dX6_ticketOf_27 rfl (lv_at hl 0 rfl) ?_
    refine g_get C hM clo_6 3 (by decide) (wn6 (by assumption)) t_102 rfl (v := _) (fv4 rfl) dX6_ticketOf_28 ?_
    refine lv_iload_n hx hb dX6_ticketOf_31 rfl (lv_at hl 1 rfl) ?_
    refine g_cV C hS (fun _ h => h.elim) hM hl (fun _ h => h) (c_get10 hfl Γ _ _ _ (by assumption) (by assumption)) kJx4a65c_get_915e3 t_181 (HM.recvL C hM rfl (wn10 (by assumption))) dX6_ticketOf_32 rfl rfl (Nat.le_of_ble_eq_true rfl) (by decide) rfl ⟨by decide, by decide⟩ xNo_goes (fun H locs hc_32 hM hS => ?_)
    have hx2 := (inN_ix (n := mN M 2) c_14 (by omega)).1
    have htk := tkM_eq w hx2
    refine g_chk C hM clo_2 hx2 t_726 dX6_ticketOf_35 ?_
    refine g_getN C hM clo_2 1 (by decide) hx2 n_848 rfl (v := _) (fvR rfl htk.1) dX6_ticketOf_38 ?_
    refine g_getN C hM clo_4 0 (by decide) htk.2 n_764 rfl (v := .int (mT _ 4 0 _)) rfl dX6_ticketOf_41 ?_
    exact g_iret C hr hM hS dX6_ticketOf_44 (by decide) (by decide) ⟨by simp [rTicketOf, inN, c_14], rfl, rfl, rfl⟩
  · skip
    exact g_throwE C ht (xp_of 0 (by simp [rTicketOf, inN, c_14]) rfl) hM hS (fun _ h => h.elim) hl (strX_6) dX6_ticketOf_17 dX6_ticketOf_20 dX6_ticketOf_21 dX6_ticketOf_23 dX6_ticketOf_26 rfl (Nat.le_of_ble_eq_true rfl) ⟨by decide, by decide⟩ (by decide) (by decide)

theorem c_lgetx {l : Launch} (hfl : l.stackTraces = false) (Γ : Gm) (K : Nat → Nat → Nat) (M : Mem) (k i : Nat) (q : Nat) (x : Int32) (hx : x = nI q) (hk : isLs k = true) (hi : i < mN M k) (hq : q < (mL M k i).length) : CT l Γ pF yJx4a65c_get_915e3 (wsO yJx4a65c_get_915e3 cJx4a65c_get_915e3 2 (some (.object "java/lang/Object"))) 3 [.ref (K k i), .int x] K M (DD True (some (.ref (K (eK k) ((mL M k i).getD q 0)))) K M) xNo 0 0 := by
  subst hx
  exact c_lget hfl Γ K M k i q hk hi hq
def rMailAt (M : Mem) (x : Int32) (y : Int32) : Nat := if inN x (mN M 4) = true then (if inN y (mL M 8 (ix x)).length = true then 0 else 2) else 1
set_option maxHeartbeats 4000000 in
set_option maxRecDepth 100000 in
theorem c_mailAt {l : Launch} (hfl : l.stackTraces = false) (Γ : Gm) (K : Nat → Nat → Nat) (M : Mem) (x : Int32) (y : Int32) (w : Wf M) : CT l Γ pF yX6_mailAt (wsO yX6_mailAt cX6_mailAt 4 (some .int)) 8 [.ref (K 6 0), .int x, .int y] K M (DD (rMailAt M x y = 0) (some (.int (mT M 2 0 ((mL M 8 (ix x)).getD (ix y) 0)))) K (M)) (XP ["java/lang/IndexOutOfBoundsException", "java/util/NoSuchElementException"] (rMailAt M x y)) 2 12 := by
  refine ct_intro hfl (by decide) (Nat.le_of_ble_eq_true rfl) ?_
  intro p e s m args below meth c C ht hr hnm hM ls hl
  have hx := C.1
  have hb := C.2.1
  have hS : va_S pF s.heap s.heap [] := va_S.rf
  have hl : lv_has ls 4 [(0, .ref (K 6 0)), (1, .int x), (2, .int y)] := hl
  have hb4 := wn4 w
  have hb0 := wn0 w
  have hb2 := wn2 w
  refine lv_aload_n hx hb dX6_mailAt_0 rfl (lv_at hl 0 rfl) ?_
  refine lv_iload_n hx hb dX6_mailAt_1 rfl (lv_at hl 1 rfl) ?_
  refine g_cV C hS (fun _ h => h.elim) hM hl (fun _ h => h) (c_ticketNumbered hfl Γ _ _ _ (by assumption)) kX6_ticketNumbered t_908 (HM.recv C hM clo_6 (wn6 (by assumption))) dX6_mailAt_2 rfl rfl (Nat.le_of_ble_eq_true rfl) (by decide) rfl ⟨by decide, by decide⟩ (g_pass C ht (fun E h => xp_of 0 (by simp [rMailAt, h.2]) h.1) (by decide) (by decide)) (fun H locs hc_2 hM hS => ?_)
  have hq_2 := (inN_ix hc_2 (by have := wn4 w; omega)).1
  refine lv_astore_n (lv' := [(3, _), (0, _), (1, _), (2, _)]) hx hb dX6_mailAt_5 rfl hl (by decide) rfl (fun ls hl => ?_)
  refine lv_iload_n hx hb dX6_mailAt_6 rfl (lv_at hl 3 rfl) ?_
  refine lv_iconst (v := 0) hx hb dX6_mailAt_7 (by decide) ?_
  refine lv_aload_n hx hb dX6_mailAt_8 rfl (lv_at hl 0 rfl) ?_
  refine g_getN C hM clo_4 3 (by decide) (by assumption) n_770 rfl (v := _) (fv3 rfl) dX6_mailAt_9 ?_
  refine g_cV C hS (fun _ h => h.elim) hM hl (fun _ h => h) (c_lsize hfl Γ _ _ 8 _ rfl (wn8 (by assumption) (by assumption))) kJx4a65c_size_8abf5 t_153 (HM.recvL C hM rfl (wn8 (by assumption) (by assumption))) dX6_mailAt_12 rfl rfl (Nat.le_of_ble_eq_true rfl) (by decide) rfl ⟨by decide, by decide⟩ xNo_goes (fun H locs hc_12 hM hS => ?_)
  refine lv_iconst (v := 1) hx hb dX6_mailAt_15 (by decide) ?_
  refine lv_isub hx hb dX6_mailAt_16 ?_
  refine g_cS C hS (fun _ h => h.elim) hM hl (fun _ h => h) (c_isWithin hfl Γ _ _ _ _ _) kX6_isWithin t_257 dX6_mailAt_17 rfl rfl (Nat.le_of_ble_eq_true rfl) (by decide) rfl ⟨by decide, by decide⟩ xNo_goes (fun H locs hc_17 hM hS => ?_)
  refine g_ifneB (tgt := 33) hx hb dX6_mailAt_20 (by decide) (fun c_20 => ?_) (fun c_20 => ?_)
  · skip
    refine lv_aload_n hx hb dX6_mailAt_33 rfl (lv_at hl 0 rfl) ?_
    have hcl := clen w hq_2
    obtain ⟨hy1, hy2⟩ := inN_ix (n := (mL M 8 (ix x)).length) c_20 (by omega)
    replace c_20 : inN y (mL M 8 (ix x)).length = true := c_20
    refine g_getN C hM clo_4 3 (by decide) (by assumption) n_770 rfl (v := _) (fv3 rfl) dX6_mailAt_34 ?_
    refine lv_iload_n hx hb dX6_mailAt_37 rfl (lv_at hl 3 rfl) ?_
    refine g_cV C hS (fun _ h => h.elim) hM hl (fun _ h => h) (c_lgetx hfl Γ _ _ 8 _ (ix y) y hy2 rfl (wn8 w hq_2) hy1) kJx4a65c_get_915e3 t_181 (HM.recvL C hM rfl (wn8 w hq_2)) dX6_mailAt_38 rfl rfl (Nat.le_of_ble_eq_true rfl) (by decide) rfl ⟨by decide, by decide⟩ xNo_goes (fun H locs hc_38 hM hS => ?_)
    refine g_chk C hM clo_2 (cmem w hq_2 hy1) t_726 dX6_mailAt_41 ?_
    refine g_getN C hM clo_2 0 (by decide) (cmem w hq_2 hy1) n_845 rfl (v := .int (mT _ 2 0 _)) rfl dX6_mailAt_44 ?_
    exact g_iret C hr hM hS dX6_mailAt_47 (by decide) (by decide) ⟨by simp [rMailAt, hc_2, c_20], rfl, rfl, rfl⟩
  · skip
    replace c_20 : inN y (mL M 8 (ix x)).length = false := c_20
    exact g_throwE C ht (xp_of 1 (by simp [rMailAt, hc_2, c_20]) rfl) hM hS (fun _ h => h.elim) hl (strX_8) dX6_mailAt_23 dX6_mailAt_26 dX6_mailAt_27 dX6_mailAt_29 dX6_mailAt_32 rfl (Nat.le_of_ble_eq_true rfl) ⟨by decide, by decide⟩ (by decide) (by decide)

def rtM (M : Mem) : Nat → Nat → Nat
  | 0, t => t
  | n + 1, t => match mP M 4 13 t with
    | none => t
    | some u => rtM M n u
theorem rt_st {M : Mem} {rk : Nat → Nat} (hr : ∀ t u, mP M 4 13 t = some u → rk u < rk t) : ∀ n m t, rk t ≤ n → rk t ≤ m → rtM M n t = rtM M m t := by
  intro n
  induction n with
  | zero =>
    intro m t h1 h2
    cases m with
    | zero => rfl
    | succ m =>
      unfold rtM
      cases e : mP M 4 13 t with
      | none => rfl
      | some u => have := hr t u e; omega
  | succ n ih =>
    intro m t h1 h2
    cases m with
    | zero =>
      unfold rtM
      cases e : mP M 4 13 t with
      | none => rfl
      | some u => have := hr t u e; omega
    | succ m =>
      unfold rtM
      cases e : mP M 4 13 t with
      | none => rfl
      | some u => have := hr t u e; exact ih m u (by omega) (by omega)
theorem rt_go {M : Mem} {rk : Nat → Nat} (hr : ∀ t u, mP M 4 13 t = some u → rk u < rk t) {t u : Nat} (h : mP M 4 13 t = some u) : rtM M (rk t) t = rtM M (rk u) u := by
  have h1 := hr t u h
  obtain ⟨k, hk⟩ : ∃ k, rk t = k + 1 := ⟨rk t - 1, by omega⟩
  rw [hk]
  show (match mP M 4 13 t with | none => t | some u => rtM M k u) = _
  rw [h]
  exact rt_st hr _ _ _ (by omega) (by omega)
theorem rt_end {M : Mem} {n t : Nat} (h : mP M 4 13 t = none) : rtM M n t = t := by
  cases n with
  | zero => rfl
  | succ n => unfold rtM; rw [h]
theorem wf_into {M : Mem} {t u : Nat} (w : Wf M) (ht : t < mN M 4) (h : mP M 4 13 t = some u) : u < mN M 4 := (w.2.2.1 t ht).2.2.2.2.2.2.1 u h
def rMergedInto (M : Mem) (x : Int32) : Nat := if inN x (mN M 4) = true then (if mP M 4 13 (ix x) = none then 2 else 0) else 1
set_option maxHeartbeats 4000000 in
set_option maxRecDepth 100000 in
theorem c_mergedInto {l : Launch} (hfl : l.stackTraces = false) (Γ : Gm) (K : Nat → Nat → Nat) (M : Mem) (x : Int32) (w : Wf M) (rk : Nat → Nat) (hrk : ∀ t u, mP M 4 13 t = some u → rk u < rk t) : CT l Γ pF yX6_mergedInto (wsO yX6_mergedInto cX6_mergedInto 3 (some .int)) 8 [.ref (K 6 0), .int x] K M (DD (rMergedInto M x = 0) (some (.int (mT M 4 0 (rtM M (rk (ix x)) (ix x))))) K (M)) (XP ["java/lang/IndexOutOfBoundsException", "java/util/NoSuchElementException"] (rMergedInto M x)) 2 12 := by
  refine ct_intro hfl (by decide) (Nat.le_of_ble_eq_true rfl) ?_
  intro p e s m args below meth c C ht hr hnm hM ls hl
  have hx := C.1
  have hb := C.2.1
  have hS : va_S pF s.heap s.heap [] := va_S.rf
  have hl : lv_has ls 3 [(0, .ref (K 6 0)), (1, .int x)] := hl
  have hb4 := wn4 w
  have hb0 := wn0 w
  have hb2 := wn2 w
  refine lv_aload_n hx hb dX6_mergedInto_0 rfl (lv_at hl 0 rfl) ?_
  refine lv_iload_n hx hb dX6_mergedInto_1 rfl (lv_at hl 1 rfl) ?_
  refine g_cV C hS (fun _ h => h.elim) hM hl (fun _ h => h) (c_ticketNumbered hfl Γ _ _ _ (by assumption)) kX6_ticketNumbered t_908 (HM.recv C hM clo_6 (wn6 (by assumption))) dX6_mergedInto_2 rfl rfl (Nat.le_of_ble_eq_true rfl) (by decide) rfl ⟨by decide, by decide⟩ (g_pass C ht (fun E h => xp_of 0 (by simp [rMergedInto, h.2]) h.1) (by decide) (by decide)) (fun H locs hc_2 hM hS => ?_)
  have hq_2 := (inN_ix hc_2 (by have := wn4 w; omega)).1
  refine lv_astore_n (lv' := [(2, _), (0, _), (1, _)]) hx hb dX6_mergedInto_5 rfl hl (by decide) rfl (fun ls hl => ?_)
  refine lv_aload_n hx hb dX6_mergedInto_6 rfl (lv_at hl 0 rfl) ?_
  rcases hp_7 : (mP M 4 13 (ix x)) with _ | q_7
  · refine g_getN C hM clo_4 13 (by decide) (by assumption) n_788 rfl (v := .null) (fvN rfl hp_7) dX6_mergedInto_7 ?_
    refine lv_ifnonnullN hx hb dX6_mergedInto_10 ?_
    exact g_throwE C ht (xp_of 1 (by simp [rMergedInto, hc_2, hp_7]) rfl) hM hS (fun _ h => h.elim) hl (strX_9) dX6_mergedInto_13 dX6_mergedInto_16 dX6_mergedInto_17 dX6_mergedInto_19 dX6_mergedInto_22 rfl (Nat.le_of_ble_eq_true rfl) ⟨by decide, by decide⟩ (by decide) (by decide)
  · refine g_getN C hM clo_4 13 (by decide) (by assumption) n_788 rfl (v := _) (fvR rfl hp_7) dX6_mergedInto_7 ?_
    refine lv_ifnonnull (tgt := 23) hx hb dX6_mergedInto_10 (by decide) ?_
    suffices K23 : ∀ (n9 : Nat) (t : Nat), rk t < n9 → (t < mN M 4) → (rtM M (rk (ix x)) (ix x) = rtM M (rk t) t) → ∀ (H : Heap) (locs : List Loc) (ls : Array Slot), HM Γ K M H → va_S pF s.heap H locs → lv_has ls 3 [(0, .ref (K 6 0)), (1, .int x), (2, .ref (K 4 t))] → W p l e (rmL 8 2 12) s m args below meth c H locs 1 6 (vx_MQ below (cQ Γ pF (DD (rMergedInto M x = 0) (some (.int (mT M 4 0 (rtM M (rk (ix x)) (ix x))))) K (M))) (cX Γ pF K M (XP ["java/lang/IndexOutOfBoundsException", "java/util/NoSuchElementException"] (rMergedInto M x))) args s 2 12 pF) (F0 m 23 ls []) by
      exact K23 _ (ix x) (Nat.lt_succ_self _) hq_2 rfl _ _ _ hM hS (lv_sub hl [1, 2, 0] rfl)
    intro n9
    induction n9 with
    | zero => intro t h9; exact absurd h9 (Nat.not_lt_zero _)
    | succ n9 ih =>
      intro t h9 ht4 hrt H locs ls hM hS hl
      refine lv_aload_n hx hb dX6_mergedInto_23 rfl (lv_at hl 2 rfl) ?_
      rcases hp_24 : (mP M 4 13 t) with _ | q_24
      · refine g_getN C hM clo_4 13 (by decide) ht4 n_788 rfl (v := .null) (fvN rfl hp_24) dX6_mergedInto_24 ?_
        refine lv_ifnullN (tgt := 38) hx hb dX6_mergedInto_27 (by decide) ?_
        refine lv_aload_n hx hb dX6_mergedInto_38 rfl (lv_at hl 2 rfl) ?_
        refine g_getN C hM clo_4 0 (by decide) ht4 n_764 rfl (v := .int (mT _ 4 0 _)) rfl dX6_mergedInto_39 ?_
        exact g_iret C hr hM hS dX6_mergedInto_42 (by decide) (by decide) ⟨by simp [rMergedInto, hc_2, hp_7], by rw [hrt, rt_end hp_24], rfl, rfl⟩
      · refine g_getN C hM clo_4 13 (by decide) ht4 n_788 rfl (v := _) (fvR rfl hp_24) dX6_mergedInto_24 ?_
        refine lv_ifnull hx hb dX6_mergedInto_27 ?_
        refine lv_aload_n hx hb dX6_mergedInto_30 rfl (lv_at hl 2 rfl) ?_
        refine g_getN C hM clo_4 13 (by decide) ht4 n_788 rfl (v := _) (fvR rfl hp_24) dX6_mergedInto_31 ?_
        refine lv_astore_n (lv' := [(2, _), (0, _), (1, _)]) hx hb dX6_mergedInto_34 rfl hl (by decide) rfl (fun ls hl => ?_)
        refine lv_goto (tgt := 23) hx hb dX6_mergedInto_35 (by decide) ?_
        exact ih q_24 (by have := hrk _ _ hp_24; omega) (wf_into w ht4 hp_24) (hrt.trans (rt_go hrk hp_24)) _ _ _ hM hS (lv_sub hl [1, 2, 0] rfl)

def rHold (M : Mem) (x : Int32) : Nat := if inN x (mN M 4) = true then (if mT M 4 6 (ix x) = 111 then 0 else 2) else 1
set_option maxHeartbeats 4000000 in
set_option maxRecDepth 100000 in
theorem c_hold {l : Launch} (hfl : l.stackTraces = false) (Γ : Gm) (K : Nat → Nat → Nat) (M : Mem) (x : Int32) (w : Wf M) : CT l Γ (gFree Γ) yX6_hold (wsO yX6_hold cX6_hold 3 (some .int)) 8 [.ref (K 6 0), .int x] K M (DD (rHold M x = 0) (some (.int (mT (lqM M (ix x)) 4 7 (ix x)))) K (sT (lqM M (ix x)) 4 6 (ix x) 104)) (XP ["java/lang/IndexOutOfBoundsException", "java/lang/IllegalStateException"] (rHold M x)) 2 12 := by
  refine ct_intro hfl (by decide) (Nat.le_of_ble_eq_true rfl) ?_
  intro p e s m args below meth c C ht hr hnm hM ls hl
  have hx := C.1
  have hb := C.2.1
  have hS : va_S (gFree Γ) s.heap s.heap [] := va_S.rf
  have hl : lv_has ls 3 [(0, .ref (K 6 0)), (1, .int x)] := hl
  have hb4 := wn4 w
  have hb0 := wn0 w
  have hb2 := wn2 w
  refine lv_aload_n hx hb dX6_hold_0 rfl (lv_at hl 0 rfl) ?_
  refine lv_iload_n hx hb dX6_hold_1 rfl (lv_at hl 1 rfl) ?_
  refine g_cV C hS (fun _ h => h) hM hl (fun _ h => h.elim) (c_ticketNumbered hfl Γ _ _ _ (by assumption)) kX6_ticketNumbered t_908 (HM.recv C hM clo_6 (wn6 (by assumption))) dX6_hold_2 rfl rfl (Nat.le_of_ble_eq_true rfl) (by decide) rfl ⟨by decide, by decide⟩ (g_pass C ht (fun E h => xp_of 0 (by simp [rHold, h.2]) h.1) (by decide) (by decide)) (fun H locs hc_2 hM hS => ?_)
  have hq_2 := (inN_ix hc_2 (by have := wn4 w; omega)).1
  refine lv_astore_n (lv' := [(2, _), (0, _), (1, _)]) hx hb dX6_hold_5 rfl hl (by decide) rfl (fun ls hl => ?_)
  refine lv_aload_n hx hb dX6_hold_6 rfl (lv_at hl 0 rfl) ?_
  refine g_getN C hM clo_4 6 (by decide) (by assumption) n_776 rfl (v := .int (mT _ 4 6 _)) rfl dX6_hold_7 ?_
  refine lv_bipush (v := 111) hx hb dX6_hold_10 (by decide) ?_
  refine lv_icmp_eq (tgt := 26) hx hb dX6_hold_12 (by decide) (fun c_12 => ?_) (fun c_12 => ?_)
  · skip
    refine lv_aload_n hx hb dX6_hold_26 rfl (lv_at hl 1 rfl) ?_
    refine lv_aload_n hx hb dX6_hold_27 rfl (lv_at hl 0 rfl) ?_
    refine g_cV C hS (fun _ h => h) hM hl (fun _ h => h) (c_leaveQueue hfl Γ _ _ _ (by assumption) (by assumption)) kX6_leaveQueue t_827 (HM.recv C hM clo_6 (wn6 (by assumption))) dX6_hold_28 rfl rfl (Nat.le_of_ble_eq_true rfl) (by decide) rfl ⟨by decide, by decide⟩ xNo_goes (fun H locs hc_28 hM hS => ?_)
    have hA : ix x < mN (lqM M (ix x)) 4 := (by rw [mN_lq]; exact hq_2)
    refine lv_aload_n hx hb dX6_hold_31 rfl (lv_at hl 0 rfl) ?_
    refine lv_bipush (v := 104) hx hb dX6_hold_32 (by decide) ?_
    refine g_putI C hM hS clo_4 6 (by decide) rfl (by assumption) rfl rfl rfl rfl dX6_hold_34 (Or.inr n_776) (fun H locs hM hS => ?_)
    refine lv_aload_n hx hb dX6_hold_37 rfl (lv_at hl 0 rfl) ?_
    refine g_getN C hM clo_4 7 (by decide) (by assumption) n_778 rfl (v := .int (mT _ 4 7 _)) rfl dX6_hold_38 ?_
    exact g_iret C hr hM hS dX6_hold_41 (by decide) (by decide) ⟨by simp [rHold, hc_2, c_12], rfl, rfl, rfl⟩
  · skip
    exact g_throwW C ht (xp_of 1 (by simp [rHold, hc_2, c_12]) rfl) hM hS (fun _ h => h) hl thr_122 (strX_21) dX6_hold_15 dX6_hold_18 dX6_hold_19 dX6_hold_22 dX6_hold_25 rfl (Nat.le_of_ble_eq_true rfl) ⟨by decide, by decide⟩ (by decide) (by decide)

def rResume (M : Mem) (x : Int32) : Nat := if inN x (mN M 4) = true then (if mT M 4 6 (ix x) = 104 then 0 else 2) else 1
set_option maxHeartbeats 4000000 in
set_option maxRecDepth 100000 in
theorem c_resume {l : Launch} (hfl : l.stackTraces = false) (Γ : Gm) (K : Nat → Nat → Nat) (M : Mem) (x : Int32) (w : Wf M) : CT l Γ (gFree Γ) yX6_resume (wsO yX6_resume cX6_resume 3 (some .int)) 10 [.ref (K 6 0), .int x] K M (DD (rResume M x = 0) (some (.int (mT (jqM (sT M 4 6 (ix x) 111) (ix x)) 4 7 (ix x)))) K (jqM (sT M 4 6 (ix x) 111) (ix x))) (XP ["java/lang/IndexOutOfBoundsException", "java/lang/IllegalStateException"] (rResume M x)) 2 130 := by
  refine ct_intro hfl (by decide) (Nat.le_of_ble_eq_true rfl) ?_
  intro p e s m args below meth c C ht hr hnm hM ls hl
  have hx := C.1
  have hb := C.2.1
  have hS : va_S (gFree Γ) s.heap s.heap [] := va_S.rf
  have hl : lv_has ls 3 [(0, .ref (K 6 0)), (1, .int x)] := hl
  have hb4 := wn4 w
  have hb0 := wn0 w
  have hb2 := wn2 w
  refine lv_aload_n hx hb dX6_resume_0 rfl (lv_at hl 0 rfl) ?_
  refine lv_iload_n hx hb dX6_resume_1 rfl (lv_at hl 1 rfl) ?_
  refine g_cV C hS (fun _ h => h) hM hl (fun _ h => h.elim) (c_ticketNumbered hfl Γ _ _ _ (by assumption)) kX6_ticketNumbered t_908 (HM.recv C hM clo_6 (wn6 (by assumption))) dX6_resume_2 rfl rfl (Nat.le_of_ble_eq_true rfl) (by decide) rfl ⟨by decide, by decide⟩ (g_pass C ht (fun E h => xp_of 0 (by simp [rResume, h.2]) h.1) (by decide) (by decide)) (fun H locs hc_2 hM hS => ?_)
  have hq_2 := (inN_ix hc_2 (by have := wn4 w; omega)).1
  refine lv_astore_n (lv' := [(2, _), (0, _), (1, _)]) hx hb dX6_resume_5 rfl hl (by decide) rfl (fun ls hl => ?_)
  refine lv_aload_n hx hb dX6_resume_6 rfl (lv_at hl 0 rfl) ?_
  refine g_getN C hM clo_4 6 (by decide) (by assumption) n_776 rfl (v := .int (mT _ 4 6 _)) rfl dX6_resume_7 ?_
  refine lv_bipush (v := 104) hx hb dX6_resume_10 (by decide) ?_
  refine lv_icmp_eq (tgt := 26) hx hb dX6_resume_12 (by decide) (fun c_12 => ?_) (fun c_12 => ?_)
  · skip
    refine lv_aload_n hx hb dX6_resume_26 rfl (lv_at hl 0 rfl) ?_
    refine lv_bipush (v := 111) hx hb dX6_resume_27 (by decide) ?_
    refine g_putI C hM hS clo_4 6 (by decide) rfl (by assumption) rfl rfl rfl rfl dX6_resume_29 (Or.inr n_776) (fun H locs hM hS => ?_)
    have wA : Wf (sT M 4 6 (ix x) 111) := wf_sT (by decide) (by decide) w
    refine lv_aload_n hx hb dX6_resume_32 rfl (lv_at hl 1 rfl) ?_
    refine lv_aload_n hx hb dX6_resume_33 rfl (lv_at hl 0 rfl) ?_
    refine g_cV C hS (fun _ h => h) hM hl (fun _ h => h) (c_joinQueue hfl Γ _ _ _ (by assumption) (by assumption)) kX6_joinQueue t_869 (HM.recv C hM clo_6 (wn6 (by assumption))) dX6_resume_34 rfl rfl (Nat.le_of_ble_eq_true rfl) (by decide) rfl ⟨by decide, by decide⟩ xNo_goes (fun H locs hc_34 hM hS => ?_)
    have hA : ix x < mN (jqM (sT M 4 6 (ix x) 111) (ix x)) 4 := by rw [mN_jq]; exact hq_2
    refine lv_aload_n hx hb dX6_resume_37 rfl (lv_at hl 0 rfl) ?_
    refine g_getN C hM clo_4 7 (by decide) (by assumption) n_778 rfl (v := .int (mT _ 4 7 _)) rfl dX6_resume_38 ?_
    exact g_iret C hr hM hS dX6_resume_41 (by decide) (by decide) ⟨by simp [rResume, hc_2, c_12], rfl, rfl, rfl⟩
  · skip
    exact g_throwW C ht (xp_of 1 (by simp [rResume, hc_2, c_12]) rfl) hM hS (fun _ h => h) hl thr_122 (strX_22) dX6_resume_15 dX6_resume_18 dX6_resume_19 dX6_resume_22 dX6_resume_25 rfl (Nat.le_of_ble_eq_true rfl) ⟨by decide, by decide⟩ (by decide) (by decide)

def topM (M : Mem) (i : Nat) (t : Int32) : Mem := sT (lqM M i) 4 4 i t
def stopM (M : Mem) (i : Nat) (t : Int32) : Mem := jqM (match mP (topM M i t) 4 9 i with
  | none => topM M i t
  | some a => if hsM (topM M i t) a t = true then topM M i t else leaveM (topM M i t) i) i
def rSetTopic (M : Mem) (x : Int32) (y : Int32) : Nat := if inN x (mN M 4) = true then (if inB y 0 5 = true then (if ohM M (ix x) = true then 0 else 3) else 2) else 1
set_option maxHeartbeats 4000000 in
set_option maxRecDepth 100000 in
theorem c_setTopic {l : Launch} (hfl : l.stackTraces = false) (Γ : Gm) (K : Nat → Nat → Nat) (M : Mem) (x : Int32) (y : Int32) (w : Wf M) : CT l Γ (gFree Γ) yX6_setTopic (wsO yX6_setTopic cX6_setTopic 5 (some .int)) 10 [.ref (K 6 0), .int x, .int y] K M (DD (rSetTopic M x y = 0) (some (.int (mT M 4 4 (ix x)))) K (stopM M (ix x) y)) (XP ["java/lang/IndexOutOfBoundsException", "java/lang/IllegalArgumentException", "java/lang/IllegalStateException"] (rSetTopic M x y)) 3 140 := by
  refine ct_intro hfl (by decide) (Nat.le_of_ble_eq_true rfl) ?_
  intro p e s m args below meth c C ht hr hnm hM ls hl
  have hx := C.1
  have hb := C.2.1
  have hS : va_S (gFree Γ) s.heap s.heap [] := va_S.rf
  have hl : lv_has ls 5 [(0, .ref (K 6 0)), (1, .int x), (2, .int y)] := hl
  have hb4 := wn4 w
  have hb0 := wn0 w
  have hb2 := wn2 w
  refine lv_aload_n hx hb dX6_setTopic_0 rfl (lv_at hl 0 rfl) ?_
  refine lv_iload_n hx hb dX6_setTopic_1 rfl (lv_at hl 1 rfl) ?_
  refine g_cV C hS (fun _ h => h) hM hl (fun _ h => h.elim) (c_ticketNumbered hfl Γ _ _ _ (by assumption)) kX6_ticketNumbered t_908 (HM.recv C hM clo_6 (wn6 (by assumption))) dX6_setTopic_2 rfl rfl (Nat.le_of_ble_eq_true rfl) (by decide) rfl ⟨by decide, by decide⟩ (g_pass C ht (fun E h => xp_of 0 (by simp [rSetTopic, h.2]) h.1) (by decide) (by decide)) (fun H locs hc_2 hM hS => ?_)
  have hq_2 := (inN_ix hc_2 (by have := wn4 w; omega)).1
  refine lv_astore_n (lv' := [(3, _), (0, _), (1, _), (2, _)]) hx hb dX6_setTopic_5 rfl hl (by decide) rfl (fun ls hl => ?_)
  refine lv_iload_n hx hb dX6_setTopic_6 rfl (lv_at hl 3 rfl) ?_
  refine g_cS C hS (fun _ h => h) hM hl (fun _ h => h.elim) (c_isTopic hfl Γ _ _ _) kX6_isTopic t_699 dX6_setTopic_7 rfl rfl (Nat.le_of_ble_eq_true rfl) (by decide) rfl ⟨by decide, by decide⟩ xNo_goes (fun H locs hc_7 hM hS => ?_)
  refine g_ifneB (tgt := 23) hx hb dX6_setTopic_10 (by decide) (fun c_10 => ?_) (fun c_10 => ?_)
  · skip
    refine lv_aload_n hx hb dX6_setTopic_23 rfl (lv_at hl 0 rfl) ?_
    refine g_cS C hS (fun _ h => h) hM hl (fun _ h => h.elim) (c_requireOpenOrHeld hfl Γ _ _ _ (by assumption)) kX6_requireOpenOrHeld t_946 dX6_setTopic_24 rfl rfl (Nat.le_of_ble_eq_true rfl) (by decide) rfl ⟨by decide, by decide⟩ (g_pass C ht (fun E h => xp_of 2 (by simp [rSetTopic, h.2, hc_2, c_10]) h.1) (by decide) (by decide)) (fun H locs hc_24 hM hS => ?_)
    refine lv_aload_n hx hb dX6_setTopic_27 rfl (lv_at hl 0 rfl) ?_
    refine g_getN C hM clo_4 4 (by decide) (by assumption) n_772 rfl (v := .int (mT _ 4 4 _)) rfl dX6_setTopic_28 ?_
    refine lv_istore (lv' := [(4, _), (3, _), (0, _), (1, _), (2, _)]) hx hb dX6_setTopic_31 hl (by decide) rfl (fun ls hl => ?_)
    refine lv_aload_n hx hb dX6_setTopic_33 rfl (lv_at hl 2 rfl) ?_
    refine lv_aload_n hx hb dX6_setTopic_34 rfl (lv_at hl 1 rfl) ?_
    refine g_cV C hS (fun _ h => h) hM hl (fun _ h => h) (c_leaveQueue hfl Γ _ _ _ (by assumption) (by assumption)) kX6_leaveQueue t_827 (HM.recv C hM clo_6 (wn6 (by assumption))) dX6_setTopic_35 rfl rfl (Nat.le_of_ble_eq_true rfl) (by decide) rfl ⟨by decide, by decide⟩ xNo_goes (fun H locs hc_35 hM hS => ?_)
    have hA : ix x < mN (lqM M (ix x)) 4 := (by rw [mN_lq]; exact hq_2)
    obtain ⟨hy1, hy2⟩ := inB_ix (n := 6) c_10 (by omega)
    have wB : Wf (sT (lqM M (ix x)) 4 4 (ix x) y) := by rw [hy2]; exact wf_topic hy1 (wf_lq w hq_2)
    refine lv_aload_n hx hb dX6_setTopic_38 rfl (lv_at hl 1 rfl) ?_
    refine lv_iload_n hx hb dX6_setTopic_39 rfl (lv_at hl 4 rfl) ?_
    refine g_putI C hM hS clo_4 4 (by decide) rfl (by assumption) rfl rfl rfl rfl dX6_setTopic_40 (Or.inr n_772) (fun H locs hM hS => ?_)
    refine lv_aload_n hx hb dX6_setTopic_43 rfl (lv_at hl 1 rfl) ?_
    rcases hp_44 : (mP (sT (lqM M (ix x)) 4 4 (ix x) y) 4 9 (ix x)) with _ | q_44
    · refine g_getN C hM clo_4 9 (by decide) (by assumption) n_782 rfl (v := .null) (fvN rfl hp_44) dX6_setTopic_44 ?_
      refine lv_ifnullN (tgt := 65) hx hb dX6_setTopic_47 (by decide) ?_
      refine lv_aload_n hx hb dX6_setTopic_65 rfl (lv_at hl 2 rfl) ?_
      refine lv_aload_n hx hb dX6_setTopic_66 rfl (lv_at hl 1 rfl) ?_
      refine g_cV C hS (fun _ h => h) hM hl (fun _ h => h) (c_joinQueue hfl Γ _ _ _ (by assumption) (by assumption)) kX6_joinQueue t_869 (HM.recv C hM clo_6 (wn6 (by assumption))) dX6_setTopic_67 rfl rfl (Nat.le_of_ble_eq_true rfl) (by decide) rfl ⟨by decide, by decide⟩ xNo_goes (fun H locs hc_67 hM hS => ?_)
      refine lv_iload hx hb dX6_setTopic_70 (lv_at hl 0 rfl) ?_
      exact g_iret C hr hM hS dX6_setTopic_72 (by decide) (by decide) ⟨by simp [rSetTopic, hc_2, c_10, hc_24], rfl, rfl, by simp only [stopM, topM, hp_44]⟩
    · refine g_getN C hM clo_4 9 (by decide) (by assumption) n_782 rfl (v := _) (fvR rfl hp_44) dX6_setTopic_44 ?_
      refine lv_ifnull hx hb dX6_setTopic_47 ?_
      refine lv_aload_n hx hb dX6_setTopic_50 rfl (lv_at hl 1 rfl) ?_
      refine g_getN C hM clo_4 9 (by decide) (by assumption) n_782 rfl (v := _) (fvR rfl hp_44) dX6_setTopic_51 ?_
      refine lv_iload_n hx hb dX6_setTopic_54 rfl (lv_at hl 4 rfl) ?_
      refine g_cV C hS (fun _ h => h) hM hl (fun _ h => h.elim) (c_hasSkill hfl Γ _ _ _ _ ((wB.2.2.1 _ hA).2.2.2.2.1 _ hp_44)) kX0_hasSkill t_954 (HM.recv C hM clo_0 ((wB.2.2.1 _ hA).2.2.2.2.1 _ hp_44)) dX6_setTopic_55 rfl rfl (Nat.le_of_ble_eq_true rfl) (by decide) rfl ⟨by decide, by decide⟩ xNo_goes (fun H locs hc_55 hM hS => ?_)
      refine g_ifneB (tgt := 65) hx hb dX6_setTopic_58 (by decide) (fun c_58 => ?_) (fun c_58 => ?_)
      · skip
        refine lv_aload_n hx hb dX6_setTopic_65 rfl (lv_at hl 2 rfl) ?_
        refine lv_aload_n hx hb dX6_setTopic_66 rfl (lv_at hl 1 rfl) ?_
        refine g_cV C hS (fun _ h => h) hM hl (fun _ h => h) (c_joinQueue hfl Γ _ _ _ (by assumption) (by assumption)) kX6_joinQueue t_869 (HM.recv C hM clo_6 (wn6 (by assumption))) dX6_setTopic_67 rfl rfl (Nat.le_of_ble_eq_true rfl) (by decide) rfl ⟨by decide, by decide⟩ xNo_goes (fun H locs hc_67 hM hS => ?_)
        refine lv_iload hx hb dX6_setTopic_70 (lv_at hl 0 rfl) ?_
        exact g_iret C hr hM hS dX6_setTopic_72 (by decide) (by decide) ⟨by simp [rSetTopic, hc_2, c_10, hc_24, c_58], rfl, rfl, by simp only [stopM, topM, hp_44, c_58]; rfl⟩
      · skip
        refine lv_aload_n hx hb dX6_setTopic_61 rfl (lv_at hl 1 rfl) ?_
        refine g_cV C hS (fun _ h => h) hM hl (fun _ h => h) (c_leaveAgent hfl Γ _ _ _ (by assumption) (by assumption)) kX4_leaveAgent t_955 (HM.recv C hM clo_4 (by assumption)) dX6_setTopic_62 rfl rfl (Nat.le_of_ble_eq_true rfl) (by decide) rfl ⟨by decide, by decide⟩ xNo_goes (fun H locs hc_62 hM hS => ?_)
        have wC := wf_leave (i := ix x) wB
        have hC : ix x < mN (leaveM (sT (lqM M (ix x)) 4 4 (ix x) y) (ix x)) 4 := by rw [mN_leave]; exact hA
        refine lv_aload_n hx hb dX6_setTopic_65 rfl (lv_at hl 2 rfl) ?_
        refine lv_aload_n hx hb dX6_setTopic_66 rfl (lv_at hl 1 rfl) ?_
        refine g_cV C hS (fun _ h => h) hM hl (fun _ h => h) (c_joinQueue hfl Γ _ _ _ (by assumption) (by assumption)) kX6_joinQueue t_869 (HM.recv C hM clo_6 (wn6 (by assumption))) dX6_setTopic_67 rfl rfl (Nat.le_of_ble_eq_true rfl) (by decide) rfl ⟨by decide, by decide⟩ xNo_goes (fun H locs hc_67 hM hS => ?_)
        refine lv_iload hx hb dX6_setTopic_70 (lv_at hl 0 rfl) ?_
        exact g_iret C hr hM hS dX6_setTopic_72 (by decide) (by decide) ⟨by simp [rSetTopic, hc_2, c_10, hc_24, c_58], rfl, rfl, by simp only [stopM, topM, hp_44, c_58]; rfl⟩
  · skip
    exact g_throw C ht (xp_of 1 (by simp [rSetTopic, hc_2, c_10]) rfl) hM hS (fun _ h => h) hl thr_59 (strX_10) dX6_setTopic_13 dX6_setTopic_16 dX6_setTopic_17 dX6_setTopic_19 dX6_setTopic_22 rfl (Nat.le_of_ble_eq_true rfl) ⟨by decide, by decide⟩ (by decide) (by decide)

def wtN (M : Mem) (a : Nat) : Nat → Int32
  | 0 => 0
  | n + 1 => if caM M a (nI n) = true then wtN M a n + nI (mL M 9 n).length else wtN M a n
def rWaiting (M : Mem) (x : Int32) : Nat := if inN x (mN M 0) = true then (0) else 1
set_option maxHeartbeats 4000000 in
set_option maxRecDepth 100000 in
theorem c_waiting {l : Launch} (hfl : l.stackTraces = false) (Γ : Gm) (K : Nat → Nat → Nat) (M : Mem) (x : Int32) (w : Wf M) : CT l Γ pF yX6_waiting (wsO yX6_waiting cX6_waiting 5 (some .int)) 8 [.ref (K 6 0), .int x] K M (DD (rWaiting M x = 0) (some (.int (wtN M (ix x) 6))) K (M)) (XP ["java/lang/IndexOutOfBoundsException"] (rWaiting M x)) 2 12 := by
  refine ct_intro hfl (by decide) (Nat.le_of_ble_eq_true rfl) ?_
  intro p e s m args below meth c C ht hr hnm hM ls hl
  have hx := C.1
  have hb := C.2.1
  have hS : va_S pF s.heap s.heap [] := va_S.rf
  have hl : lv_has ls 5 [(0, .ref (K 6 0)), (1, .int x)] := hl
  have hb4 := wn4 w
  have hb0 := wn0 w
  have hb2 := wn2 w
  refine lv_aload_n hx hb dX6_waiting_0 rfl (lv_at hl 0 rfl) ?_
  refine lv_iload_n hx hb dX6_waiting_1 rfl (lv_at hl 1 rfl) ?_
  refine g_cV C hS (fun _ h => h.elim) hM hl (fun _ h => h) (c_agentNumbered hfl Γ _ _ _ (by assumption)) kX6_agentNumbered t_1020 (HM.recv C hM clo_6 (wn6 (by assumption))) dX6_waiting_2 rfl rfl (Nat.le_of_ble_eq_true rfl) (by decide) rfl ⟨by decide, by decide⟩ (g_pass C ht (fun E h => xp_of 0 (by simp [rWaiting, h.2]) h.1) (by decide) (by decide)) (fun H locs hc_2 hM hS => ?_)
  have hq_2 := (inN_ix hc_2 (by have := wn0 w; omega)).1
  refine lv_astore_n (lv' := [(2, _), (0, _), (1, _)]) hx hb dX6_waiting_5 rfl hl (by decide) rfl (fun ls hl => ?_)
  refine lv_iconst (v := 0) hx hb dX6_waiting_6 (by decide) ?_
  refine lv_istore_n (lv' := [(3, _), (2, _), (0, _), (1, _)]) hx hb dX6_waiting_7 rfl hl (by decide) rfl (fun ls hl => ?_)
  refine lv_iconst (v := 0) hx hb dX6_waiting_8 (by decide) ?_
  refine lv_istore (lv' := [(4, _), (3, _), (2, _), (0, _), (1, _)]) hx hb dX6_waiting_9 hl (by decide) rfl (fun ls hl => ?_)
  suffices K11 : ∀ (n9 : Nat) (n : Nat), 6 - n < n9 → (n ≤ 6) → ∀ (H : Heap) (locs : List Loc) (ls : Array Slot), HM Γ K M H → va_S pF s.heap H locs → lv_has ls 5 [(0, .ref (K 6 0)), (1, .int x), (2, .ref (K 0 (ix x))), (3, .int (wtN M (ix x) n)), (4, .int (nI n))] → W p l e (rmL 8 2 12) s m args below meth c H locs 1 6 (vx_MQ below (cQ Γ pF (DD (rWaiting M x = 0) (some (.int (wtN M (ix x) 6))) K (M))) (cX Γ pF K M (XP ["java/lang/IndexOutOfBoundsException"] (rWaiting M x))) args s 2 12 pF) (F0 m 11 ls []) by
    exact K11 _ 0 (Nat.lt_succ_self _) (Nat.zero_le _) _ _ _ hM hS (lv_sub hl [3, 4, 2, 1, 0] rfl)
  intro n9
  induction n9 with
  | zero => intro n h9; exact absurd h9 (Nat.not_lt_zero _)
  | succ n9 ih =>
    intro n h9 hn H locs ls hM hS hl
    refine lv_iload hx hb dX6_waiting_11 (lv_at hl 4 rfl) ?_
    refine lv_bipush (v := 6) hx hb dX6_waiting_13 (by decide) ?_
    refine g_icmp_ge (tgt := 46) hx hb dX6_waiting_15 (by decide) (fun c_15 => ?_) (fun c_15 => ?_)
    · skip
      refine lv_iload_n hx hb dX6_waiting_46 rfl (lv_at hl 3 rfl) ?_
      exact g_iret C hr hM hS dX6_waiting_47 (by decide) (by decide) ⟨by simp [rWaiting, hc_2], by rw [show n = 6 by have := (not_congr (nI_ltI (a := n) (b := 6) (by omega) (by omega))).mp c_15; omega], rfl, rfl⟩
    · skip
      have h6 : n < 6 := (nI_ltI (b := 6) (by omega) (by omega)).mp c_15
      refine lv_aload_n hx hb dX6_waiting_18 rfl (lv_at hl 2 rfl) ?_
      refine lv_iload hx hb dX6_waiting_19 (lv_at hl 4 rfl) ?_
      refine g_cV C hS (fun _ h => h.elim) hM hl (fun _ h => h) (c_canAnswer hfl Γ _ _ _ _ (by assumption)) kX0_canAnswer t_212 (HM.recv C hM clo_0 (by assumption)) dX6_waiting_21 rfl rfl (Nat.le_of_ble_eq_true rfl) (by decide) rfl ⟨by decide, by decide⟩ xNo_goes (fun H locs hc_21 hM hS => ?_)
      refine g_ifeqB (tgt := 40) hx hb dX6_waiting_24 (by decide) (fun c_24 => ?_) (fun c_24 => ?_)
      · skip
        refine lv_iinc (k := 4) (v := nI (n + 1)) (lv' := [(4, _), (0, _), (1, _), (2, _), (3, _)]) hx hb dX6_waiting_40 hl rfl (nI_1 n) (by decide) rfl (fun ls hl => ?_)
        refine lv_goto (tgt := 11) hx hb dX6_waiting_43 (by decide) ?_
        exact ih (n + 1) (by omega) h6 _ _ _ hM hS ((by rw [wtN, c_24]; exact lv_sub hl [1, 2, 3, 4, 0] rfl))
      · skip
        refine lv_iload_n hx hb dX6_waiting_27 rfl (lv_at hl 3 rfl) ?_
        refine lv_aload_n hx hb dX6_waiting_28 rfl (lv_at hl 0 rfl) ?_
        refine g_get C hM clo_6 2 (by decide) (wn6 (by assumption)) t_101 rfl (v := _) (fv4 rfl) dX6_waiting_29 ?_
        refine lv_iload hx hb dX6_waiting_32 (lv_at hl 4 rfl) ?_
        refine g_aldR (k := 19) C hM rfl rfl rfl (wn19 w) n rfl h6 (by decide) dX6_waiting_34 ?_
        refine g_cV C hS (fun _ h => h.elim) hM hl (fun _ h => h) (c_length hfl Γ _ _ n w h6) kX5_length t_1095 (HM.recv C hM clo_5 (wq5 w h6)) dX6_waiting_35 rfl rfl (Nat.le_of_ble_eq_true rfl) (by decide) rfl ⟨by decide, by decide⟩ xNo_goes (fun H locs hc_35 hM hS => ?_)
        refine lv_iadd hx hb dX6_waiting_38 ?_
        refine lv_istore_n (lv' := [(3, _), (0, _), (1, _), (2, _), (4, _)]) hx hb dX6_waiting_39 rfl hl (by decide) rfl (fun ls hl => ?_)
        refine lv_iinc (k := 4) (v := nI (n + 1)) (lv' := [(4, _), (3, _), (0, _), (1, _), (2, _)]) hx hb dX6_waiting_40 hl rfl (nI_1 n) (by decide) rfl (fun ls hl => ?_)
        refine lv_goto (tgt := 11) hx hb dX6_waiting_43 (by decide) ?_
        exact ih (n + 1) (by omega) h6 _ _ _ hM hS ((by rw [wtN, c_24]; exact lv_sub hl [2, 3, 4, 1, 0] rfl))

def takeM (M : Mem) (a t : Nat) : Mem := joinM (lqM M t) t a
def rTake (M : Mem) (x : Int32) : Nat := if inN x (mN M 0) = true then (if mT M 0 2 (ix x) = 0 ∨ ¬ mT M 0 3 (ix x) < 3 then 2 else if nqN M (ix x) 6 = none then 3 else 0) else 1
set_option maxHeartbeats 4000000 in
set_option maxRecDepth 100000 in
theorem c_take {l : Launch} (hfl : l.stackTraces = false) (Γ : Gm) (K : Nat → Nat → Nat) (M : Mem) (x : Int32) (w : Wf M) : CT l Γ (gFree Γ) yX6_take (wsO yX6_take cX6_take 4 (some .int)) 9 [.ref (K 6 0), .int x] K M (DD (rTake M x = 0) (some (.int (mT (takeM M (ix x) ((nqN M (ix x) 6).getD 0)) 4 0 ((nqN M (ix x) 6).getD 0)))) K (takeM M (ix x) ((nqN M (ix x) 6).getD 0))) (XP ["java/lang/IndexOutOfBoundsException", "java/lang/IllegalStateException", "java/util/NoSuchElementException"] (rTake M x)) 2 12 := by
  refine ct_intro hfl (by decide) (Nat.le_of_ble_eq_true rfl) ?_
  intro p e s m args below meth c C ht hr hnm hM ls hl
  have hx := C.1
  have hb := C.2.1
  have hS : va_S (gFree Γ) s.heap s.heap [] := va_S.rf
  have hl : lv_has ls 4 [(0, .ref (K 6 0)), (1, .int x)] := hl
  have hb4 := wn4 w
  have hb0 := wn0 w
  have hb2 := wn2 w
  refine lv_aload_n hx hb dX6_take_0 rfl (lv_at hl 0 rfl) ?_
  refine lv_iload_n hx hb dX6_take_1 rfl (lv_at hl 1 rfl) ?_
  refine g_cV C hS (fun _ h => h) hM hl (fun _ h => h.elim) (c_agentNumbered hfl Γ _ _ _ (by assumption)) kX6_agentNumbered t_1020 (HM.recv C hM clo_6 (wn6 (by assumption))) dX6_take_2 rfl rfl (Nat.le_of_ble_eq_true rfl) (by decide) rfl ⟨by decide, by decide⟩ (g_pass C ht (fun E h => xp_of 0 (by simp [rTake, h.2]) h.1) (by decide) (by decide)) (fun H locs hc_2 hM hS => ?_)
  have hq_2 := (inN_ix hc_2 (by have := wn0 w; omega)).1
  refine lv_astore_n (lv' := [(2, _), (0, _), (1, _)]) hx hb dX6_take_5 rfl hl (by decide) rfl (fun ls hl => ?_)
  refine lv_aload_n hx hb dX6_take_6 rfl (lv_at hl 0 rfl) ?_
  refine g_getN C hM clo_0 2 (by decide) (by assumption) n_1000 rfl (v := .int (mT _ 0 2 _)) rfl dX6_take_7 ?_
  refine lv_if_eq (tgt := 21) hx hb dX6_take_10 (by decide) (fun c_10 => ?_) (fun c_10 => ?_)
  · skip
    exact g_throw C ht (xp_of 1 (by simp [rTake, hc_2, c_10]) rfl) hM hS (fun _ h => h) hl thr_122 (strX_18) dX6_take_21 dX6_take_24 dX6_take_25 dX6_take_27 dX6_take_30 rfl (Nat.le_of_ble_eq_true rfl) ⟨by decide, by decide⟩ (by decide) (by decide)
  · skip
    refine lv_aload_n hx hb dX6_take_13 rfl (lv_at hl 0 rfl) ?_
    refine g_getN C hM clo_0 3 (by decide) (by assumption) n_1002 rfl (v := .int (mT _ 0 3 _)) rfl dX6_take_14 ?_
    refine lv_iconst (v := 3) hx hb dX6_take_17 (by decide) ?_
    refine lv_icmp_lt (tgt := 31) hx hb dX6_take_18 (by decide) (fun c_18 => ?_) (fun c_18 => ?_)
    · skip
      refine lv_aload_n hx hb dX6_take_31 rfl (lv_at hl 1 rfl) ?_
      refine lv_aload_n hx hb dX6_take_32 rfl (lv_at hl 0 rfl) ?_
      refine g_cV C hS (fun _ h => h) hM hl (fun _ h => h.elim) (c_nextFromQueues hfl Γ _ _ _ (by assumption) (by assumption)) kX6_nextFromQueues t_208 (HM.recv C hM clo_6 (wn6 (by assumption))) dX6_take_33 rfl rfl (Nat.le_of_ble_eq_true rfl) (by decide) rfl ⟨by decide, by decide⟩ xNo_goes (fun H locs hc_33 hM hS => ?_)
      generalize hr_33 : nqN M (ix x) 6 = r_33
      refine g_astore_nO (lv' := [(3, _), (2, _), (0, _), (1, _)]) hx hb dX6_take_36 rfl hl (by decide) rfl (fun ls hl => ?_)
      refine g_aload_nO hx hb dX6_take_37 rfl (lv_at hl 0 rfl) ?_
      rcases r_33 with _ | r_33
      · skip
        refine lv_ifnonnullN hx hb dX6_take_38 ?_
        exact g_throwE C ht (xp_of 2 (by simp [rTake, hr_33, hc_2, c_10, c_18]) rfl) hM hS (fun _ h => h) hl (strX_17) dX6_take_41 dX6_take_44 dX6_take_45 dX6_take_47 dX6_take_50 rfl (Nat.le_of_ble_eq_true rfl) ⟨by decide, by decide⟩ (by decide) (by decide)
      · skip
        refine lv_ifnonnull (tgt := 51) hx hb dX6_take_38 (by decide) ?_
        have ht5 : r_33 < mN M 4 := nqN_lt w 6 (Nat.le_refl _) _ hr_33
        refine lv_aload_n hx hb dX6_take_51 rfl (lv_at hl 2 rfl) ?_
        refine lv_aload_n hx hb dX6_take_52 rfl (lv_at hl 0 rfl) ?_
        refine g_cV C hS (fun _ h => h) hM hl (fun _ h => h) (c_leaveQueue hfl Γ _ _ _ (by assumption) (by assumption)) kX6_leaveQueue t_827 (HM.recv C hM clo_6 (wn6 (by assumption))) dX6_take_53 rfl rfl (Nat.le_of_ble_eq_true rfl) (by decide) rfl ⟨by decide, by decide⟩ xNo_goes (fun H locs hc_53 hM hS => ?_)
        have hA : r_33 < mN (lqM M r_33) 4 := by rw [mN_lq]; exact ht5
        have hB : ix x < mN (lqM M r_33) 0 := by rw [mN_lq]; exact hq_2
        refine lv_aload_n hx hb dX6_take_56 rfl (lv_at hl 0 rfl) ?_
        refine lv_aload_n hx hb dX6_take_57 rfl (lv_at hl 1 rfl) ?_
        refine g_cV C hS (fun _ h => h) hM hl (fun _ h => h) (c_joinAgent hfl Γ _ _ _ _ (by assumption) (by assumption)) kX4_joinAgent t_1107 (HM.recv C hM clo_4 (by assumption)) dX6_take_58 rfl rfl (Nat.le_of_ble_eq_true rfl) (by decide) rfl ⟨by decide, by decide⟩ xNo_goes (fun H locs hc_58 hM hS => ?_)
        refine lv_aload_n hx hb dX6_take_61 rfl (lv_at hl 0 rfl) ?_
        refine g_getN C hM clo_4 0 (by decide) (by assumption) n_764 rfl (v := .int (mT _ 4 0 _)) rfl dX6_take_62 ?_
        exact g_iret C hr hM hS dX6_take_65 (by decide) (by decide) ⟨by simp [rTake, hr_33, hc_2, c_10, c_18], rfl, rfl, rfl⟩
    · skip
      exact g_throw C ht (xp_of 1 (by simp [rTake, hc_2, c_10, c_18]) rfl) hM hS (fun _ h => h) hl thr_122 (strX_18) dX6_take_21 dX6_take_24 dX6_take_25 dX6_take_27 dX6_take_30 rfl (Nat.le_of_ble_eq_true rfl) ⟨by decide, by decide⟩ (by decide) (by decide)

def gbkM (M : Mem) (i : Nat) : Mem := jqM (leaveM M i) i
def rGiveBack (M : Mem) (x : Int32) : Nat := if inN x (mN M 4) = true then (if mP M 4 9 (ix x) = none then 2 else 0) else 1
set_option maxHeartbeats 4000000 in
set_option maxRecDepth 100000 in
theorem c_giveBack {l : Launch} (hfl : l.stackTraces = false) (Γ : Gm) (K : Nat → Nat → Nat) (M : Mem) (x : Int32) (w : Wf M) : CT l Γ (gFree Γ) yX6_giveBack (wsO yX6_giveBack cX6_giveBack 4 (some .int)) 10 [.ref (K 6 0), .int x] K M (DD (rGiveBack M x = 0) (some (.int (mT (gbkM M (ix x)) 0 3 ((mP M 4 9 (ix x)).getD 0)))) K (gbkM M (ix x))) (XP ["java/lang/IndexOutOfBoundsException", "java/lang/IllegalStateException"] (rGiveBack M x)) 2 130 := by
  refine ct_intro hfl (by decide) (Nat.le_of_ble_eq_true rfl) ?_
  intro p e s m args below meth c C ht hr hnm hM ls hl
  have hx := C.1
  have hb := C.2.1
  have hS : va_S (gFree Γ) s.heap s.heap [] := va_S.rf
  have hl : lv_has ls 4 [(0, .ref (K 6 0)), (1, .int x)] := hl
  have hb4 := wn4 w
  have hb0 := wn0 w
  have hb2 := wn2 w
  refine lv_aload_n hx hb dX6_giveBack_0 rfl (lv_at hl 0 rfl) ?_
  refine lv_iload_n hx hb dX6_giveBack_1 rfl (lv_at hl 1 rfl) ?_
  refine g_cV C hS (fun _ h => h) hM hl (fun _ h => h.elim) (c_ticketNumbered hfl Γ _ _ _ (by assumption)) kX6_ticketNumbered t_908 (HM.recv C hM clo_6 (wn6 (by assumption))) dX6_giveBack_2 rfl rfl (Nat.le_of_ble_eq_true rfl) (by decide) rfl ⟨by decide, by decide⟩ (g_pass C ht (fun E h => xp_of 0 (by simp [rGiveBack, h.2]) h.1) (by decide) (by decide)) (fun H locs hc_2 hM hS => ?_)
  have hq_2 := (inN_ix hc_2 (by have := wn4 w; omega)).1
  refine lv_astore_n (lv' := [(2, _), (0, _), (1, _)]) hx hb dX6_giveBack_5 rfl hl (by decide) rfl (fun ls hl => ?_)
  refine lv_aload_n hx hb dX6_giveBack_6 rfl (lv_at hl 0 rfl) ?_
  rcases hp_7 : (mP M 4 9 (ix x)) with _ | q_7
  · refine g_getN C hM clo_4 9 (by decide) (by assumption) n_782 rfl (v := .null) (fvN rfl hp_7) dX6_giveBack_7 ?_
    refine lv_astore_nN (lv' := [(3, _), (2, _), (0, _), (1, _)]) hx hb dX6_giveBack_10 rfl hl (by decide) rfl (fun ls hl => ?_)
    refine lv_aload_nN hx hb dX6_giveBack_11 rfl (lv_at hl 0 rfl) ?_
    refine lv_ifnonnullN hx hb dX6_giveBack_12 ?_
    exact g_throw C ht (xp_of 1 (by simp [rGiveBack, hc_2, hp_7]) rfl) hM hS (fun _ h => h) hl thr_122 (strX_16) dX6_giveBack_15 dX6_giveBack_18 dX6_giveBack_19 dX6_giveBack_21 dX6_giveBack_24 rfl (Nat.le_of_ble_eq_true rfl) ⟨by decide, by decide⟩ (by decide) (by decide)
  · refine g_getN C hM clo_4 9 (by decide) (by assumption) n_782 rfl (v := _) (fvR rfl hp_7) dX6_giveBack_7 ?_
    refine lv_astore_n (lv' := [(3, _), (2, _), (0, _), (1, _)]) hx hb dX6_giveBack_10 rfl hl (by decide) rfl (fun ls hl => ?_)
    refine lv_aload_n hx hb dX6_giveBack_11 rfl (lv_at hl 0 rfl) ?_
    refine lv_ifnonnull (tgt := 25) hx hb dX6_giveBack_12 (by decide) ?_
    refine lv_aload_n hx hb dX6_giveBack_25 rfl (lv_at hl 1 rfl) ?_
    refine g_cV C hS (fun _ h => h) hM hl (fun _ h => h) (c_leaveAgent hfl Γ _ _ _ (by assumption) (by assumption)) kX4_leaveAgent t_955 (HM.recv C hM clo_4 (by assumption)) dX6_giveBack_26 rfl rfl (Nat.le_of_ble_eq_true rfl) (by decide) rfl ⟨by decide, by decide⟩ xNo_goes (fun H locs hc_26 hM hS => ?_)
    have wA := wf_leave (i := ix x) w
    have hA : ix x < mN (leaveM M (ix x)) 4 := by rw [mN_leave]; exact hq_2
    refine lv_aload_n hx hb dX6_giveBack_29 rfl (lv_at hl 2 rfl) ?_
    refine lv_aload_n hx hb dX6_giveBack_30 rfl (lv_at hl 1 rfl) ?_
    refine g_cV C hS (fun _ h => h) hM hl (fun _ h => h) (c_joinQueue hfl Γ _ _ _ (by assumption) (by assumption)) kX6_joinQueue t_869 (HM.recv C hM clo_6 (wn6 (by assumption))) dX6_giveBack_31 rfl rfl (Nat.le_of_ble_eq_true rfl) (by decide) rfl ⟨by decide, by decide⟩ xNo_goes (fun H locs hc_31 hM hS => ?_)
    have hB : q_7 < mN (gbkM M (ix x)) 0 := by rw [gbkM, mN_jq, mN_leave]; exact (w.2.2.1 _ hq_2).2.2.2.2.1 _ hp_7
    refine lv_aload_n hx hb dX6_giveBack_34 rfl (lv_at hl 0 rfl) ?_
    refine g_getN C hM clo_0 3 (by decide) hB n_1002 rfl (v := .int (mT _ 0 3 _)) rfl dX6_giveBack_35 ?_
    exact g_iret C hr hM hS dX6_giveBack_38 (by decide) (by decide) ⟨by simp [rGiveBack, hc_2, hp_7], rfl, rfl, rfl⟩

def hovM (M : Mem) (i a : Nat) : Mem := sT (joinM (leaveM M i) i a) 4 10 i (mT (joinM (leaveM M i) i a) 4 10 i + 1)
def rHandOver (M : Mem) (x : Int32) (y : Int32) : Nat := if inN x (mN M 4) = true ∧ inN y (mN M 0) = true then (if mP M 4 9 (ix x) = none ∨ mP M 4 9 (ix x) = some (ix y) ∨ ¬ mT M 0 3 (ix y) < 3 then 2 else if caM M (ix y) (mT M 4 4 (ix x)) = true then 0 else 3) else 1
set_option maxHeartbeats 4000000 in
set_option maxRecDepth 100000 in
theorem c_handOver {l : Launch} (hfl : l.stackTraces = false) (Γ : Gm) (K : Nat → Nat → Nat) (M : Mem) (x : Int32) (y : Int32) (w : Wf M) : CT l Γ (gFree Γ) yX6_handOver (wsO yX6_handOver cX6_handOver 5 (some .int)) 8 [.ref (K 6 0), .int x, .int y] K M (DD (rHandOver M x y = 0) (some (.int (mT (hovM M (ix x) (ix y)) 4 10 (ix x)))) K (hovM M (ix x) (ix y))) (XP ["java/lang/IndexOutOfBoundsException", "java/lang/IllegalStateException", "java/lang/UnsupportedOperationException"] (rHandOver M x y)) 3 20 := by
  refine ct_intro hfl (by decide) (Nat.le_of_ble_eq_true rfl) ?_
  intro p e s m args below meth c C ht hr hnm hM ls hl
  have hx := C.1
  have hb := C.2.1
  have hS : va_S (gFree Γ) s.heap s.heap [] := va_S.rf
  have hl : lv_has ls 5 [(0, .ref (K 6 0)), (1, .int x), (2, .int y)] := hl
  have hb4 := wn4 w
  have hb0 := wn0 w
  have hb2 := wn2 w
  refine lv_aload_n hx hb dX6_handOver_0 rfl (lv_at hl 0 rfl) ?_
  refine lv_iload_n hx hb dX6_handOver_1 rfl (lv_at hl 1 rfl) ?_
  refine g_cV C hS (fun _ h => h) hM hl (fun _ h => h.elim) (c_ticketNumbered hfl Γ _ _ _ (by assumption)) kX6_ticketNumbered t_908 (HM.recv C hM clo_6 (wn6 (by assumption))) dX6_handOver_2 rfl rfl (Nat.le_of_ble_eq_true rfl) (by decide) rfl ⟨by decide, by decide⟩ (g_pass C ht (fun E h => xp_of 0 (by simp [rHandOver, h.2]) h.1) (by decide) (by decide)) (fun H locs hc_2 hM hS => ?_)
  have hq_2 := (inN_ix hc_2 (by have := wn4 w; omega)).1
  refine lv_astore_n (lv' := [(3, _), (0, _), (1, _), (2, _)]) hx hb dX6_handOver_5 rfl hl (by decide) rfl (fun ls hl => ?_)
  refine lv_aload_n hx hb dX6_handOver_6 rfl (lv_at hl 1 rfl) ?_
  refine lv_iload_n hx hb dX6_handOver_7 rfl (lv_at hl 3 rfl) ?_
  refine g_cV C hS (fun _ h => h) hM hl (fun _ h => h.elim) (c_agentNumbered hfl Γ _ _ _ (by assumption)) kX6_agentNumbered t_1020 (HM.recv C hM clo_6 (wn6 (by assumption))) dX6_handOver_8 rfl rfl (Nat.le_of_ble_eq_true rfl) (by decide) rfl ⟨by decide, by decide⟩ (g_pass C ht (fun E h => xp_of 0 (by simp [rHandOver, h.2, hc_2]) h.1) (by decide) (by decide)) (fun H locs hc_8 hM hS => ?_)
  have hq_8 := (inN_ix hc_8 (by have := wn0 w; omega)).1
  refine lv_astore (lv' := [(4, _), (3, _), (0, _), (1, _), (2, _)]) hx hb dX6_handOver_11 hl (by decide) rfl (fun ls hl => ?_)
  refine lv_aload_n hx hb dX6_handOver_13 rfl (lv_at hl 1 rfl) ?_
  rcases hp_14 : (mP M 4 9 (ix x)) with _ | q_14
  · refine g_getN C hM clo_4 9 (by decide) (by assumption) n_782 rfl (v := .null) (fvN rfl hp_14) dX6_handOver_14 ?_
    refine lv_ifnullN (tgt := 38) hx hb dX6_handOver_17 (by decide) ?_
    exact g_throwW C ht (xp_of 1 (by simp [rHandOver, hc_2, hc_8, hp_14]) rfl) hM hS (fun _ h => h) hl thr_122 (strX_19) dX6_handOver_38 dX6_handOver_41 dX6_handOver_42 dX6_handOver_45 dX6_handOver_48 rfl (Nat.le_of_ble_eq_true rfl) ⟨by decide, by decide⟩ (by decide) (by decide)
  · refine g_getN C hM clo_4 9 (by decide) (by assumption) n_782 rfl (v := _) (fvR rfl hp_14) dX6_handOver_14 ?_
    refine lv_ifnull hx hb dX6_handOver_17 ?_
    refine lv_aload_n hx hb dX6_handOver_20 rfl (lv_at hl 1 rfl) ?_
    refine g_getN C hM clo_4 9 (by decide) (by assumption) n_782 rfl (v := _) (fvR rfl hp_14) dX6_handOver_21 ?_
    refine lv_aload hx hb dX6_handOver_24 (lv_at hl 0 rfl) ?_
    have hne : K 0 q_14 = K 0 (ix y) ↔ q_14 = ix y := ⟨fun z => (hM.2.2.1 0 _ 0 _ ((w.2.2.1 _ hq_2).2.2.2.2.1 _ hp_14) hq_8 z).2, fun z => by rw [z]⟩
    refine g_acmp_eqR (tgt := 38) hx hb dX6_handOver_26 (by decide) (fun c_26 => ?_) (fun c_26 => ?_)
    · skip
      have c_26 := hne.mp c_26.symm
      exact g_throwW C ht (xp_of 1 (by simp [rHandOver, hc_2, hc_8, c_26, hp_14]) rfl) hM hS (fun _ h => h) hl thr_122 (strX_19) dX6_handOver_38 dX6_handOver_41 dX6_handOver_42 dX6_handOver_45 dX6_handOver_48 rfl (Nat.le_of_ble_eq_true rfl) ⟨by decide, by decide⟩ (by decide) (by decide)
    · skip
      have c_26 : ¬ q_14 = ix y := fun z => c_26 (hne.mpr z).symm
      refine lv_aload hx hb dX6_handOver_29 (lv_at hl 0 rfl) ?_
      refine g_getN C hM clo_0 3 (by decide) (by assumption) n_1002 rfl (v := .int (mT _ 0 3 _)) rfl dX6_handOver_31 ?_
      refine lv_iconst (v := 3) hx hb dX6_handOver_34 (by decide) ?_
      refine lv_icmp_lt (tgt := 49) hx hb dX6_handOver_35 (by decide) (fun c_35 => ?_) (fun c_35 => ?_)
      · skip
        refine lv_aload hx hb dX6_handOver_49 (lv_at hl 0 rfl) ?_
        refine lv_aload_n hx hb dX6_handOver_51 rfl (lv_at hl 1 rfl) ?_
        refine g_getN C hM clo_4 4 (by decide) (by assumption) n_772 rfl (v := .int (mT _ 4 4 _)) rfl dX6_handOver_52 ?_
        refine g_cV C hS (fun _ h => h) hM hl (fun _ h => h.elim) (c_canAnswer hfl Γ _ _ _ _ (by assumption)) kX0_canAnswer t_212 (HM.recv C hM clo_0 (by assumption)) dX6_handOver_55 rfl rfl (Nat.le_of_ble_eq_true rfl) (by decide) rfl ⟨by decide, by decide⟩ xNo_goes (fun H locs hc_55 hM hS => ?_)
        refine g_ifneB (tgt := 72) hx hb dX6_handOver_58 (by decide) (fun c_58 => ?_) (fun c_58 => ?_)
        · skip
          refine lv_aload_n hx hb dX6_handOver_72 rfl (lv_at hl 1 rfl) ?_
          refine g_cV C hS (fun _ h => h) hM hl (fun _ h => h) (c_leaveAgent hfl Γ _ _ _ (by assumption) (by assumption)) kX4_leaveAgent t_955 (HM.recv C hM clo_4 (by assumption)) dX6_handOver_73 rfl rfl (Nat.le_of_ble_eq_true rfl) (by decide) rfl ⟨by decide, by decide⟩ xNo_goes (fun H locs hc_73 hM hS => ?_)
          have hA : ix x < mN (leaveM M (ix x)) 4 := by rw [mN_leave]; exact hq_2
          have hB : ix y < mN (leaveM M (ix x)) 0 := by rw [mN_leave]; exact hq_8
          refine lv_aload_n hx hb dX6_handOver_76 rfl (lv_at hl 1 rfl) ?_
          refine lv_aload hx hb dX6_handOver_77 (lv_at hl 0 rfl) ?_
          refine g_cV C hS (fun _ h => h) hM hl (fun _ h => h) (c_joinAgent hfl Γ _ _ _ _ (by assumption) (by assumption)) kX4_joinAgent t_1107 (HM.recv C hM clo_4 (by assumption)) dX6_handOver_79 rfl rfl (Nat.le_of_ble_eq_true rfl) (by decide) rfl ⟨by decide, by decide⟩ xNo_goes (fun H locs hc_79 hM hS => ?_)
          refine lv_aload_n hx hb dX6_handOver_82 rfl (lv_at hl 1 rfl) ?_
          refine lv_dup hx hb dX6_handOver_83 rfl ?_
          refine g_getN C hM clo_4 10 (by decide) (by assumption) n_783 rfl (v := .int (mT _ 4 10 _)) rfl dX6_handOver_84 ?_
          refine lv_iconst (v := 1) hx hb dX6_handOver_87 (by decide) ?_
          refine lv_iadd hx hb dX6_handOver_88 ?_
          refine g_putI C hM hS clo_4 10 (by decide) rfl (by assumption) rfl rfl rfl rfl dX6_handOver_89 (Or.inr n_783) (fun H locs hM hS => ?_)
          refine lv_aload_n hx hb dX6_handOver_92 rfl (lv_at hl 1 rfl) ?_
          refine g_getN C hM clo_4 10 (by decide) (by assumption) n_783 rfl (v := .int (mT _ 4 10 _)) rfl dX6_handOver_93 ?_
          exact g_iret C hr hM hS dX6_handOver_96 (by decide) (by decide) ⟨by simp [rHandOver, hc_2, hc_8, c_26, c_35, c_58, hp_14], rfl, rfl, rfl⟩
        · skip
          exact g_throwW C ht (xp_of 2 (by simp [rHandOver, hc_2, hc_8, c_26, c_35, c_58, hp_14]) rfl) hM hS (fun _ h => h) hl thr_214 (strX_20) dX6_handOver_61 dX6_handOver_64 dX6_handOver_65 dX6_handOver_68 dX6_handOver_71 rfl (Nat.le_of_ble_eq_true rfl) ⟨by decide, by decide⟩ (by decide) (by decide)
      · skip
        exact g_throwW C ht (xp_of 1 (by simp [rHandOver, hc_2, hc_8, c_26, c_35, hp_14]) rfl) hM hS (fun _ h => h) hl thr_122 (strX_19) dX6_handOver_38 dX6_handOver_41 dX6_handOver_42 dX6_handOver_45 dX6_handOver_48 rfl (Nat.le_of_ble_eq_true rfl) ⟨by decide, by decide⟩ (by decide) (by decide)

