set_option maxHeartbeats 4000000 in
set_option maxRecDepth 100000 in
theorem m_latest {l : Launch} (hfl : l.stackTraces = false) (Γ : Gm) (K : Nat → Nat → Nat) (M : Mem) (x : Int32) (t : Nat) (D : Mem) (w : Wf D) (r : RC D M) (hx9 : x = nI t) (ht9 : t < mN D 4) : CT l Γ pF yX7_latest (wsO yX7_latest cX7_latest 4 (some .int)) 0 [.ref (K 7 0), .int x] K M (DD True (some (.int (laN D t (mN D 2)))) K M) xNo 0 0 := by
  refine ct_intro hfl (by decide) (Nat.le_of_ble_eq_true rfl) ?_
  intro p e s m args below meth c C ht hr hnm hM ls hl
  have hx := C.1
  have hb := C.2.1
  have hS : va_S pF s.heap s.heap [] := va_S.rf
  have hl : lv_has ls 4 [(0, .ref (K 7 0)), (1, .int x)] := hl
  have hb4 := wn4 w
  have hb0 := wn0 w
  have hb2 := wn2 w
  have hb3 := wn3 w
  subst hx9
  refine lv_iconst (v := -1) hx hb dX7_latest_0 (by decide) ?_
  refine lv_istore_n (lv' := [(2, _), (0, _), (1, _)]) hx hb dX7_latest_1 rfl hl (by decide) rfl (fun ls hl => ?_)
  refine lv_iconst (v := 0) hx hb dX7_latest_2 (by decide) ?_
  refine lv_istore_n (lv' := [(3, _), (2, _), (0, _), (1, _)]) hx hb dX7_latest_3 rfl hl (by decide) rfl (fun ls hl => ?_)
  suffices K4 : ∀ (n9 : Nat) (n : Nat), mN D 2 - n < n9 → (n ≤ mN D 2) → ∀ (H : Heap) (locs : List Loc) (ls : Array Slot), HM Γ K M H → va_S pF s.heap H locs → lv_has ls 4 [(0, .ref (K 7 0)), (1, .int x), (2, .int (laN D t n)), (3, .int (nI n))] → W p l e (rmL 0 0 0) s m args below meth c H locs 0 0 (vx_MQ below (cQ Γ pF (DD True (some (.int (laN D t (mN D 2)))) K M)) (cX Γ pF K M xNo) args s 0 0 pF) (F0 m 4 ls []) by
    exact K4 _ 0 (Nat.lt_succ_self _) (Nat.zero_le _) _ _ _ hM hS (lv_sub hl [2, 3, 1, 0] rfl)
  intro n9
  induction n9 with
  | zero => intro n h9; exact absurd h9 (Nat.not_lt_zero _)
  | succ n9 ih =>
    intro n h9 hn H locs ls hM hS hl
    refine lv_iload_n hx hb dX7_latest_4 rfl (lv_at hl 3 rfl) ?_
    refine lv_aload_n hx hb dX7_latest_5 rfl (lv_at hl 0 rfl) ?_
    refine g_get C hM clo_7 21 (by decide) (r7 r) t_1319 rfl (v := .int (mT _ 7 21 _)) rfl dX7_latest_6 ?_
    refine g_icmp_ge (tgt := 34) hx hb dX7_latest_9 (by decide) (fun c_9 => ?_) (fun c_9 => ?_)
    · skip
      refine lv_iload_n hx hb dX7_latest_34 rfl (lv_at hl 2 rfl) ?_
      exact g_iret C hr hM hS dX7_latest_35 (by decide) (by decide) ⟨trivial, by rw [show n = mN D 2 by rw [rmails r] at c_9; have := (not_congr (nI_ltI (a := n) (b := mN D 2) (by omega) (by omega))).mp c_9; omega], rfl, rfl⟩
    · skip
      have h6 : n < mN D 2 := by rw [rmails r] at c_9; exact (nI_ltI (by omega) (by omega)).mp c_9
      refine lv_aload_n hx hb dX7_latest_12 rfl (lv_at hl 0 rfl) ?_
      refine g_get C hM clo_7 2 (by decide) (r7 r) t_1300 rfl (v := _) (fv4 rfl) dX7_latest_13 ?_
      refine lv_iload_n hx hb dX7_latest_16 rfl (lv_at hl 3 rfl) ?_
      refine g_iald C hM rw_22 (rn r 22 (by decide) (by decide)) n rfl (by omega) (by decide) dX7_latest_17 ?_
      rw [rtkof r h6]
      have htk := tkM_eq w h6
      have hte : nI (tkM D n) = nI t ↔ tkM D n = t := ⟨fun z => nI_inj (by omega) (by omega) z, fun z => by rw [z]⟩
      refine lv_iload_n hx hb dX7_latest_18 rfl (lv_at hl 1 rfl) ?_
      skip
      refine lv_icmp_ne (tgt := 26) hx hb dX7_latest_19 (by decide) (fun c_19 => ?_) (fun c_19 => ?_)
      · skip
        refine lv_iload_n hx hb dX7_latest_26 rfl (lv_at hl 2 rfl) ?_
        refine lv_istore_n (lv' := [(2, _), (0, _), (1, _), (3, _)]) hx hb dX7_latest_27 rfl hl (by decide) rfl (fun ls hl => ?_)
        refine lv_iinc (k := 3) (v := nI (n + 1)) (lv' := [(3, _), (2, _), (0, _), (1, _)]) hx hb dX7_latest_28 hl rfl (nI_1 n) (by decide) rfl (fun ls hl => ?_)
        refine lv_goto (tgt := 4) hx hb dX7_latest_31 (by decide) ?_
        exact ih (n + 1) (by omega) h6 _ _ _ hM hS ((by rw [laN, if_neg (fun z => c_19 (hte.mpr z))]; exact lv_sub hl [2, 3, 1, 0] rfl))
      · skip
        refine lv_iload_n hx hb dX7_latest_22 rfl (lv_at hl 3 rfl) ?_
        refine lv_goto (tgt := 27) hx hb dX7_latest_23 (by decide) ?_
        refine lv_istore_n (lv' := [(2, _), (0, _), (1, _), (3, _)]) hx hb dX7_latest_27 rfl hl (by decide) rfl (fun ls hl => ?_)
        refine lv_iinc (k := 3) (v := nI (n + 1)) (lv' := [(3, _), (2, _), (0, _), (1, _)]) hx hb dX7_latest_28 hl rfl (nI_1 n) (by decide) rfl (fun ls hl => ?_)
        refine lv_goto (tgt := 4) hx hb dX7_latest_31 (by decide) ?_
        exact ih (n + 1) (by omega) h6 _ _ _ hM hS ((by rw [laN, if_pos (hte.mp c_19)]; exact lv_sub hl [2, 3, 1, 0] rfl))

