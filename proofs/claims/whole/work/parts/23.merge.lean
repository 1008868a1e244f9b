theorem wf_lv {M : Mem} {i j : Nat} (w : Wf M) (hi : i < mN M 4) (hj : j < mN M 4) : Wf (leaveM (lqM (lqM M i) j) i) :=
  wf_leave (wf_lq (wf_lq w hi) (by rw [mN_lq]; exact hj))
theorem mN_lv {M : Mem} {i j : Nat} : mN (leaveM (lqM (lqM M i) j) i) = mN M := by rw [mN_leave, mN_lq, mN_lq]
theorem l8_lq {M : Mem} {i t : Nat} : mL (lqM M i) 8 t = mL M 8 t := qrem_ne (fun z => absurd z.1 (by decide))
theorem l8_lv {M : Mem} {i j t : Nat} : mL (leaveM (lqM (lqM M i) j) i) 8 t = mL M 8 t := by rw [mL_leave, l8_lq, l8_lq]
def mrgM (M : Mem) (i j : Nat) : Mem := jqM (tovM (leaveM (lqM (lqM M i) j) i) j i) j
theorem mN_tov {M : Mem} {i t : Nat} : mN (tovM M i t) = mN M := mN_to (M := M) (i := i) (t := t) _
theorem mN_mrg {M : Mem} {i j : Nat} : mN (mrgM M i j) = mN M := by rw [mrgM, mN_jq, mN_tov, mN_lv]
theorem wf_tov {M : Mem} {i t : Nat} (w : Wf M) (hi : i < mN M 4) (ht : t < mN M 4) (hl : (mL M 8 i).length + (mL M 8 t).length ≤ 80) : Wf (tovM M i t) := by
  have w1 := wf_to w hi ht hl _ (Nat.le_refl _)
  have w3 : Wf (tov3 (tov2 (tov1 (toN M i t (mL M 8 t).length) i t) i t) i t) := wf_sT (by decide) (by decide) (wf_sT (by decide) (by decide) (wf_sT (by decide) (by decide) w1))
  have hi3 : i < mN (tov3 (tov2 (tov1 (toN M i t (mL M 8 t).length) i t) i t) i t) 4 := by show i < mN (toN M i t (mL M 8 t).length) 4; rw [mN_to]; exact hi
  refine wf_sP (Or.inr (Or.inr rfl)) (fun b hb => ⟨fun z => by omega, fun z => by omega, fun _ => by cases hb; exact hi3⟩) ?_
  exact wf_st (wf_sT (by decide) (by decide) (wf_sC (wf_mails (fun x hx => nomatch hx) (Nat.zero_le _) w3)))
def rMerge (M : Mem) (x : Int32) (y : Int32) : Nat := if inN x (mN M 4) = true ∧ inN y (mN M 4) = true then (if ix x = ix y then 2 else if ohM M (ix x) = true ∧ ohM M (ix y) = true then (if cuM M (ix x) = cuM M (ix y) then 0 else 4) else 3) else 1
set_option maxHeartbeats 4000000 in
set_option maxRecDepth 100000 in
theorem c_merge {l : Launch} (hfl : l.stackTraces = false) (Γ : Gm) (K : Nat → Nat → Nat) (M : Mem) (x : Int32) (y : Int32) (w : Wf M) (hlen : ∀ i j, i < mN M 4 → j < mN M 4 → i ≠ j → (mL M 8 i).length + (mL M 8 j).length ≤ 80) : CT l Γ (gFree Γ) yX6_merge (wsO yX6_merge cX6_merge 5 (some .int)) 10 [.ref (K 6 0), .int x, .int y] K M (DD (rMerge M x y = 0) (some (.int (nI (mL (mrgM M (ix x) (ix y)) 8 (ix y)).length))) K (mrgM M (ix x) (ix y))) (XP ["java/lang/IndexOutOfBoundsException", "java/lang/IllegalArgumentException", "java/lang/IllegalStateException", "java/lang/UnsupportedOperationException"] (rMerge M x y)) 90 9800 := by
  refine ct_intro hfl (by decide) (Nat.le_of_ble_eq_true rfl) ?_
  intro p e s m args below meth c C ht hr hnm hM ls hl
  have hx := C.1
  have hb := C.2.1
  have hS : va_S (gFree Γ) s.heap s.heap [] := va_S.rf
  have hl : lv_has ls 5 [(0, .ref (K 6 0)), (1, .int x), (2, .int y)] := hl
  have hb4 := wn4 w
  have hb0 := wn0 w
  have hb2 := wn2 w
  refine lv_aload_n hx hb dX6_merge_0 rfl (lv_at hl 0 rfl) ?_
  refine lv_iload_n hx hb dX6_merge_1 rfl (lv_at hl 1 rfl) ?_
  refine g_cV C hS (fun _ h => h) hM hl (fun _ h => h.elim) (c_ticketNumbered hfl Γ _ _ _ (by assumption)) kX6_ticketNumbered t_908 (HM.recv C hM clo_6 (wn6 (by assumption))) dX6_merge_2 rfl rfl (Nat.le_of_ble_eq_true rfl) (by decide) rfl ⟨by decide, by decide⟩ (g_pass C ht (fun E h => xp_of 0 (by simp [rMerge, h.2]) h.1) (by decide) (by decide)) (fun H locs hc_2 hM hS => ?_)
  have hq_2 := (inN_ix hc_2 (by have := wn4 w; omega)).1
  refine lv_astore_n (lv' := [(3, _), (0, _), (1, _), (2, _)]) hx hb dX6_merge_5 rfl hl (by decide) rfl (fun ls hl => ?_)
  refine lv_aload_n hx hb dX6_merge_6 rfl (lv_at hl 1 rfl) ?_
  refine lv_iload_n hx hb dX6_merge_7 rfl (lv_at hl 3 rfl) ?_
  refine g_cV C hS (fun _ h => h) hM hl (fun _ h => h.elim) (c_ticketNumbered hfl Γ _ _ _ (by assumption)) kX6_ticketNumbered t_908 (HM.recv C hM clo_6 (wn6 (by assumption))) dX6_merge_8 rfl rfl (Nat.le_of_ble_eq_true rfl) (by decide) rfl ⟨by decide, by decide⟩ (g_pass C ht (fun E h => xp_of 0 (by simp [rMerge, h.2, hc_2]) h.1) (by decide) (by decide)) (fun H locs hc_8 hM hS => ?_)
  have hq_8 := (inN_ix hc_8 (by have := wn4 w; omega)).1
  refine lv_astore (lv' := [(4, _), (3, _), (0, _), (1, _), (2, _)]) hx hb dX6_merge_11 hl (by decide) rfl (fun ls hl => ?_)
  refine lv_aload_n hx hb dX6_merge_13 rfl (lv_at hl 1 rfl) ?_
  refine lv_aload hx hb dX6_merge_14 (lv_at hl 0 rfl) ?_
  refine g_acmp_neR (tgt := 30) hx hb dX6_merge_16 (by decide) (fun c_16 => ?_) (fun c_16 => ?_)
  · skip
    have c_16 : ¬ ix x = ix y := fun z => c_16 (by rw [z])
    refine lv_aload_n hx hb dX6_merge_30 rfl (lv_at hl 1 rfl) ?_
    refine g_cS C hS (fun _ h => h) hM hl (fun _ h => h.elim) (c_requireOpenOrHeld hfl Γ _ _ _ (by assumption)) kX6_requireOpenOrHeld t_946 dX6_merge_31 rfl rfl (Nat.le_of_ble_eq_true rfl) (by decide) rfl ⟨by decide, by decide⟩ (g_pass C ht (fun E h => xp_of 2 (by simp [rMerge, h.2, hc_2, hc_8, c_16]) h.1) (by decide) (by decide)) (fun H locs hc_31 hM hS => ?_)
    refine lv_aload hx hb dX6_merge_34 (lv_at hl 0 rfl) ?_
    refine g_cS C hS (fun _ h => h) hM hl (fun _ h => h.elim) (c_requireOpenOrHeld hfl Γ _ _ _ (by assumption)) kX6_requireOpenOrHeld t_946 dX6_merge_36 rfl rfl (Nat.le_of_ble_eq_true rfl) (by decide) rfl ⟨by decide, by decide⟩ (g_pass C ht (fun E h => xp_of 2 (by simp [rMerge, h.2, hc_2, hc_8, c_16, hc_31]) h.1) (by decide) (by decide)) (fun H locs hc_36 hM hS => ?_)
    refine lv_aload_n hx hb dX6_merge_39 rfl (lv_at hl 1 rfl) ?_
    refine g_getN C hM clo_4 1 (by decide) (by assumption) n_766 rfl (v := _) (fvR rfl (w.2.2.1 _ hq_2).1) dX6_merge_40 ?_
    refine lv_aload hx hb dX6_merge_43 (lv_at hl 0 rfl) ?_
    refine g_getN C hM clo_4 1 (by decide) (by assumption) n_766 rfl (v := _) (fvR rfl (w.2.2.1 _ hq_8).1) dX6_merge_45 ?_
    refine g_acmp_eqR (tgt := 62) hx hb dX6_merge_48 (by decide) (fun c_48 => ?_) (fun c_48 => ?_)
    · skip
      have hcx := (w.2.2.1 _ hq_2).2.1
      have hcy := (w.2.2.1 _ hq_8).2.1
      have c_48 : cuM M (ix x) = cuM M (ix y) := (hM.2.2.1 1 _ 1 _ (by rw [wn1 w]; exact hcx) (by rw [wn1 w]; exact hcy) c_48.symm).2
      refine lv_aload_n hx hb dX6_merge_62 rfl (lv_at hl 2 rfl) ?_
      refine lv_aload_n hx hb dX6_merge_63 rfl (lv_at hl 1 rfl) ?_
      refine g_cV C hS (fun _ h => h) hM hl (fun _ h => h) (c_leaveQueue hfl Γ _ _ _ (by assumption) (by assumption)) kX6_leaveQueue t_827 (HM.recv C hM clo_6 (wn6 (by assumption))) dX6_merge_64 rfl rfl (Nat.le_of_ble_eq_true rfl) (by decide) rfl ⟨by decide, by decide⟩ xNo_goes (fun H locs hc_64 hM hS => ?_)
      have wA := wf_lq w hq_2
      have hA : ix y < mN (lqM M (ix x)) 4 := by rw [mN_lq]; exact hq_8
      refine lv_aload_n hx hb dX6_merge_67 rfl (lv_at hl 2 rfl) ?_
      refine lv_aload hx hb dX6_merge_68 (lv_at hl 0 rfl) ?_
      refine g_cV C hS (fun _ h => h) hM hl (fun _ h => h) (c_leaveQueue hfl Γ _ _ _ (by assumption) (by assumption)) kX6_leaveQueue t_827 (HM.recv C hM clo_6 (wn6 (by assumption))) dX6_merge_70 rfl rfl (Nat.le_of_ble_eq_true rfl) (by decide) rfl ⟨by decide, by decide⟩ xNo_goes (fun H locs hc_70 hM hS => ?_)
      have wB := wf_lq wA hA
      have hB : ix x < mN (lqM (lqM M (ix x)) (ix y)) 4 := by rw [mN_lq, mN_lq]; exact hq_2
      refine lv_aload_n hx hb dX6_merge_73 rfl (lv_at hl 1 rfl) ?_
      refine g_cV C hS (fun _ h => h) hM hl (fun _ h => h) (c_leaveAgent hfl Γ _ _ _ (by assumption) (by assumption)) kX4_leaveAgent t_955 (HM.recv C hM clo_4 (by assumption)) dX6_merge_74 rfl rfl (Nat.le_of_ble_eq_true rfl) (by decide) rfl ⟨by decide, by decide⟩ xNo_goes (fun H locs hc_74 hM hS => ?_)
      have wC := wf_leave (i := ix x) wB
      have hC : ix x < mN (leaveM (lqM (lqM M (ix x)) (ix y)) (ix x)) 4 := by rw [mN_lv]; exact hq_2
      have hD : ix y < mN (leaveM (lqM (lqM M (ix x)) (ix y)) (ix x)) 4 := by rw [mN_lv]; exact hq_8
      have hll : (mL (leaveM (lqM (lqM M (ix x)) (ix y)) (ix x)) 8 (ix y)).length + (mL (leaveM (lqM (lqM M (ix x)) (ix y)) (ix x)) 8 (ix x)).length ≤ 80 := by rw [l8_lv, l8_lv]; exact hlen _ _ hq_8 hq_2 (fun z => c_16 z.symm)
      refine lv_aload hx hb dX6_merge_77 (lv_at hl 0 rfl) ?_
      refine lv_aload_n hx hb dX6_merge_79 rfl (lv_at hl 1 rfl) ?_
      refine g_cV C hS (fun _ h => h) hM hl (fun _ h => h) (c_takeOver hfl Γ _ _ (ix y) (ix x) wC hD hC c_16 hll) kX4_takeOver t_1187 (HM.recv C hM clo_4 hD) dX6_merge_80 rfl rfl (Nat.le_of_ble_eq_true rfl) (by decide) rfl ⟨by decide, by decide⟩ xNo_goes (fun H locs hc_80 hM hS => ?_)
      have wE := wf_tov wC hD hC hll
      have hE : ix y < mN (tovM (leaveM (lqM (lqM M (ix x)) (ix y)) (ix x)) (ix y) (ix x)) 4 := by rw [mN_tov]; exact hD
      refine lv_aload_n hx hb dX6_merge_83 rfl (lv_at hl 2 rfl) ?_
      refine lv_aload hx hb dX6_merge_84 (lv_at hl 0 rfl) ?_
      refine g_cV C hS (fun _ h => h) hM hl (fun _ h => h) (c_joinQueue hfl Γ _ _ _ (by assumption) (by assumption)) kX6_joinQueue t_869 (HM.recv C hM clo_6 (wn6 (by assumption))) dX6_merge_86 rfl rfl (Nat.le_of_ble_eq_true rfl) (by decide) rfl ⟨by decide, by decide⟩ xNo_goes (fun H locs hc_86 hM hS => ?_)
      have hF : ix y < mN (mrgM M (ix x) (ix y)) 4 := by rw [mN_mrg]; exact hq_8
      have hF8 : ix y < mN (mrgM M (ix x) (ix y)) 8 := by rw [mN_mrg]; exact wn8 w hq_8
      refine lv_aload hx hb dX6_merge_89 (lv_at hl 0 rfl) ?_
      refine g_getN C hM clo_4 3 (by decide) hF n_770 rfl (v := _) (fv3 rfl) dX6_merge_91 ?_
      refine g_cV C hS (fun _ h => h) hM hl (fun _ h => h.elim) (c_lsize hfl Γ _ _ 8 _ rfl hF8) kJx4a65c_size_8abf5 t_153 (HM.recvL C hM rfl hF8) dX6_merge_94 rfl rfl (Nat.le_of_ble_eq_true rfl) (by decide) rfl ⟨by decide, by decide⟩ xNo_goes (fun H locs hc_94 hM hS => ?_)
      exact g_iret C hr hM hS dX6_merge_97 (by decide) (by decide) ⟨by simp [rMerge, hc_2, hc_8, c_16, hc_31, hc_36, c_48], rfl, rfl, rfl⟩
    · skip
      have c_48 : ¬ cuM M (ix x) = cuM M (ix y) := fun z => c_48 (by rw [z])
      exact g_throwW C ht (xp_of 3 (by simp [rMerge, hc_2, hc_8, c_16, hc_31, hc_36, c_48]) rfl) hM hS (fun _ h => h) hl thr_214 (strX_27) dX6_merge_51 dX6_merge_54 dX6_merge_55 dX6_merge_58 dX6_merge_61 rfl (Nat.le_of_ble_eq_true rfl) ⟨by decide, by decide⟩ (by decide) (by decide)
  · skip
    have c_16 : ix x = ix y := (hM.2.2.1 4 _ 4 _ hq_2 hq_8 c_16.symm).2
    exact g_throwW C ht (xp_of 1 (by simp [rMerge, hc_2, hc_8, c_16]) rfl) hM hS (fun _ h => h) hl thr_59 (strX_26) dX6_merge_19 dX6_merge_22 dX6_merge_23 dX6_merge_26 dX6_merge_29 rfl (Nat.le_of_ble_eq_true rfl) ⟨by decide, by decide⟩ (by decide) (by decide)

def alk (M : Mem) (c : Nat) (y : Int32) (n : Nat) : Bool := decide (cuM M n = c) && decide (mT M 4 2 n = y) && cbM M n (mT M 6 9 0)
def lwN (M : Mem) (c : Nat) (y : Int32) : Nat → Option Nat
  | 0 => none
  | n + 1 => if alk M c y n = true then (match lwN M c y n with
    | none => some n
    | some b => if lmM M b < lmM M n then some n else some b) else lwN M c y n
theorem lwN_lt {M : Mem} {c : Nat} {y : Int32} : ∀ n, ∀ t, lwN M c y n = some t → t < n
  | 0, t, h => nomatch h
  | n + 1, t, h => by
    unfold lwN at h
    split at h
    · split at h
      · cases h; omega
      · rename_i b hb
        split at h
        · cases h; omega
        · cases h; have := lwN_lt n _ hb; omega
    · have := lwN_lt n t h; omega
set_option maxHeartbeats 4000000 in
set_option maxRecDepth 100000 in
theorem c_latestWithSubject {l : Launch} (hfl : l.stackTraces = false) (Γ : Gm) (K : Nat → Nat → Nat) (M : Mem) (c1 : Nat) (y : Int32) (w : Wf M) (hc1 : c1 < mN M 1) : CT l Γ pF yX6_latestWithSubject (wsO yX6_latestWithSubject cX6_latestWithSubject 7 (some (.object "TicketWeaver$Ticket"))) 5 [.ref (K 6 0), .ref (K 1 c1), .int y] K M (DD True (some (va_rf ((lwN M c1 y (mN M 4)).map (K 4)))) K M) xNo 0 0 := by
  refine ct_intro hfl (by decide) (Nat.le_of_ble_eq_true rfl) ?_
  intro p e s m args below meth c C ht hr hnm hM ls hl
  have hx := C.1
  have hb := C.2.1
  have hS : va_S pF s.heap s.heap [] := va_S.rf
  have hl : lv_has ls 7 [(0, .ref (K 6 0)), (1, .ref (K 1 c1)), (2, .int y)] := hl
  have hb4 := wn4 w
  refine lv_null hx hb dX6_latestWithSubject_0 ?_
  refine lv_astore_nN (lv' := [(3, _), (0, _), (1, _), (2, _)]) hx hb dX6_latestWithSubject_1 rfl hl (by decide) rfl (fun ls hl => ?_)
  refine lv_iconst (v := 0) hx hb dX6_latestWithSubject_2 (by decide) ?_
  refine lv_istore (lv' := [(4, _), (3, _), (0, _), (1, _), (2, _)]) hx hb dX6_latestWithSubject_3 hl (by decide) rfl (fun ls hl => ?_)
  suffices K5 : ∀ (n9 : Nat) (n : Nat), mN M 4 - n < n9 → (n ≤ mN M 4) → ∀ (H : Heap) (locs : List Loc) (ls : Array Slot), HM Γ K M H → va_S pF s.heap H locs → lv_has ls 7 [(0, .ref (K 6 0)), (1, .ref (K 1 c1)), (2, .int y), (3, va_rf ((lwN M c1 y n).map (K 4))), (4, .int (nI n))] → W p l e (rmL 5 0 0) s m args below meth c H locs 0 0 (vx_MQ below (cQ Γ pF (DD True (some (va_rf ((lwN M c1 y (mN M 4)).map (K 4)))) K M)) (cX Γ pF K M xNo) args s 0 0 pF) (F0 m 5 ls []) by
    exact K5 _ 0 (Nat.lt_succ_self _) (Nat.zero_le _) _ _ _ hM hS (lv_sub hl [2, 3, 4, 1, 0] rfl)
  intro n9
  induction n9 with
  | zero => intro n h9; exact absurd h9 (Nat.not_lt_zero _)
  | succ n9 ih =>
    intro n h9 hn H locs ls hM hS hl
    generalize ho : lwN M c1 y n = o at hl
    refine lv_iload hx hb dX6_latestWithSubject_5 (lv_at hl 4 rfl) ?_
    refine lv_aload_n hx hb dX6_latestWithSubject_7 rfl (lv_at hl 0 rfl) ?_
    refine g_get C hM clo_6 4 (by decide) (wn6 w) t_103 rfl (v := _) (fv4 rfl) dX6_latestWithSubject_8 ?_
    refine g_cV C hS (fun _ h => h.elim) hM hl (fun _ h => h) (c_size11 hfl Γ _ _ (by assumption)) kJx4a65c_size_8abf5 t_153 (HM.recvL C hM rfl (wn11 (by assumption))) dX6_latestWithSubject_11 rfl rfl (Nat.le_of_ble_eq_true rfl) (by decide) rfl ⟨by decide, by decide⟩ xNo_goes (fun H locs hc_11 hM hS => ?_)
    refine g_icmp_ge (tgt := 98) hx hb dX6_latestWithSubject_14 (by decide) (fun c_14 => ?_) (fun c_14 => ?_)
    · skip
      refine g_aload_nO hx hb dX6_latestWithSubject_98 rfl (lv_at hl 3 rfl) ?_
      exact g_aretO C hr hM hS (Or.inl ⟨_, rfl⟩) dX6_latestWithSubject_99 (by decide) (by decide) ⟨trivial, by rw [← ho, show n = mN M 4 by have := (not_congr (nI_ltI (a := n) (b := mN M 4) (by omega) (by omega))).mp c_14; omega], rfl, rfl⟩
    · skip
      have h6 : n < mN M 4 := (nI_ltI (by omega) (by omega)).mp c_14
      have hx6 : inN (nI n) (mN M 4) = true := inN_nI h6 (by omega)
      have hx7 := ix_nI (q := n) (by omega)
      have h1 := w.2.2.1 n h6
      refine lv_aload_n hx hb dX6_latestWithSubject_17 rfl (lv_at hl 0 rfl) ?_
      refine g_get C hM clo_6 4 (by decide) (wn6 w) t_103 rfl (v := _) (fv4 rfl) dX6_latestWithSubject_18 ?_
      refine lv_iload hx hb dX6_latestWithSubject_21 (lv_at hl 4 rfl) ?_
      refine g_cV C hS (fun _ h => h.elim) hM hl (fun _ h => h) (c_get11 hfl Γ _ _ _ (by assumption) (by assumption)) kJx4a65c_get_915e3 t_181 (HM.recvL C hM rfl (wn11 (by assumption))) dX6_latestWithSubject_23 rfl rfl (Nat.le_of_ble_eq_true rfl) (by decide) rfl ⟨by decide, by decide⟩ xNo_goes (fun H locs hc_23 hM hS => ?_)
      rw [hx7]
      refine g_chk C hM clo_4 (by first | assumption | omega) t_195 dX6_latestWithSubject_26 ?_
      refine lv_astore (lv' := [(5, _), (0, _), (1, _), (2, _), (3, _), (4, _)]) hx hb dX6_latestWithSubject_29 hl (by decide) rfl (fun ls hl => ?_)
      refine lv_aload hx hb dX6_latestWithSubject_31 (lv_at hl 0 rfl) ?_
      refine g_getN C hM clo_4 1 (by decide) h6 n_766 rfl (v := _) (fvR rfl h1.1) dX6_latestWithSubject_33 ?_
      refine lv_aload_n hx hb dX6_latestWithSubject_36 rfl (lv_at hl 2 rfl) ?_
      refine g_acmp_neR (tgt := 65) hx hb dX6_latestWithSubject_37 (by decide) (fun c_37 => ?_) (fun c_37 => ?_)
      · skip
        have hal : alk M c1 y n = false := by unfold alk; rw [decide_eq_false (show ¬ cuM M n = c1 from fun z => c_37 (by rw [z]))]; rfl
        refine lv_iconst (v := 0) hx hb dX6_latestWithSubject_65 (by decide) ?_
        refine lv_istore (lv' := [(6, _), (5, _), (0, _), (1, _), (2, _), (3, _), (4, _)]) hx hb dX6_latestWithSubject_66 hl (by decide) rfl (fun ls hl => ?_)
        refine lv_iload hx hb dX6_latestWithSubject_68 (lv_at hl 0 rfl) ?_
        refine lv_if_eq (tgt := 92) hx hb dX6_latestWithSubject_70 (by decide) (fun c_70 => ?_) (fun c_70 => ?_)
        · skip
          refine g_iincO (k := 6) (v := nI (n + 1)) (lv' := [(4, _), (6, _), (5, _), (0, _), (1, _), (2, _), (3, _)]) hx hb dX6_latestWithSubject_92 hl (by simp [va_cat]) rfl (nI_1 n) (by decide) rfl (fun ls hl => ?_)
          refine lv_goto (tgt := 5) hx hb dX6_latestWithSubject_95 (by decide) ?_
          exact ih (n + 1) (by omega) h6 _ _ _ hM hS ((by rw [lwN, hal, ho]; exact lv_sub hl [3, 4, 5, 6, 0] rfl))
        · skip
          exact absurd rfl c_70
      · skip
        refine lv_aload hx hb dX6_latestWithSubject_40 (lv_at hl 0 rfl) ?_
        refine g_getN C hM clo_4 2 (by decide) h6 n_768 rfl (v := .int (mT _ 4 2 _)) rfl dX6_latestWithSubject_42 ?_
        refine lv_iload_n hx hb dX6_latestWithSubject_45 rfl (lv_at hl 3 rfl) ?_
        refine lv_icmp_ne (tgt := 65) hx hb dX6_latestWithSubject_46 (by decide) (fun c_46 => ?_) (fun c_46 => ?_)
        · skip
          have hal : alk M c1 y n = false := by unfold alk; rw [decide_eq_false c_46, Bool.and_false]; rfl
          refine lv_iconst (v := 0) hx hb dX6_latestWithSubject_65 (by decide) ?_
          refine lv_istore (lv' := [(6, _), (5, _), (0, _), (1, _), (2, _), (3, _), (4, _)]) hx hb dX6_latestWithSubject_66 hl (by decide) rfl (fun ls hl => ?_)
          refine lv_iload hx hb dX6_latestWithSubject_68 (lv_at hl 0 rfl) ?_
          refine lv_if_eq (tgt := 92) hx hb dX6_latestWithSubject_70 (by decide) (fun c_70 => ?_) (fun c_70 => ?_)
          · skip
            refine g_iincO (k := 6) (v := nI (n + 1)) (lv' := [(4, _), (6, _), (5, _), (0, _), (1, _), (2, _), (3, _)]) hx hb dX6_latestWithSubject_92 hl (by simp [va_cat]) rfl (nI_1 n) (by decide) rfl (fun ls hl => ?_)
            refine lv_goto (tgt := 5) hx hb dX6_latestWithSubject_95 (by decide) ?_
            exact ih (n + 1) (by omega) h6 _ _ _ hM hS ((by rw [lwN, hal, ho]; exact lv_sub hl [3, 4, 5, 6, 0] rfl))
          · skip
            exact absurd rfl c_70
        · skip
          refine lv_aload hx hb dX6_latestWithSubject_49 (lv_at hl 0 rfl) ?_
          refine lv_aload_n hx hb dX6_latestWithSubject_51 rfl (lv_at hl 1 rfl) ?_
          refine g_get C hM clo_6 9 (by decide) (wn6 w) t_108 rfl (v := .int (mT _ 6 9 _)) rfl dX6_latestWithSubject_52 ?_
          refine g_cV C hS (fun _ h => h.elim) hM hl (fun _ h => h) (c_canBeJoined hfl Γ _ _ _ _ (by assumption)) kX4_canBeJoined t_727 (HM.recv C hM clo_4 (by assumption)) dX6_latestWithSubject_55 rfl rfl (Nat.le_of_ble_eq_true rfl) (by decide) rfl ⟨by decide, by decide⟩ xNo_goes (fun H locs hc_55 hM hS => ?_)
          refine g_ifeqB (tgt := 65) hx hb dX6_latestWithSubject_58 (by decide) (fun c_58 => ?_) (fun c_58 => ?_)
          · skip
            have hal : alk M c1 y n = false := by unfold alk; rw [c_58, Bool.and_false]
            refine lv_iconst (v := 0) hx hb dX6_latestWithSubject_65 (by decide) ?_
            refine lv_istore (lv' := [(6, _), (5, _), (0, _), (1, _), (2, _), (3, _), (4, _)]) hx hb dX6_latestWithSubject_66 hl (by decide) rfl (fun ls hl => ?_)
            refine lv_iload hx hb dX6_latestWithSubject_68 (lv_at hl 0 rfl) ?_
            refine lv_if_eq (tgt := 92) hx hb dX6_latestWithSubject_70 (by decide) (fun c_70 => ?_) (fun c_70 => ?_)
            · skip
              refine g_iincO (k := 6) (v := nI (n + 1)) (lv' := [(4, _), (6, _), (5, _), (0, _), (1, _), (2, _), (3, _)]) hx hb dX6_latestWithSubject_92 hl (by simp [va_cat]) rfl (nI_1 n) (by decide) rfl (fun ls hl => ?_)
              refine lv_goto (tgt := 5) hx hb dX6_latestWithSubject_95 (by decide) ?_
              exact ih (n + 1) (by omega) h6 _ _ _ hM hS ((by rw [lwN, hal, ho]; exact lv_sub hl [3, 4, 5, 6, 0] rfl))
            · skip
              exact absurd rfl c_70
          · skip
            have hal : alk M c1 y n = true := by unfold alk; rw [decide_eq_true (show cuM M n = c1 from (hM.2.2.1 1 _ 1 _ (by rw [wn1 w]; exact h1.2.1) hc1 c_37.symm).2), decide_eq_true c_46, c_58]; rfl
            refine lv_iconst (v := 1) hx hb dX6_latestWithSubject_61 (by decide) ?_
            refine lv_goto (tgt := 66) hx hb dX6_latestWithSubject_62 (by decide) ?_
            refine lv_istore (lv' := [(6, _), (5, _), (0, _), (1, _), (2, _), (3, _), (4, _)]) hx hb dX6_latestWithSubject_66 hl (by decide) rfl (fun ls hl => ?_)
            refine lv_iload hx hb dX6_latestWithSubject_68 (lv_at hl 0 rfl) ?_
            refine lv_if_eq (tgt := 92) hx hb dX6_latestWithSubject_70 (by decide) (fun c_70 => ?_) (fun c_70 => ?_)
            · skip
              exact absurd c_70 (by decide)
            · skip
              refine g_aload_nO hx hb dX6_latestWithSubject_73 rfl (lv_at hl 5 rfl) ?_
              rcases o with _ | o
              · skip
                refine lv_ifnullN (tgt := 89) hx hb dX6_latestWithSubject_74 (by decide) ?_
                refine lv_aload hx hb dX6_latestWithSubject_89 (lv_at hl 1 rfl) ?_
                refine lv_astore_n (lv' := [(3, _), (6, _), (5, _), (0, _), (1, _), (2, _), (4, _)]) hx hb dX6_latestWithSubject_91 rfl hl (by decide) rfl (fun ls hl => ?_)
                refine lv_iinc (k := 6) (v := nI (n + 1)) (lv' := [(4, _), (3, _), (6, _), (5, _), (0, _), (1, _), (2, _)]) hx hb dX6_latestWithSubject_92 hl rfl (nI_1 n) (by decide) rfl (fun ls hl => ?_)
                refine lv_goto (tgt := 5) hx hb dX6_latestWithSubject_95 (by decide) ?_
                exact ih (n + 1) (by omega) h6 _ _ _ hM hS ((by rw [lwN, hal, ho]; exact lv_sub hl [4, 5, 6, 1, 0] rfl))
              · skip
                refine lv_ifnull hx hb dX6_latestWithSubject_74 ?_
                refine lv_aload hx hb dX6_latestWithSubject_77 (lv_at hl 1 rfl) ?_
                refine g_cV C hS (fun _ h => h.elim) hM hl (fun _ h => h) (c_lastMail hfl Γ _ _ _ (by assumption) (by assumption)) kX4_lastMail t_735 (HM.recv C hM clo_4 (by assumption)) dX6_latestWithSubject_79 rfl rfl (Nat.le_of_ble_eq_true rfl) (by decide) rfl ⟨by decide, by decide⟩ xNo_goes (fun H locs hc_79 hM hS => ?_)
                refine lv_aload_n hx hb dX6_latestWithSubject_82 rfl (lv_at hl 5 rfl) ?_
                have hob := lwN_lt n _ ho
                have hob4 : o < mN M 4 := by omega
                refine g_cV C hS (fun _ h => h.elim) hM hl (fun _ h => h) (c_lastMail hfl Γ _ _ _ (by assumption) (by assumption)) kX4_lastMail t_735 (HM.recv C hM clo_4 (by assumption)) dX6_latestWithSubject_83 rfl rfl (Nat.le_of_ble_eq_true rfl) (by decide) rfl ⟨by decide, by decide⟩ xNo_goes (fun H locs hc_83 hM hS => ?_)
                refine g_icmp_le (tgt := 92) hx hb dX6_latestWithSubject_86 (by decide) (fun c_86 => ?_) (fun c_86 => ?_)
                · skip
                  refine lv_iinc (k := 6) (v := nI (n + 1)) (lv' := [(4, _), (6, _), (5, _), (0, _), (1, _), (2, _), (3, _)]) hx hb dX6_latestWithSubject_92 hl rfl (nI_1 n) (by decide) rfl (fun ls hl => ?_)
                  refine lv_goto (tgt := 5) hx hb dX6_latestWithSubject_95 (by decide) ?_
                  exact ih (n + 1) (by omega) h6 _ _ _ hM hS ((by simp only [lwN, hal, ho, c_86, if_true, if_false]; exact lv_sub hl [3, 4, 5, 6, 0] rfl))
                · skip
                  refine lv_aload hx hb dX6_latestWithSubject_89 (lv_at hl 1 rfl) ?_
                  refine lv_astore_n (lv' := [(3, _), (6, _), (5, _), (0, _), (1, _), (2, _), (4, _)]) hx hb dX6_latestWithSubject_91 rfl hl (by decide) rfl (fun ls hl => ?_)
                  refine lv_iinc (k := 6) (v := nI (n + 1)) (lv' := [(4, _), (3, _), (6, _), (5, _), (0, _), (1, _), (2, _)]) hx hb dX6_latestWithSubject_92 hl rfl (nI_1 n) (by decide) rfl (fun ls hl => ?_)
                  refine lv_goto (tgt := 5) hx hb dX6_latestWithSubject_95 (by decide) ?_
                  exact ih (n + 1) (by omega) h6 _ _ _ hM hS ((by simp only [lwN, hal, ho, c_86, if_true, if_false]; exact lv_sub hl [4, 5, 6, 1, 0] rfl))

def jnM (M : Mem) (c : Nat) (y z : Int32) : Option Nat := if inN z (mN M 2) = true ∧ cuM M (tkM M (ix z)) = c ∧ cbM M (tkM M (ix z)) (mT M 6 9 0) = true then some (tkM M (ix z)) else lwN M c y (mN M 4)
theorem jnM_lt {M : Mem} {c : Nat} {y z : Int32} (w : Wf M) : ∀ t, jnM M c y z = some t → t < mN M 4 := by
  intro t h
  unfold jnM at h
  split at h
  · rename_i h0
    cases h
    exact (tkM_eq w (inN_ix h0.1 (by have := wn2 w; omega)).1).2
  · exact lwN_lt _ t h
set_option maxHeartbeats 4000000 in
set_option maxRecDepth 100000 in
theorem c_ticketToJoin {l : Launch} (hfl : l.stackTraces = false) (Γ : Gm) (K : Nat → Nat → Nat) (M : Mem) (c1 : Nat) (y z : Int32) (w : Wf M) (hc1 : c1 < mN M 1) : CT l Γ pF yX6_ticketToJoin (wsO yX6_ticketToJoin cX6_ticketToJoin 5 (some (.object "TicketWeaver$Ticket"))) 6 [.ref (K 6 0), .ref (K 1 c1), .int y, .int z] K M (DD True (some (va_rf ((jnM M c1 y z).map (K 4)))) K M) xNo 0 0 := by
  refine ct_intro hfl (by decide) (Nat.le_of_ble_eq_true rfl) ?_
  intro p e s m args below meth c C ht hr hnm hM ls hl
  have hx := C.1
  have hb := C.2.1
  have hS : va_S pF s.heap s.heap [] := va_S.rf
  have hl : lv_has ls 5 [(0, .ref (K 6 0)), (1, .ref (K 1 c1)), (2, .int y), (3, .int z)] := hl
  have hb2 := wn2 w
  refine lv_iload_n hx hb dX6_ticketToJoin_0 rfl (lv_at hl 3 rfl) ?_
  refine lv_iconst (v := 0) hx hb dX6_ticketToJoin_1 (by decide) ?_
  refine lv_aload_n hx hb dX6_ticketToJoin_2 rfl (lv_at hl 0 rfl) ?_
  refine g_get C hM clo_6 3 (by decide) (wn6 w) t_102 rfl (v := _) (fv4 rfl) dX6_ticketToJoin_3 ?_
  refine g_cV C hS (fun _ h => h.elim) hM hl (fun _ h => h) (c_size10 hfl Γ _ _ (by assumption)) kJx4a65c_size_8abf5 t_153 (HM.recvL C hM rfl (wn10 (by assumption))) dX6_ticketToJoin_6 rfl rfl (Nat.le_of_ble_eq_true rfl) (by decide) rfl ⟨by decide, by decide⟩ xNo_goes (fun H locs hc_6 hM hS => ?_)
  refine lv_iconst (v := 1) hx hb dX6_ticketToJoin_9 (by decide) ?_
  refine lv_isub hx hb dX6_ticketToJoin_10 ?_
  refine g_cS C hS (fun _ h => h.elim) hM hl (fun _ h => h) (c_isWithin hfl Γ _ _ _ _ _) kX6_isWithin t_257 dX6_ticketToJoin_11 rfl rfl (Nat.le_of_ble_eq_true rfl) (by decide) rfl ⟨by decide, by decide⟩ xNo_goes (fun H locs hc_11 hM hS => ?_)
  refine g_ifeqB (tgt := 57) hx hb dX6_ticketToJoin_14 (by decide) (fun c_14 => ?_) (fun c_14 => ?_)
  · skip
    replace c_14 : inN z (mN M 2) = false := c_14
    refine lv_aload_n hx hb dX6_ticketToJoin_57 rfl (lv_at hl 0 rfl) ?_
    refine lv_aload_n hx hb dX6_ticketToJoin_58 rfl (lv_at hl 1 rfl) ?_
    refine lv_iload_n hx hb dX6_ticketToJoin_59 rfl (lv_at hl 2 rfl) ?_
    refine g_cV C hS (fun _ h => h.elim) hM hl (fun _ h => h) (c_latestWithSubject hfl Γ _ _ _ _ (by assumption) (by assumption)) kX6_latestWithSubject t_731 (HM.recv C hM clo_6 (wn6 (by assumption))) dX6_ticketToJoin_60 rfl rfl (Nat.le_of_ble_eq_true rfl) (by decide) rfl ⟨by decide, by decide⟩ xNo_goes (fun H locs hc_60 hM hS => ?_)
    exact g_aretO C hr hM hS (Or.inl ⟨_, rfl⟩) dX6_ticketToJoin_63 (by decide) (by decide) ⟨trivial, by rw [jnM, if_neg (fun q => by rw [c_14] at q; cases q.1)], rfl, rfl⟩
  · skip
    refine lv_aload_n hx hb dX6_ticketToJoin_17 rfl (lv_at hl 0 rfl) ?_
    have hx2 := (inN_ix (n := mN M 2) c_14 (by omega)).1
    have htk := tkM_eq w hx2
    have htk2 := htk.2
    replace c_14 : inN z (mN M 2) = true := c_14
    refine g_get C hM clo_6 3 (by decide) (wn6 w) t_102 rfl (v := _) (fv4 rfl) dX6_ticketToJoin_18 ?_
    refine lv_iload_n hx hb dX6_ticketToJoin_21 rfl (lv_at hl 3 rfl) ?_
    refine g_cV C hS (fun _ h => h.elim) hM hl (fun _ h => h) (c_get10 hfl Γ _ _ _ (by assumption) (by assumption)) kJx4a65c_get_915e3 t_181 (HM.recvL C hM rfl (wn10 (by assumption))) dX6_ticketToJoin_22 rfl rfl (Nat.le_of_ble_eq_true rfl) (by decide) rfl ⟨by decide, by decide⟩ xNo_goes (fun H locs hc_22 hM hS => ?_)
    refine g_chk C hM clo_2 (by first | assumption | omega) t_726 dX6_ticketToJoin_25 ?_
    refine g_getN C hM clo_2 1 (by decide) hx2 n_848 rfl (v := _) (fvR rfl htk.1) dX6_ticketToJoin_28 ?_
    refine lv_astore (lv' := [(4, _), (0, _), (1, _), (2, _), (3, _)]) hx hb dX6_ticketToJoin_31 hl (by decide) rfl (fun ls hl => ?_)
    refine lv_aload hx hb dX6_ticketToJoin_33 (lv_at hl 0 rfl) ?_
    refine g_getN C hM clo_4 1 (by decide) htk.2 n_766 rfl (v := _) (fvR rfl (w.2.2.1 _ htk.2).1) dX6_ticketToJoin_35 ?_
    refine lv_aload_n hx hb dX6_ticketToJoin_38 rfl (lv_at hl 2 rfl) ?_
    refine g_acmp_neR (tgt := 57) hx hb dX6_ticketToJoin_39 (by decide) (fun c_39 => ?_) (fun c_39 => ?_)
    · skip
      have c_39 : ¬ cuM M (tkM M (ix z)) = c1 := fun z => c_39 (by rw [z])
      refine lv_aload_n hx hb dX6_ticketToJoin_57 rfl (lv_at hl 1 rfl) ?_
      refine lv_aload_n hx hb dX6_ticketToJoin_58 rfl (lv_at hl 2 rfl) ?_
      refine lv_iload_n hx hb dX6_ticketToJoin_59 rfl (lv_at hl 3 rfl) ?_
      refine g_cV C hS (fun _ h => h.elim) hM hl (fun _ h => h) (c_latestWithSubject hfl Γ _ _ _ _ (by assumption) (by assumption)) kX6_latestWithSubject t_731 (HM.recv C hM clo_6 (wn6 (by assumption))) dX6_ticketToJoin_60 rfl rfl (Nat.le_of_ble_eq_true rfl) (by decide) rfl ⟨by decide, by decide⟩ xNo_goes (fun H locs hc_60 hM hS => ?_)
      exact g_aretO C hr hM hS (Or.inl ⟨_, rfl⟩) dX6_ticketToJoin_63 (by decide) (by decide) ⟨trivial, by rw [jnM, if_neg (fun q => c_39 q.2.1)], rfl, rfl⟩
    · skip
      have c_39 : cuM M (tkM M (ix z)) = c1 := (hM.2.2.1 1 _ 1 _ (by rw [wn1 w]; exact (w.2.2.1 _ htk.2).2.1) hc1 c_39.symm).2
      refine lv_aload hx hb dX6_ticketToJoin_42 (lv_at hl 0 rfl) ?_
      refine lv_aload_n hx hb dX6_ticketToJoin_44 rfl (lv_at hl 1 rfl) ?_
      refine g_get C hM clo_6 9 (by decide) (wn6 w) t_108 rfl (v := .int (mT _ 6 9 _)) rfl dX6_ticketToJoin_45 ?_
      refine g_cV C hS (fun _ h => h.elim) hM hl (fun _ h => h) (c_canBeJoined hfl Γ _ _ _ _ (by assumption)) kX4_canBeJoined t_727 (HM.recv C hM clo_4 (by assumption)) dX6_ticketToJoin_48 rfl rfl (Nat.le_of_ble_eq_true rfl) (by decide) rfl ⟨by decide, by decide⟩ xNo_goes (fun H locs hc_48 hM hS => ?_)
      refine g_ifeqB (tgt := 57) hx hb dX6_ticketToJoin_51 (by decide) (fun c_51 => ?_) (fun c_51 => ?_)
      · skip
        refine lv_aload_n hx hb dX6_ticketToJoin_57 rfl (lv_at hl 1 rfl) ?_
        refine lv_aload_n hx hb dX6_ticketToJoin_58 rfl (lv_at hl 2 rfl) ?_
        refine lv_iload_n hx hb dX6_ticketToJoin_59 rfl (lv_at hl 3 rfl) ?_
        refine g_cV C hS (fun _ h => h.elim) hM hl (fun _ h => h) (c_latestWithSubject hfl Γ _ _ _ _ (by assumption) (by assumption)) kX6_latestWithSubject t_731 (HM.recv C hM clo_6 (wn6 (by assumption))) dX6_ticketToJoin_60 rfl rfl (Nat.le_of_ble_eq_true rfl) (by decide) rfl ⟨by decide, by decide⟩ xNo_goes (fun H locs hc_60 hM hS => ?_)
        exact g_aretO C hr hM hS (Or.inl ⟨_, rfl⟩) dX6_ticketToJoin_63 (by decide) (by decide) ⟨trivial, by rw [jnM, if_neg (fun q => by rw [c_51] at q; cases q.2.2)], rfl, rfl⟩
      · skip
        refine lv_aload hx hb dX6_ticketToJoin_54 (lv_at hl 0 rfl) ?_
        exact g_aretR C hr hM hS (Or.inl ⟨_, rfl⟩) dX6_ticketToJoin_56 (by decide) (by decide) ⟨trivial, by rw [jnM, if_pos ⟨c_14, c_39, c_51⟩]; rfl, rfl, rfl⟩

set_option maxHeartbeats 4000000 in
set_option maxRecDepth 100000 in
theorem c_ownsItsMails {l : Launch} (hfl : l.stackTraces = false) (Γ : Gm) (K : Nat → Nat → Nat) (M : Mem) (i : Nat) (w : Wf M) (hi : i < mN M 4) (hris : ∀ n, n + 1 < (mL M 8 i).length → mT M 2 0 ((mL M 8 i).getD n 0) < mT M 2 0 ((mL M 8 i).getD (n + 1) 0)) (ho : ∀ n, n < (mL M 8 i).length → tkM M ((mL M 8 i).getD n 0) = i) : CT l Γ pF yX4_ownsItsMails (wsO yX4_ownsItsMails cX4_ownsItsMails 3 (some .boolean)) 4 [.ref (K 4 i)] K M (DD True (some (.int (bI true))) K M) xNo 0 0 := by
  refine ct_intro hfl (by decide) (Nat.le_of_ble_eq_true rfl) ?_
  intro p e s m args below meth c C ht hr hnm hM ls hl
  have hx := C.1
  have hb := C.2.1
  have hS : va_S pF s.heap s.heap [] := va_S.rf
  have hl : lv_has ls 3 [(0, .ref (K 4 i))] := hl
  refine lv_iconst (v := 0) hx hb dX4_ownsItsMails_0 (by decide) ?_
  refine lv_istore_n (lv' := [(1, _), (0, _)]) hx hb dX4_ownsItsMails_1 rfl hl (by decide) rfl (fun ls hl => ?_)
  suffices K2 : ∀ (n9 : Nat) (n : Nat), (mL M 8 i).length - n < n9 → (n ≤ (mL M 8 i).length) → ∀ (H : Heap) (locs : List Loc) (ls : Array Slot), HM Γ K M H → va_S pF s.heap H locs → lv_has ls 3 [(0, .ref (K 4 i)), (1, .int (nI n))] → W p l e (rmL 4 0 0) s m args below meth c H locs 0 0 (vx_MQ below (cQ Γ pF (DD True (some (.int (bI true))) K M)) (cX Γ pF K M xNo) args s 0 0 pF) (F0 m 2 ls []) by
    exact K2 _ 0 (Nat.lt_succ_self _) (Nat.zero_le _) _ _ _ hM hS (lv_sub hl [1, 0] rfl)
  intro n9
  induction n9 with
  | zero => intro n h9; exact absurd h9 (Nat.not_lt_zero _)
  | succ n9 ih =>
    intro n h9 hn H locs ls hM hS hl
    refine lv_iload_n hx hb dX4_ownsItsMails_2 rfl (lv_at hl 1 rfl) ?_
    refine lv_aload_n hx hb dX4_ownsItsMails_3 rfl (lv_at hl 0 rfl) ?_
    refine g_get C hM clo_4 3 (by decide) hi t_769 rfl (v := _) (fv3 rfl) dX4_ownsItsMails_4 ?_
    refine g_cV C hS (fun _ h => h.elim) hM hl (fun _ h => h) (c_lsize hfl Γ _ _ 8 _ rfl (wn8 (by assumption) (by assumption))) kJx4a65c_size_8abf5 t_200 (HM.recvL C hM rfl (wn8 (by assumption) (by assumption))) dX4_ownsItsMails_7 rfl rfl (Nat.le_of_ble_eq_true rfl) (by decide) rfl ⟨by decide, by decide⟩ xNo_goes (fun H locs hc_7 hM hS => ?_)
    refine g_icmp_ge (tgt := 86) hx hb dX4_ownsItsMails_10 (by decide) (fun c_10 => ?_) (fun c_10 => ?_)
    · skip
      refine lv_iconst (v := 1) hx hb dX4_ownsItsMails_86 (by decide) ?_
      exact g_zret C hr rfl hM hS dX4_ownsItsMails_87 (by decide) (by decide) ⟨trivial, rfl, rfl, rfl⟩
    · skip
      have hcl := clen w hi
      have h6 : n < (mL M 8 i).length := (nI_ltI (by omega) (by omega)).mp c_10
      have htk := tkM_eq w (cmem w hi h6)
      refine lv_iload_n hx hb dX4_ownsItsMails_13 rfl (lv_at hl 1 rfl) ?_
      refine lv_if_eq (tgt := 50) hx hb dX4_ownsItsMails_14 (by decide) (fun c_14 => ?_) (fun c_14 => ?_)
      · skip
        refine lv_iconst (v := 1) hx hb dX4_ownsItsMails_50 (by decide) ?_
        refine lv_goto (tgt := 55) hx hb dX4_ownsItsMails_51 (by decide) ?_
        refine lv_istore_n (lv' := [(2, _), (0, _), (1, _)]) hx hb dX4_ownsItsMails_55 rfl hl (by decide) rfl (fun ls hl => ?_)
        refine lv_iload_n hx hb dX4_ownsItsMails_56 rfl (lv_at hl 0 rfl) ?_
        refine lv_if_eq (tgt := 78) hx hb dX4_ownsItsMails_57 (by decide) (fun c_57 => ?_) (fun c_57 => ?_)
        · skip
          exact absurd c_57 (by decide)
        · skip
          refine lv_aload_n hx hb dX4_ownsItsMails_60 rfl (lv_at hl 1 rfl) ?_
          refine g_get C hM clo_4 3 (by decide) hi t_769 rfl (v := _) (fv3 rfl) dX4_ownsItsMails_61 ?_
          refine lv_iload_n hx hb dX4_ownsItsMails_64 rfl (lv_at hl 2 rfl) ?_
          refine g_cV C hS (fun _ h => h.elim) hM hl (fun _ h => h) (c_lget hfl Γ _ _ 8 _ n rfl (wn8 w hi) h6) kJx4a65c_get_915e3 t_201 (HM.recvL C hM rfl (wn8 w hi)) dX4_ownsItsMails_65 rfl rfl (Nat.le_of_ble_eq_true rfl) (by decide) rfl ⟨by decide, by decide⟩ xNo_goes (fun H locs hc_65 hM hS => ?_)
          refine g_chk C hM clo_2 (cmem w hi h6) t_202 dX4_ownsItsMails_68 ?_
          refine g_getN C hM clo_2 1 (by decide) (cmem w hi h6) n_849 rfl (v := _) (fvR rfl htk.1) dX4_ownsItsMails_71 ?_
          refine lv_aload_n hx hb dX4_ownsItsMails_74 rfl (lv_at hl 1 rfl) ?_
          refine g_acmp_eqR (tgt := 80) hx hb dX4_ownsItsMails_75 (by decide) (fun c_75 => ?_) (fun c_75 => ?_)
          · skip
            refine lv_iinc (k := 2) (v := nI (_ + 1)) (lv' := [(1, _), (2, _), (0, _)]) hx hb dX4_ownsItsMails_80 hl rfl (nI_1 _) (by decide) rfl (fun ls hl => ?_)
            refine lv_goto (tgt := 2) hx hb dX4_ownsItsMails_83 (by decide) ?_
            exact ih (n + 1) (by omega) h6 _ _ _ hM hS (lv_sub hl [2, 0] rfl)
          · skip
            exact absurd (show K 4 i = K 4 (tkM M ((mL M 8 i).getD n 0)) by rw [ho _ h6]) c_75
      · skip
        obtain ⟨n, rfl⟩ : ∃ z, n = z + 1 := ⟨n - 1, by have h0 : n ≠ 0 := fun z => c_14 (by rw [z]; decide); omega⟩
        have h5 : n < (mL M 8 i).length := by omega
        refine lv_aload_n hx hb dX4_ownsItsMails_17 rfl (lv_at hl 0 rfl) ?_
        refine g_get C hM clo_4 3 (by decide) hi t_769 rfl (v := _) (fv3 rfl) dX4_ownsItsMails_18 ?_
        refine lv_iload_n hx hb dX4_ownsItsMails_21 rfl (lv_at hl 1 rfl) ?_
        refine lv_iconst (v := 1) hx hb dX4_ownsItsMails_22 (by decide) ?_
        refine lv_isub hx hb dX4_ownsItsMails_23 ?_
        rw [nI_pred]
        refine g_cV C hS (fun _ h => h.elim) hM hl (fun _ h => h) (c_lget hfl Γ _ _ 8 _ n rfl (wn8 w hi) h5) kJx4a65c_get_915e3 t_201 (HM.recvL C hM rfl (wn8 w hi)) dX4_ownsItsMails_24 rfl rfl (Nat.le_of_ble_eq_true rfl) (by decide) rfl ⟨by decide, by decide⟩ xNo_goes (fun H locs hc_24 hM hS => ?_)
        refine g_chk C hM clo_2 (cmem w hi h5) t_202 dX4_ownsItsMails_27 ?_
        refine g_getN C hM clo_2 0 (by decide) (cmem w hi h5) n_846 rfl (v := .int (mT _ 2 0 _)) rfl dX4_ownsItsMails_30 ?_
        refine lv_aload_n hx hb dX4_ownsItsMails_33 rfl (lv_at hl 0 rfl) ?_
        refine g_get C hM clo_4 3 (by decide) hi t_769 rfl (v := _) (fv3 rfl) dX4_ownsItsMails_34 ?_
        refine lv_iload_n hx hb dX4_ownsItsMails_37 rfl (lv_at hl 1 rfl) ?_
        refine g_cV C hS (fun _ h => h.elim) hM hl (fun _ h => h) (c_lget hfl Γ _ _ 8 _ (n + 1) rfl (wn8 w hi) h6) kJx4a65c_get_915e3 t_201 (HM.recvL C hM rfl (wn8 w hi)) dX4_ownsItsMails_38 rfl rfl (Nat.le_of_ble_eq_true rfl) (by decide) rfl ⟨by decide, by decide⟩ xNo_goes (fun H locs hc_38 hM hS => ?_)
        refine g_chk C hM clo_2 (cmem w hi h6) t_202 dX4_ownsItsMails_41 ?_
        refine g_getN C hM clo_2 0 (by decide) (cmem w hi h6) n_846 rfl (v := .int (mT _ 2 0 _)) rfl dX4_ownsItsMails_44 ?_
        refine g_icmp_ge (tgt := 54) hx hb dX4_ownsItsMails_47 (by decide) (fun c_47 => ?_) (fun c_47 => ?_)
        · skip
          exact absurd (hris n h6) c_47
        · skip
          refine lv_iconst (v := 1) hx hb dX4_ownsItsMails_50 (by decide) ?_
          refine lv_goto (tgt := 55) hx hb dX4_ownsItsMails_51 (by decide) ?_
          refine lv_istore_n (lv' := [(2, _), (0, _), (1, _)]) hx hb dX4_ownsItsMails_55 rfl hl (by decide) rfl (fun ls hl => ?_)
          refine lv_iload_n hx hb dX4_ownsItsMails_56 rfl (lv_at hl 0 rfl) ?_
          refine lv_if_eq (tgt := 78) hx hb dX4_ownsItsMails_57 (by decide) (fun c_57 => ?_) (fun c_57 => ?_)
          · skip
            exact absurd c_57 (by decide)
          · skip
            refine lv_aload_n hx hb dX4_ownsItsMails_60 rfl (lv_at hl 1 rfl) ?_
            refine g_get C hM clo_4 3 (by decide) hi t_769 rfl (v := _) (fv3 rfl) dX4_ownsItsMails_61 ?_
            refine lv_iload_n hx hb dX4_ownsItsMails_64 rfl (lv_at hl 2 rfl) ?_
            refine g_cV C hS (fun _ h => h.elim) hM hl (fun _ h => h) (c_lget hfl Γ _ _ 8 _ (n + 1) rfl (wn8 w hi) h6) kJx4a65c_get_915e3 t_201 (HM.recvL C hM rfl (wn8 w hi)) dX4_ownsItsMails_65 rfl rfl (Nat.le_of_ble_eq_true rfl) (by decide) rfl ⟨by decide, by decide⟩ xNo_goes (fun H locs hc_65 hM hS => ?_)
            refine g_chk C hM clo_2 (cmem w hi h6) t_202 dX4_ownsItsMails_68 ?_
            refine g_getN C hM clo_2 1 (by decide) (cmem w hi h6) n_849 rfl (v := _) (fvR rfl htk.1) dX4_ownsItsMails_71 ?_
            refine lv_aload_n hx hb dX4_ownsItsMails_74 rfl (lv_at hl 1 rfl) ?_
            refine g_acmp_eqR (tgt := 80) hx hb dX4_ownsItsMails_75 (by decide) (fun c_75 => ?_) (fun c_75 => ?_)
            · skip
              refine lv_iinc (k := 2) (v := nI (_ + 1)) (lv' := [(1, _), (2, _), (0, _)]) hx hb dX4_ownsItsMails_80 hl rfl (nI_1 _) (by decide) rfl (fun ls hl => ?_)
              refine lv_goto (tgt := 2) hx hb dX4_ownsItsMails_83 (by decide) ?_
              exact ih ((n + 1) + 1) (by omega) h6 _ _ _ hM hS (lv_sub hl [2, 0] rfl)
            · skip
              exact absurd (show K 4 i = K 4 (tkM M ((mL M 8 i).getD (n + 1) 0)) by rw [ho _ h6]) c_75

def emN (M : Mem) : Nat → Int32
  | 0 => 0
  | n + 1 => if mT M 4 6 n = 109 then emN M n else emN M n + nI (mL M 8 n).length
def OwnOk (M : Mem) (i : Nat) : Prop := (∀ n, n + 1 < (mL M 8 i).length → mT M 2 0 ((mL M 8 i).getD n 0) < mT M 2 0 ((mL M 8 i).getD (n + 1) 0)) ∧ ∀ n, n < (mL M 8 i).length → tkM M ((mL M 8 i).getD n 0) = i
set_option maxHeartbeats 4000000 in
set_option maxRecDepth 100000 in
theorem c_hasEachMailOnce {l : Launch} (hfl : l.stackTraces = false) (Γ : Gm) (K : Nat → Nat → Nat) (M : Mem)  (w : Wf M) (hO : ∀ i, i < mN M 4 → ¬ mT M 4 6 i = 109 → OwnOk M i) (hsum : emN M (mN M 4) = nI (mN M 2)) : CT l Γ pF yX6_hasEachMailOnce (wsO yX6_hasEachMailOnce cX6_hasEachMailOnce 4 (some .boolean)) 5 [.ref (K 6 0)] K M (DD True (some (.int (bI true))) K M) xNo 0 0 := by
  refine ct_intro hfl (by decide) (Nat.le_of_ble_eq_true rfl) ?_
  intro p e s m args below meth c C ht hr hnm hM ls hl
  have hx := C.1
  have hb := C.2.1
  have hS : va_S pF s.heap s.heap [] := va_S.rf
  have hl : lv_has ls 4 [(0, .ref (K 6 0))] := hl
  have hb4 := wn4 w
  refine lv_iconst (v := 0) hx hb dX6_hasEachMailOnce_0 (by decide) ?_
  refine lv_istore_n (lv' := [(1, _), (0, _)]) hx hb dX6_hasEachMailOnce_1 rfl hl (by decide) rfl (fun ls hl => ?_)
  refine lv_iconst (v := 0) hx hb dX6_hasEachMailOnce_2 (by decide) ?_
  refine lv_istore_n (lv' := [(2, _), (1, _), (0, _)]) hx hb dX6_hasEachMailOnce_3 rfl hl (by decide) rfl (fun ls hl => ?_)
  suffices K4 : ∀ (n9 : Nat) (n : Nat), mN M 4 - n < n9 → (n ≤ mN M 4) → ∀ (H : Heap) (locs : List Loc) (ls : Array Slot), HM Γ K M H → va_S pF s.heap H locs → lv_has ls 4 [(0, .ref (K 6 0)), (1, .int (emN M n)), (2, .int (nI n))] → W p l e (rmL 5 0 0) s m args below meth c H locs 0 0 (vx_MQ below (cQ Γ pF (DD True (some (.int (bI true))) K M)) (cX Γ pF K M xNo) args s 0 0 pF) (F0 m 4 ls []) by
    exact K4 _ 0 (Nat.lt_succ_self _) (Nat.zero_le _) _ _ _ hM hS (lv_sub hl [2, 1, 0] rfl)
  intro n9
  induction n9 with
  | zero => intro n h9; exact absurd h9 (Nat.not_lt_zero _)
  | succ n9 ih =>
    intro n h9 hn H locs ls hM hS hl
    refine lv_iload_n hx hb dX6_hasEachMailOnce_4 rfl (lv_at hl 2 rfl) ?_
    refine lv_aload_n hx hb dX6_hasEachMailOnce_5 rfl (lv_at hl 0 rfl) ?_
    refine g_get C hM clo_6 4 (by decide) (wn6 w) t_103 rfl (v := _) (fv4 rfl) dX6_hasEachMailOnce_6 ?_
    refine g_cV C hS (fun _ h => h.elim) hM hl (fun _ h => h) (c_size11 hfl Γ _ _ (by assumption)) kJx4a65c_size_8abf5 t_153 (HM.recvL C hM rfl (wn11 (by assumption))) dX6_hasEachMailOnce_9 rfl rfl (Nat.le_of_ble_eq_true rfl) (by decide) rfl ⟨by decide, by decide⟩ xNo_goes (fun H locs hc_9 hM hS => ?_)
    refine g_icmp_ge (tgt := 61) hx hb dX6_hasEachMailOnce_12 (by decide) (fun c_12 => ?_) (fun c_12 => ?_)
    · skip
      have hend : n = mN M 4 := by have := (not_congr (nI_ltI (a := n) (b := mN M 4) (by omega) (by omega))).mp c_12; omega
      refine lv_iload_n hx hb dX6_hasEachMailOnce_61 rfl (lv_at hl 1 rfl) ?_
      refine lv_aload_n hx hb dX6_hasEachMailOnce_62 rfl (lv_at hl 0 rfl) ?_
      refine g_get C hM clo_6 3 (by decide) (wn6 w) t_102 rfl (v := _) (fv4 rfl) dX6_hasEachMailOnce_63 ?_
      refine g_cV C hS (fun _ h => h.elim) hM hl (fun _ h => h) (c_size10 hfl Γ _ _ (by assumption)) kJx4a65c_size_8abf5 t_153 (HM.recvL C hM rfl (wn10 (by assumption))) dX6_hasEachMailOnce_66 rfl rfl (Nat.le_of_ble_eq_true rfl) (by decide) rfl ⟨by decide, by decide⟩ xNo_goes (fun H locs hc_66 hM hS => ?_)
      refine lv_icmp_ne (tgt := 76) hx hb dX6_hasEachMailOnce_69 (by decide) (fun c_69 => ?_) (fun c_69 => ?_)
      · skip
        exact absurd (by rw [hend]; exact hsum) c_69
      · skip
        refine lv_iconst (v := 1) hx hb dX6_hasEachMailOnce_72 (by decide) ?_
        refine lv_goto (tgt := 77) hx hb dX6_hasEachMailOnce_73 (by decide) ?_
        exact g_zret C hr rfl hM hS dX6_hasEachMailOnce_77 (by decide) (by decide) ⟨trivial, rfl, rfl, rfl⟩
    · skip
      have h6 : n < mN M 4 := (nI_ltI (by omega) (by omega)).mp c_12
      have hx6 : inN (nI n) (mN M 4) = true := inN_nI h6 (by omega)
      have hx7 := ix_nI (q := n) (by omega)
      refine lv_aload_n hx hb dX6_hasEachMailOnce_15 rfl (lv_at hl 0 rfl) ?_
      refine g_get C hM clo_6 4 (by decide) (wn6 w) t_103 rfl (v := _) (fv4 rfl) dX6_hasEachMailOnce_16 ?_
      refine lv_iload_n hx hb dX6_hasEachMailOnce_19 rfl (lv_at hl 2 rfl) ?_
      refine g_cV C hS (fun _ h => h.elim) hM hl (fun _ h => h) (c_get11 hfl Γ _ _ _ (by assumption) (by assumption)) kJx4a65c_get_915e3 t_181 (HM.recvL C hM rfl (wn11 (by assumption))) dX6_hasEachMailOnce_20 rfl rfl (Nat.le_of_ble_eq_true rfl) (by decide) rfl ⟨by decide, by decide⟩ xNo_goes (fun H locs hc_20 hM hS => ?_)
      rw [hx7]
      refine g_chk C hM clo_4 (by first | assumption | omega) t_195 dX6_hasEachMailOnce_23 ?_
      refine lv_astore_n (lv' := [(3, _), (0, _), (1, _), (2, _)]) hx hb dX6_hasEachMailOnce_26 rfl hl (by decide) rfl (fun ls hl => ?_)
      refine lv_aload_n hx hb dX6_hasEachMailOnce_27 rfl (lv_at hl 0 rfl) ?_
      refine g_getN C hM clo_4 6 (by decide) h6 n_776 rfl (v := .int (mT _ 4 6 _)) rfl dX6_hasEachMailOnce_28 ?_
      refine lv_bipush (v := 109) hx hb dX6_hasEachMailOnce_31 (by decide) ?_
      refine lv_icmp_eq (tgt := 55) hx hb dX6_hasEachMailOnce_33 (by decide) (fun c_33 => ?_) (fun c_33 => ?_)
      · skip
        refine lv_iinc (k := 3) (v := nI (n + 1)) (lv' := [(2, _), (3, _), (0, _), (1, _)]) hx hb dX6_hasEachMailOnce_55 hl rfl (nI_1 n) (by decide) rfl (fun ls hl => ?_)
        refine lv_goto (tgt := 4) hx hb dX6_hasEachMailOnce_58 (by decide) ?_
        exact ih (n + 1) (by omega) h6 _ _ _ hM hS ((by rw [emN, if_pos c_33]; exact lv_sub hl [2, 3, 0] rfl))
      · skip
        refine lv_aload_n hx hb dX6_hasEachMailOnce_36 rfl (lv_at hl 0 rfl) ?_
        refine g_cV C hS (fun _ h => h.elim) hM hl (fun _ h => h) (c_ownsItsMails hfl Γ _ _ n w h6 (hO n h6 c_33).1 (hO n h6 c_33).2) kX4_ownsItsMails t_196 (HM.recv C hM clo_4 h6) dX6_hasEachMailOnce_37 rfl rfl (Nat.le_of_ble_eq_true rfl) (by decide) rfl ⟨by decide, by decide⟩ xNo_goes (fun H locs hc_37 hM hS => ?_)
        refine g_ifneB (tgt := 45) hx hb dX6_hasEachMailOnce_40 (by decide) (fun c_40 => ?_) (fun c_40 => ?_)
        · skip
          refine lv_iload_n hx hb dX6_hasEachMailOnce_45 rfl (lv_at hl 2 rfl) ?_
          refine lv_aload_n hx hb dX6_hasEachMailOnce_46 rfl (lv_at hl 0 rfl) ?_
          refine g_getN C hM clo_4 3 (by decide) h6 n_770 rfl (v := _) (fv3 rfl) dX6_hasEachMailOnce_47 ?_
          refine g_cV C hS (fun _ h => h.elim) hM hl (fun _ h => h) (c_lsize hfl Γ _ _ 8 _ rfl (wn8 w h6)) kJx4a65c_size_8abf5 t_153 (HM.recvL C hM rfl (wn8 w h6)) dX6_hasEachMailOnce_50 rfl rfl (Nat.le_of_ble_eq_true rfl) (by decide) rfl ⟨by decide, by decide⟩ xNo_goes (fun H locs hc_50 hM hS => ?_)
          refine lv_iadd hx hb dX6_hasEachMailOnce_53 ?_
          refine lv_istore_n (lv' := [(1, _), (3, _), (0, _), (2, _)]) hx hb dX6_hasEachMailOnce_54 rfl hl (by decide) rfl (fun ls hl => ?_)
          refine lv_iinc (k := 3) (v := nI (n + 1)) (lv' := [(2, _), (1, _), (3, _), (0, _)]) hx hb dX6_hasEachMailOnce_55 hl rfl (nI_1 n) (by decide) rfl (fun ls hl => ?_)
          refine lv_goto (tgt := 4) hx hb dX6_hasEachMailOnce_58 (by decide) ?_
          exact ih (n + 1) (by omega) h6 _ _ _ hM hS ((by rw [emN, if_neg c_33]; exact lv_sub hl [3, 1, 0] rfl))
        · skip
          cases c_40

set_option maxHeartbeats 4000000 in
set_option maxRecDepth 100000 in
theorem c_agreesOnNextTickets {l : Launch} (hfl : l.stackTraces = false) (Γ : Gm) (K : Nat → Nat → Nat) (M : Mem)  (w : Wf M) (hN : ∀ a, a < mN M 0 → nqN M a 6 = ntN M a (mN M 4)) : CT l Γ pF yX6_agreesOnNextTickets (wsO yX6_agreesOnNextTickets cX6_agreesOnNextTickets 2 (some .boolean)) 6 [.ref (K 6 0)] K M (DD True (some (.int (bI true))) K M) xNo 0 0 := by
  refine ct_intro hfl (by decide) (Nat.le_of_ble_eq_true rfl) ?_
  intro p e s m args below meth c C ht hr hnm hM ls hl
  have hx := C.1
  have hb := C.2.1
  have hS : va_S pF s.heap s.heap [] := va_S.rf
  have hl : lv_has ls 2 [(0, .ref (K 6 0))] := hl
  have hb0 := wn0 w
  refine lv_iconst (v := 0) hx hb dX6_agreesOnNextTickets_0 (by decide) ?_
  refine lv_istore_n (lv' := [(1, _), (0, _)]) hx hb dX6_agreesOnNextTickets_1 rfl hl (by decide) rfl (fun ls hl => ?_)
  suffices K2 : ∀ (n9 : Nat) (n : Nat), mN M 0 - n < n9 → (n ≤ mN M 0) → ∀ (H : Heap) (locs : List Loc) (ls : Array Slot), HM Γ K M H → va_S pF s.heap H locs → lv_has ls 2 [(0, .ref (K 6 0)), (1, .int (nI n))] → W p l e (rmL 6 0 0) s m args below meth c H locs 0 0 (vx_MQ below (cQ Γ pF (DD True (some (.int (bI true))) K M)) (cX Γ pF K M xNo) args s 0 0 pF) (F0 m 2 ls []) by
    exact K2 _ 0 (Nat.lt_succ_self _) (Nat.zero_le _) _ _ _ hM hS (lv_sub hl [1, 0] rfl)
  intro n9
  induction n9 with
  | zero => intro n h9; exact absurd h9 (Nat.not_lt_zero _)
  | succ n9 ih =>
    intro n h9 hn H locs ls hM hS hl
    refine lv_iload_n hx hb dX6_agreesOnNextTickets_2 rfl (lv_at hl 1 rfl) ?_
    refine lv_aload_n hx hb dX6_agreesOnNextTickets_3 rfl (lv_at hl 0 rfl) ?_
    refine g_get C hM clo_6 5 (by decide) (wn6 w) t_104 rfl (v := _) (fv4 rfl) dX6_agreesOnNextTickets_4 ?_
    refine g_cV C hS (fun _ h => h.elim) hM hl (fun _ h => h) (c_size12 hfl Γ _ _ (by assumption)) kJx4a65c_size_8abf5 t_153 (HM.recvL C hM rfl (wn12 (by assumption))) dX6_agreesOnNextTickets_7 rfl rfl (Nat.le_of_ble_eq_true rfl) (by decide) rfl ⟨by decide, by decide⟩ xNo_goes (fun H locs hc_7 hM hS => ?_)
    refine g_icmp_ge (tgt := 54) hx hb dX6_agreesOnNextTickets_10 (by decide) (fun c_10 => ?_) (fun c_10 => ?_)
    · skip
      refine lv_iconst (v := 1) hx hb dX6_agreesOnNextTickets_54 (by decide) ?_
      exact g_zret C hr rfl hM hS dX6_agreesOnNextTickets_55 (by decide) (by decide) ⟨trivial, rfl, rfl, rfl⟩
    · skip
      have h6 : n < mN M 0 := (nI_ltI (by omega) (by omega)).mp c_10
      have hx6 : inN (nI n) (mN M 0) = true := inN_nI h6 (by omega)
      have hx7 := ix_nI (q := n) (by omega)
      refine lv_aload_n hx hb dX6_agreesOnNextTickets_13 rfl (lv_at hl 0 rfl) ?_
      refine lv_aload_n hx hb dX6_agreesOnNextTickets_14 rfl (lv_at hl 0 rfl) ?_
      refine g_get C hM clo_6 5 (by decide) (wn6 w) t_104 rfl (v := _) (fv4 rfl) dX6_agreesOnNextTickets_15 ?_
      refine lv_iload_n hx hb dX6_agreesOnNextTickets_18 rfl (lv_at hl 1 rfl) ?_
      refine g_cV C hS (fun _ h => h.elim) hM hl (fun _ h => h) (c_get12 hfl Γ _ _ _ (by assumption) (by assumption)) kJx4a65c_get_915e3 t_181 (HM.recvL C hM rfl (wn12 (by assumption))) dX6_agreesOnNextTickets_19 rfl rfl (Nat.le_of_ble_eq_true rfl) (by decide) rfl ⟨by decide, by decide⟩ xNo_goes (fun H locs hc_19 hM hS => ?_)
      rw [hx7]
      refine g_chk C hM clo_0 (by first | assumption | omega) t_207 dX6_agreesOnNextTickets_22 ?_
      refine g_cV C hS (fun _ h => h.elim) hM hl (fun _ h => h) (c_nextFromQueues hfl Γ _ _ n w h6) kX6_nextFromQueues t_208 (HM.recv C hM clo_6 (wn6 w)) dX6_agreesOnNextTickets_25 rfl rfl (Nat.le_of_ble_eq_true rfl) (by decide) rfl ⟨by decide, by decide⟩ xNo_goes (fun H locs hc_25 hM hS => ?_)
      refine lv_aload_n hx hb dX6_agreesOnNextTickets_28 rfl (lv_at hl 0 rfl) ?_
      refine lv_aload_n hx hb dX6_agreesOnNextTickets_29 rfl (lv_at hl 0 rfl) ?_
      refine g_get C hM clo_6 5 (by decide) (wn6 w) t_104 rfl (v := _) (fv4 rfl) dX6_agreesOnNextTickets_30 ?_
      refine lv_iload_n hx hb dX6_agreesOnNextTickets_33 rfl (lv_at hl 1 rfl) ?_
      refine g_cV C hS (fun _ h => h.elim) hM hl (fun _ h => h) (c_get12 hfl Γ _ _ _ (by assumption) (by assumption)) kJx4a65c_get_915e3 t_181 (HM.recvL C hM rfl (wn12 (by assumption))) dX6_agreesOnNextTickets_34 rfl rfl (by simp only [psh, List.map_cons, List.map_nil, va_cat]; exact Nat.le_of_ble_eq_true rfl) (by decide) rfl ⟨by decide, by decide⟩ xNo_goes (fun H locs hc_34 hM hS => ?_)
      rw [hx7]
      refine g_chk C hM clo_0 (by first | assumption | omega) t_207 dX6_agreesOnNextTickets_37 ?_
      refine g_cV C hS (fun _ h => h.elim) hM hl (fun _ h => h) (c_nextFromTickets hfl Γ _ _ n w h6) kX6_nextFromTickets t_241 (HM.recv C hM clo_6 (wn6 w)) dX6_agreesOnNextTickets_40 rfl rfl (by simp only [psh, List.map_cons, List.map_nil, va_cat]; exact Nat.le_of_ble_eq_true rfl) (by decide) rfl ⟨by decide, by decide⟩ xNo_goes (fun H locs hc_40 hM hS => ?_)
      refine lv_acmp_eq (tgt := 48) hx hb dX6_agreesOnNextTickets_43 (by decide) (fun c_43 => ?_) (fun c_43 => ?_)
      · skip
        refine lv_iinc (k := 1) (v := nI (n + 1)) (lv' := [(1, _), (0, _)]) hx hb dX6_agreesOnNextTickets_48 hl rfl (nI_1 n) (by decide) rfl (fun ls hl => ?_)
        refine lv_goto (tgt := 2) hx hb dX6_agreesOnNextTickets_51 (by decide) ?_
        exact ih (n + 1) (by omega) h6 _ _ _ hM hS (lv_sub hl [1, 0] rfl)
      · skip
        exact absurd (by rw [hN n h6]) c_43

set_option maxHeartbeats 4000000 in
set_option maxRecDepth 100000 in
theorem c_isSound {l : Launch} (hfl : l.stackTraces = false) (Γ : Gm) (K : Nat → Nat → Nat) (M : Mem)  (w : Wf M) (hO : ∀ i, i < mN M 4 → ¬ mT M 4 6 i = 109 → OwnOk M i) (hsum : emN M (mN M 4) = nI (mN M 2)) (hN : ∀ a, a < mN M 0 → nqN M a 6 = ntN M a (mN M 4)) : CT l Γ pF yX6_isSound (wsO yX6_isSound cX6_isSound 1 (some .boolean)) 7 [.ref (K 6 0)] K M (DD True (some (.int (bI true))) K M) xNo 0 0 := by
  refine ct_intro hfl (by decide) (Nat.le_of_ble_eq_true rfl) ?_
  intro p e s m args below meth c C ht hr hnm hM ls hl
  have hx := C.1
  have hb := C.2.1
  have hS : va_S pF s.heap s.heap [] := va_S.rf
  have hl : lv_has ls 1 [(0, .ref (K 6 0))] := hl
  refine lv_aload_n hx hb dX6_isSound_0 rfl (lv_at hl 0 rfl) ?_
  refine g_cV C hS (fun _ h => h.elim) hM hl (fun _ h => h) (c_hasEachMailOnce hfl Γ _ _ (by assumption) (by assumption) (by assumption)) kX6_hasEachMailOnce t_177 (HM.recv C hM clo_6 (wn6 (by assumption))) dX6_isSound_1 rfl rfl (Nat.le_of_ble_eq_true rfl) (by decide) rfl ⟨by decide, by decide⟩ xNo_goes (fun H locs hc_1 hM hS => ?_)
  refine g_ifeqB (tgt := 18) hx hb dX6_isSound_4 (by decide) (fun c_4 => ?_) (fun c_4 => ?_)
  · skip
    cases c_4
  · skip
    refine lv_aload_n hx hb dX6_isSound_7 rfl (lv_at hl 0 rfl) ?_
    refine g_cV C hS (fun _ h => h.elim) hM hl (fun _ h => h) (c_agreesOnNextTickets hfl Γ _ _ (by assumption) (by assumption)) kX6_agreesOnNextTickets t_203 (HM.recv C hM clo_6 (wn6 (by assumption))) dX6_isSound_8 rfl rfl (Nat.le_of_ble_eq_true rfl) (by decide) rfl ⟨by decide, by decide⟩ xNo_goes (fun H locs hc_8 hM hS => ?_)
    refine g_ifeqB (tgt := 18) hx hb dX6_isSound_11 (by decide) (fun c_11 => ?_) (fun c_11 => ?_)
    · skip
      cases c_11
    · skip
      refine lv_iconst (v := 1) hx hb dX6_isSound_14 (by decide) ?_
      refine lv_goto (tgt := 19) hx hb dX6_isSound_15 (by decide) ?_
      exact g_zret C hr rfl hM hS dX6_isSound_19 (by decide) (by decide) ⟨trivial, rfl, rfl, rfl⟩

