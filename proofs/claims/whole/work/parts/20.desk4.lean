theorem mT_qins {M : Mem} {q e t : Nat} : mT (qinsM M q e t) = mT M := rfl
theorem mP_qins {M : Mem} {q e t : Nat} : mP (qinsM M q e t) = mP M := rfl
theorem mJ_qins {M : Mem} {q e t : Nat} : mJ (qinsM M q e t) = mJ M := rfl
theorem mT_qrem {M : Mem} {q t : Nat} : mT (qremM M q t) = mT M := by unfold qremM; split <;> rfl
theorem mP_qrem {M : Mem} {q t : Nat} : mP (qremM M q t) = mP M := by unfold qremM; split <;> rfl
theorem mJ_qrem {M : Mem} {q t : Nat} : mJ (qremM M q t) = mJ M := by unfold qremM; split <;> rfl
theorem mT_lq {M : Mem} {i : Nat} : mT (lqM M i) = mT M := mT_qrem
theorem mP_lq {M : Mem} {i : Nat} : mP (lqM M i) = mP M := mP_qrem
theorem mJ_lq {M : Mem} {i : Nat} : mJ (lqM M i) = mJ M := mJ_qrem
theorem mT_jq {M : Mem} {i : Nat} : mT (jqM M i) = mT M := by unfold jqM; split <;> rfl
theorem mP_jq {M : Mem} {i : Nat} : mP (jqM M i) = mP M := by unfold jqM; split <;> rfl
theorem mJ_jq {M : Mem} {i : Nat} : mJ (jqM M i) = mJ M := by unfold jqM; split <;> rfl
theorem mL_leave {M : Mem} {i : Nat} : mL (leaveM M i) = mL M := by unfold leaveM; split <;> rfl
theorem mT_leave {M : Mem} {i k j t : Nat} (h : ¬ (k = 0 ∧ j = 3)) : mT (leaveM M i) k j t = mT M k j t := by
  unfold leaveM
  split
  · rfl
  · exact u3_ne (fun z => h ⟨z.1, z.2.1⟩)
theorem mP_leave {M : Mem} {i k j t : Nat} : mP (leaveM M i) k j t = if k = 4 ∧ j = 9 ∧ t = i then none else mP M k j t := by
  unfold leaveM
  split <;> rfl
/-- whatever stands in a line waits there -/
def QW (M : Mem) : Prop := ∀ q, q < 6 → ∀ x ∈ mL M 9 q, waM M x = true ∧ toM M x = q
theorem toM_leave {M : Mem} {i x : Nat} : toM (leaveM M i) x = toM M x := by unfold toM; rw [mT_leave (by decide)]
theorem stM_leave {M : Mem} {i x : Nat} : stM (leaveM M i) x = stM M x := by unfold stM; rw [mT_leave (by decide)]
theorem waM_leave {M : Mem} {i x : Nat} (h : x ≠ i) : waM (leaveM M i) x = waM M x := by
  unfold waM
  rw [stM_leave, mP_leave, if_neg (fun z => h z.2.2)]
theorem QW_join {M : Mem} {i : Nat} (w : Wf M) (h : QW M) (hi : i < mN M 4) : QW (jqM M i) := by
  unfold jqM
  split
  · rename_i hw
    intro q hq x hx
    show waM M x = true ∧ toM M x = q
    by_cases e : q = toM M i
    · subst e
      rcases List.mem_cons.mp (qins_perm.mem_iff.mp hx) with rfl | hx
      · exact ⟨hw, rfl⟩
      · exact h _ hq x hx
    · rw [qins_ne (fun z => e z.2)] at hx
      exact h q hq x hx
  · exact h
def gbS (M : Mem) (a i : Nat) : Mem := if mP M 4 9 i = some a then jqM (leaveM M i) i else M
def gbN (M : Mem) (a : Nat) : Nat → Mem
  | 0 => M
  | n + 1 => gbS (gbN M a n) a n
theorem mN_gbS {M : Mem} {a i : Nat} : mN (gbS M a i) = mN M := by
  unfold gbS
  split
  · rw [mN_jq, mN_leave]
  · rfl
theorem mN_gb {M : Mem} {a : Nat} : ∀ n, mN (gbN M a n) = mN M
  | 0 => rfl
  | n + 1 => mN_gbS.trans (mN_gb n)
theorem gbS_ok {M : Mem} {a i : Nat} (w : Wf M) (h : QW M) (hi : i < mN M 4) : Wf (gbS M a i) ∧ QW (gbS M a i) := by
  unfold gbS
  split
  · rename_i hp
    have hw : waM M i = false := by unfold waM; rw [hp]; exact Bool.and_false _
    have hq1 : QW (leaveM M i) := by
      intro q hq x hx
      rw [mL_leave] at hx
      obtain ⟨h1, h2⟩ := h q hq x hx
      have hxi : x ≠ i := fun e => by rw [e, hw] at h1; cases h1
      rw [waM_leave hxi, toM_leave]
      exact ⟨h1, h2⟩
    have w1 := wf_leave (i := i) w
    have hi1 : i < mN (leaveM M i) 4 := by rw [mN_leave]; exact hi
    refine ⟨wf_jq w1 hi1 (fun _ hm => ?_), QW_join w1 hq1 hi1⟩
    rw [mL_leave, toM_leave] at hm
    have := (h _ (w.2.2.1 i hi).2.2.2.1 i hm).1
    rw [hw] at this
    cases this
  · exact ⟨w, h⟩
set_option maxHeartbeats 4000000 in
set_option maxRecDepth 100000 in
theorem c_giveAllBack {l : Launch} (hfl : l.stackTraces = false) (Γ : Gm) (K : Nat → Nat → Nat) (M : Mem) (a : Nat) (w : Wf M) (ha : a < mN M 0) (hQ : QW M) : CT l Γ (gFree Γ) yX6_giveAllBack (wsO yX6_giveAllBack cX6_giveAllBack 4 none) 10 [.ref (K 6 0), .ref (K 0 a)] K M (DD True none K (gbN M a (mN M 4))) xNo 40 4800 := by
  refine ct_intro hfl (by decide) (Nat.le_of_ble_eq_true rfl) ?_
  intro p e s m args below meth c C ht hr hnm hM ls hl
  have hx := C.1
  have hb := C.2.1
  have hS : va_S (gFree Γ) s.heap s.heap [] := va_S.rf
  have hl : lv_has ls 4 [(0, .ref (K 6 0)), (1, .ref (K 0 a))] := hl
  have hb4 := wn4 w
  refine lv_iconst (v := 0) hx hb dX6_giveAllBack_0 (by decide) ?_
  refine lv_istore_n (lv' := [(2, _), (0, _), (1, _)]) hx hb dX6_giveAllBack_1 rfl hl (by decide) rfl (fun ls hl => ?_)
  suffices K2 : ∀ (n9 : Nat) (n : Nat), mN M 4 - n < n9 → (Wf (gbN M a n)) → (QW (gbN M a n)) → (n ≤ mN M 4) → ∀ (H : Heap) (locs : List Loc) (ls : Array Slot), HM Γ K (gbN M a n) H → va_S (gFree Γ) s.heap H locs → lv_has ls 4 [(0, .ref (K 6 0)), (1, .ref (K 0 a)), (2, .int (nI n))] → W p l e (rmL 10 40 4800) s m args below meth c H locs n (120 * n) (vx_MQ below (cQ Γ (gFree Γ) (DD True none K (gbN M a (mN M 4)))) (cX Γ (gFree Γ) K M xNo) args s 40 4800 (gFree Γ)) (F0 m 2 ls []) by
    exact K2 _ 0 (Nat.lt_succ_self _) w hQ (Nat.zero_le _) _ _ _ hM hS (lv_sub hl [1, 2, 0] rfl)
  intro n9
  induction n9 with
  | zero => intro n h9; exact absurd h9 (Nat.not_lt_zero _)
  | succ n9 ih =>
    intro n h9 wz qz hn H locs ls hM hS hl
    refine lv_iload_n hx hb dX6_giveAllBack_2 rfl (lv_at hl 2 rfl) ?_
    refine lv_aload_n hx hb dX6_giveAllBack_3 rfl (lv_at hl 0 rfl) ?_
    refine g_get C hM clo_6 4 (by decide) (wn6 wz) t_103 rfl (v := _) (fv4 rfl) dX6_giveAllBack_4 ?_
    refine g_cV C hS (fun _ h => h) hM hl (fun _ h => h.elim) (c_size11 hfl Γ _ _ (by assumption)) kJx4a65c_size_8abf5 t_153 (HM.recvL C hM rfl (wn11 (by assumption))) dX6_giveAllBack_7 rfl rfl (Nat.le_of_ble_eq_true rfl) (by decide) rfl ⟨by omega, by omega⟩ xNo_goes (fun H locs hc_7 hM hS => ?_)
    refine g_icmp_ge (tgt := 48) hx hb dX6_giveAllBack_10 (by decide) (fun c_10 => ?_) (fun c_10 => ?_)
    · skip
      exact g_vret C hr hM hS dX6_giveAllBack_48 (by omega) (by omega) ⟨trivial, rfl, rfl, congrArg (gbN M a) (by have hz4 : mN (gbN M a n) 4 = mN M 4 := (by rw [mN_gb]); rw [hz4] at c_10; have := (not_congr (nI_ltI (a := n) (b := mN M 4) (by omega) (by omega))).mp c_10; omega)⟩
    · skip
      have hz := mN_gb (M := M) (a := a) n
      have hz4 : mN (gbN M a n) 4 = mN M 4 := by rw [hz]
      have h6 : n < mN M 4 := by rw [hz4] at c_10; exact (nI_ltI (by omega) (by omega)).mp c_10
      have hn4 : n < mN (gbN M a n) 4 := by omega
      have hx6 : inN (nI n) (mN (gbN M a n) 4) = true := inN_nI hn4 (by omega)
      have hx7 := ix_nI (q := n) (by omega)
      have ha4 : a < mN (gbN M a n) 0 := by rw [hz]; exact ha
      refine lv_aload_n hx hb dX6_giveAllBack_13 rfl (lv_at hl 0 rfl) ?_
      refine g_get C hM clo_6 4 (by decide) (wn6 wz) t_103 rfl (v := _) (fv4 rfl) dX6_giveAllBack_14 ?_
      refine lv_iload_n hx hb dX6_giveAllBack_17 rfl (lv_at hl 2 rfl) ?_
      refine g_cV C hS (fun _ h => h) hM hl (fun _ h => h.elim) (c_get11 hfl Γ _ _ _ (by assumption) (by assumption)) kJx4a65c_get_915e3 t_181 (HM.recvL C hM rfl (wn11 (by assumption))) dX6_giveAllBack_18 rfl rfl (Nat.le_of_ble_eq_true rfl) (by decide) rfl ⟨by omega, by omega⟩ xNo_goes (fun H locs hc_18 hM hS => ?_)
      rw [hx7]
      refine g_chk C hM clo_4 (by first | assumption | omega) t_195 dX6_giveAllBack_21 ?_
      refine lv_astore_n (lv' := [(3, _), (0, _), (1, _), (2, _)]) hx hb dX6_giveAllBack_24 rfl hl (by decide) rfl (fun ls hl => ?_)
      refine lv_aload_n hx hb dX6_giveAllBack_25 rfl (lv_at hl 0 rfl) ?_
      rcases hp_26 : (mP (gbN M a n) 4 9 n) with _ | q_26
      · refine g_getN C hM clo_4 9 (by decide) hn4 n_782 rfl (v := .null) (fvN rfl hp_26) dX6_giveAllBack_26 ?_
        refine lv_aload_n hx hb dX6_giveAllBack_29 rfl (lv_at hl 2 rfl) ?_
        refine g_acmp_neRN (tgt := 42) hx hb dX6_giveAllBack_30 (by decide) ?_
        have hsm : ¬ mP (gbN M a n) 4 9 n = some a := fun z => by rw [hp_26] at z; cases z
        refine lv_iinc (k := 3) (v := nI (n + 1)) (lv' := [(2, _), (3, _), (0, _), (1, _)]) hx hb dX6_giveAllBack_42 hl rfl (nI_1 n) (by decide) rfl (fun ls hl => ?_)
        refine lv_goto (tgt := 2) hx hb dX6_giveAllBack_45 (by decide) ?_
        exact W.widen (by omega) (by omega) (ih (n + 1) (by omega) (gbS_ok wz qz hn4).1 (gbS_ok wz qz hn4).2 h6 _ _ _ (by rw [gbN, gbS, if_neg hsm]; exact hM) hS (lv_sub hl [2, 3, 0] rfl))
      · refine g_getN C hM clo_4 9 (by decide) hn4 n_782 rfl (v := _) (fvR rfl hp_26) dX6_giveAllBack_26 ?_
        refine lv_aload_n hx hb dX6_giveAllBack_29 rfl (lv_at hl 2 rfl) ?_
        refine g_acmp_neR (tgt := 42) hx hb dX6_giveAllBack_30 (by decide) (fun c_30 => ?_) (fun c_30 => ?_)
        · skip
          have hsm : ¬ mP (gbN M a n) 4 9 n = some a := fun z => c_30 (by rw [hp_26] at z; rw [Option.some.inj z])
          refine lv_iinc (k := 3) (v := nI (n + 1)) (lv' := [(2, _), (3, _), (0, _), (1, _)]) hx hb dX6_giveAllBack_42 hl rfl (nI_1 n) (by decide) rfl (fun ls hl => ?_)
          refine lv_goto (tgt := 2) hx hb dX6_giveAllBack_45 (by decide) ?_
          exact W.widen (by omega) (by omega) (ih (n + 1) (by omega) (gbS_ok wz qz hn4).1 (gbS_ok wz qz hn4).2 h6 _ _ _ (by rw [gbN, gbS, if_neg hsm]; exact hM) hS (lv_sub hl [2, 3, 0] rfl))
        · skip
          have hsm : mP (gbN M a n) 4 9 n = some a := by rw [hp_26, (hM.2.2.1 0 _ 0 _ ((wz.2.2.1 _ hn4).2.2.2.2.1 _ hp_26) ha4 c_30.symm).2]
          refine lv_aload_n hx hb dX6_giveAllBack_33 rfl (lv_at hl 0 rfl) ?_
          refine g_cV C hS (fun _ h => h) hM hl (fun _ h => h) (c_leaveAgent hfl Γ _ _ _ (by assumption) (by assumption)) kX4_leaveAgent t_955 (HM.recv C hM clo_4 (by assumption)) dX6_giveAllBack_34 rfl rfl (Nat.le_of_ble_eq_true rfl) (by decide) rfl ⟨by omega, by omega⟩ xNo_goes (fun H locs hc_34 hM hS => ?_)
          have wA := wf_leave (i := n) wz
          have hA : n < mN (leaveM (gbN M a n) n) 4 := by rw [mN_leave]; exact hn4
          refine lv_aload_n hx hb dX6_giveAllBack_37 rfl (lv_at hl 1 rfl) ?_
          refine lv_aload_n hx hb dX6_giveAllBack_38 rfl (lv_at hl 0 rfl) ?_
          refine g_cV C hS (fun _ h => h) hM hl (fun _ h => h) (c_joinQueue hfl Γ _ _ _ (by assumption) (by assumption)) kX6_joinQueue t_869 (HM.recv C hM clo_6 (wn6 (by assumption))) dX6_giveAllBack_39 rfl rfl (Nat.le_of_ble_eq_true rfl) (by decide) rfl ⟨by omega, by omega⟩ xNo_goes (fun H locs hc_39 hM hS => ?_)
          refine lv_iinc (k := 3) (v := nI (n + 1)) (lv' := [(2, _), (3, _), (0, _), (1, _)]) hx hb dX6_giveAllBack_42 hl rfl (nI_1 n) (by decide) rfl (fun ls hl => ?_)
          refine lv_goto (tgt := 2) hx hb dX6_giveAllBack_45 (by decide) ?_
          exact W.widen (by omega) (by omega) (ih (n + 1) (by omega) (gbS_ok wz qz hn4).1 (gbS_ok wz qz hn4).2 h6 _ _ _ (by rw [gbN, gbS, if_pos hsm]; exact hM) hS (lv_sub hl [2, 3, 0] rfl))

theorem wf_shift {M : Mem} {a : Nat} {v : Int32} (w : Wf M) : Wf (sT M 0 2 a v) := wf_sT (by decide) (by decide) w
def sosM (M : Mem) (a : Nat) (b : Bool) : Mem := if b = true then sT M 0 2 a (bI b) else gbN (sT M 0 2 a (bI b)) a (mN M 4)
theorem QW_shift {M : Mem} {a : Nat} {v : Int32} (h : QW M) : QW (sT M 0 2 a v) := h
def rSetOnShift (M : Mem) (x : Int32) (y : Bool) : Nat := if inN x (mN M 0) = true then (0) else 1
set_option maxHeartbeats 4000000 in
set_option maxRecDepth 100000 in
theorem c_setOnShift {l : Launch} (hfl : l.stackTraces = false) (Γ : Gm) (K : Nat → Nat → Nat) (M : Mem) (x : Int32) (y : Bool) (w : Wf M) (hQ : QW M) (hbo : narrow .boolean (.int (mT M 0 2 (ix x))) = .int (mT M 0 2 (ix x))) : CT l Γ (gFree Γ) yX6_setOnShift (wsO yX6_setOnShift cX6_setOnShift 5 (some .boolean)) 11 [.ref (K 6 0), .int x, .int (bI y)] K M (DD (rSetOnShift M x y = 0) (some (.int (mT M 0 2 (ix x)))) K (sosM M (ix x) y)) (XP ["java/lang/IndexOutOfBoundsException"] (rSetOnShift M x y)) 42 4820 := by
  refine ct_intro hfl (by decide) (Nat.le_of_ble_eq_true rfl) ?_
  intro p e s m args below meth c C ht hr hnm hM ls hl
  have hx := C.1
  have hb := C.2.1
  have hS : va_S (gFree Γ) s.heap s.heap [] := va_S.rf
  have hl : lv_has ls 5 [(0, .ref (K 6 0)), (1, .int x), (2, .int (bI y))] := hl
  have hb4 := wn4 w
  have hb0 := wn0 w
  have hb2 := wn2 w
  refine lv_aload_n hx hb dX6_setOnShift_0 rfl (lv_at hl 0 rfl) ?_
  refine lv_iload_n hx hb dX6_setOnShift_1 rfl (lv_at hl 1 rfl) ?_
  refine g_cV C hS (fun _ h => h) hM hl (fun _ h => h.elim) (c_agentNumbered hfl Γ _ _ _ (by assumption)) kX6_agentNumbered t_1020 (HM.recv C hM clo_6 (wn6 (by assumption))) dX6_setOnShift_2 rfl rfl (Nat.le_of_ble_eq_true rfl) (by decide) rfl ⟨by decide, by decide⟩ (g_pass C ht (fun E h => xp_of 0 (by simp [rSetOnShift, h.2]) h.1) (by decide) (by decide)) (fun H locs hc_2 hM hS => ?_)
  have hq_2 := (inN_ix hc_2 (by have := wn0 w; omega)).1
  refine lv_astore_n (lv' := [(3, _), (0, _), (1, _), (2, _)]) hx hb dX6_setOnShift_5 rfl hl (by decide) rfl (fun ls hl => ?_)
  refine lv_aload_n hx hb dX6_setOnShift_6 rfl (lv_at hl 0 rfl) ?_
  refine g_getN C hM clo_0 2 (by decide) (by assumption) n_1000 rfl (v := .int (mT _ 0 2 _)) rfl dX6_setOnShift_7 ?_
  refine lv_istore (lv' := [(4, _), (3, _), (0, _), (1, _), (2, _)]) hx hb dX6_setOnShift_10 hl (by decide) rfl (fun ls hl => ?_)
  refine lv_aload_n hx hb dX6_setOnShift_12 rfl (lv_at hl 1 rfl) ?_
  refine lv_iload_n hx hb dX6_setOnShift_13 rfl (lv_at hl 4 rfl) ?_
  refine g_putI C hM hS clo_0 2 (by decide) rfl (by assumption) rfl rfl (bI_narrow _) (by cases y <;> rfl) dX6_setOnShift_14 (Or.inr n_1000) (fun H locs hM hS => ?_)
  refine lv_iload_n hx hb dX6_setOnShift_17 rfl (lv_at hl 4 rfl) ?_
  refine g_ifneB (tgt := 26) hx hb dX6_setOnShift_18 (by decide) (fun c_18 => ?_) (fun c_18 => ?_)
  · skip
    refine lv_iload hx hb dX6_setOnShift_26 (lv_at hl 0 rfl) ?_
    exact g_zret C hr hbo hM hS dX6_setOnShift_28 (by decide) (by decide) ⟨by simp [rSetOnShift, hc_2, c_18], rfl, rfl, by rw [sosM, c_18]; rfl⟩
  · skip
    refine lv_aload_n hx hb dX6_setOnShift_21 rfl (lv_at hl 2 rfl) ?_
    refine lv_aload_n hx hb dX6_setOnShift_22 rfl (lv_at hl 1 rfl) ?_
    refine g_cV C hS (fun _ h => h) hM hl (fun _ h => h) (c_giveAllBack hfl Γ _ _ (ix x) (wf_shift w) hq_2 (QW_shift hQ)) kX6_giveAllBack t_1054 (HM.recv C hM clo_6 (wn6 w)) dX6_setOnShift_23 rfl rfl (Nat.le_of_ble_eq_true rfl) (by decide) rfl ⟨by decide, by decide⟩ xNo_goes (fun H locs hc_23 hM hS => ?_)
    refine lv_iload hx hb dX6_setOnShift_26 (lv_at hl 0 rfl) ?_
    exact g_zret C hr hbo hM hS dX6_setOnShift_28 (by decide) (by decide) ⟨by simp [rSetOnShift, hc_2, c_18], rfl, rfl, by rw [sosM, c_18]; rfl⟩

def psS (M : Mem) (k : Nat) (x : Int32) : Mem := if mT M 4 6 k = 111 then cntM (sJ M 6 14 0 (mJ M 6 14 0 + x.toInt64)) k x else M
def pbS (M : Mem) (k : Nat) (x : Int32) : Int32 := if mT M 4 6 k = 111 ∧ brkM (sJ M 6 14 0 (mJ M 6 14 0 + x.toInt64)) k x = true then 1 else 0
def psN (M : Mem) (x : Int32) : Nat → Mem
  | 0 => M
  | k + 1 => psS (psN M x k) k x
def pbN (M : Mem) (x : Int32) : Nat → Int32
  | 0 => 0
  | k + 1 => pbN M x k + pbS (psN M x k) k x
theorem mN_cnt {M : Mem} {i : Nat} {x : Int32} : mN (cntM M i x) = mN M := by unfold cntM; split <;> rfl
theorem wf_cnt {M : Mem} {i : Nat} {x : Int32} (w : Wf M) : Wf (cntM M i x) := by
  unfold cntM
  split
  · exact wf_sT (by decide) (by decide) (wf_sT (by decide) (by decide) w)
  · exact wf_sT (by decide) (by decide) w
theorem mN_psS {M : Mem} {k : Nat} {x : Int32} : mN (psS M k x) = mN M := by
  unfold psS
  split
  · rw [mN_cnt]; rfl
  · rfl
theorem wf_psS {M : Mem} {k : Nat} {x : Int32} (w : Wf M) : Wf (psS M k x) := by
  unfold psS
  split
  · exact wf_cnt (wf_sJ w)
  · exact w
theorem mN_ps {M : Mem} {x : Int32} : ∀ k, mN (psN M x k) = mN M
  | 0 => rfl
  | k + 1 => mN_psS.trans (mN_ps k)
theorem wf_ps {M : Mem} {x : Int32} (w : Wf M) : ∀ k, Wf (psN M x k)
  | 0 => w
  | k + 1 => wf_psS (wf_ps w k)
def passM (M : Mem) (x : Int32) : Mem := sT (sT (psN M x (mN M 4)) 6 9 0 (mT (psN M x (mN M 4)) 6 9 0 + x)) 6 10 0 (mT (psN M x (mN M 4)) 6 10 0 + pbN M x (mN M 4))
theorem passM_eq {M : Mem} {x : Int32} {n : Nat} (h : n = mN M 4) : sT (sT (psN M x n) 6 9 0 (mT (psN M x n) 6 9 0 + x)) 6 10 0 (mT (sT (psN M x n) 6 9 0 (mT (psN M x n) 6 9 0 + x)) 6 10 0 + pbN M x n) = passM M x := by subst h; rfl
def rPass (M : Mem) (x : Int32) : Nat := if inB x 1 600 = true then 0 else 1
set_option maxHeartbeats 4000000 in
set_option maxRecDepth 100000 in
theorem c_pass {l : Launch} (hfl : l.stackTraces = false) (Γ : Gm) (K : Nat → Nat → Nat) (M : Mem) (x : Int32) (w : Wf M) : CT l Γ (gFree Γ) yX6_pass (wsO yX6_pass cX6_pass 5 (some .int)) 8 [.ref (K 6 0), .int x] K M (DD (rPass M x = 0) (some (.int (pbN M x (mN M 4)))) K (passM M x)) (XP ["java/lang/IllegalArgumentException"] (rPass M x)) 2 12 := by
  refine ct_intro hfl (by decide) (Nat.le_of_ble_eq_true rfl) ?_
  intro p e s m args below meth c C ht hr hnm hM ls hl
  have hx := C.1
  have hb := C.2.1
  have hS : va_S (gFree Γ) s.heap s.heap [] := va_S.rf
  have hl : lv_has ls 5 [(0, .ref (K 6 0)), (1, .int x)] := hl
  have hb4 := wn4 w
  have hb0 := wn0 w
  have hb2 := wn2 w
  refine lv_iload_n hx hb dX6_pass_0 rfl (lv_at hl 1 rfl) ?_
  refine lv_iconst (v := 1) hx hb dX6_pass_1 (by decide) ?_
  refine lv_sipush (v := 600) hx hb dX6_pass_2 (by decide) ?_
  refine g_cS C hS (fun _ h => h) hM hl (fun _ h => h.elim) (c_isWithin hfl Γ _ _ _ _ _) kX6_isWithin t_257 dX6_pass_5 rfl rfl (Nat.le_of_ble_eq_true rfl) (by decide) rfl ⟨by decide, by decide⟩ xNo_goes (fun H locs hc_5 hM hS => ?_)
  refine g_ifneB (tgt := 21) hx hb dX6_pass_8 (by decide) (fun c_8 => ?_) (fun c_8 => ?_)
  · skip
    refine lv_iconst (v := 0) hx hb dX6_pass_21 (by decide) ?_
    refine lv_istore_n (lv' := [(2, _), (0, _), (1, _)]) hx hb dX6_pass_22 rfl hl (by decide) rfl (fun ls hl => ?_)
    refine lv_iconst (v := 0) hx hb dX6_pass_23 (by decide) ?_
    refine lv_istore_n (lv' := [(3, _), (2, _), (0, _), (1, _)]) hx hb dX6_pass_24 rfl hl (by decide) rfl (fun ls hl => ?_)
    suffices K25 : ∀ (n9 : Nat) (n : Nat), mN M 4 - n < n9 → (Wf (psN M x n)) → (n ≤ mN M 4) → ∀ (H : Heap) (locs : List Loc) (ls : Array Slot), HM Γ K (psN M x n) H → va_S (gFree Γ) s.heap H locs → lv_has ls 5 [(0, .ref (K 6 0)), (1, .int x), (2, .int (pbN M x n)), (3, .int (nI n))] → W p l e (rmL 8 2 12) s m args below meth c H locs 0 0 (vx_MQ below (cQ Γ (gFree Γ) (DD (rPass M x = 0) (some (.int (pbN M x (mN M 4)))) K (passM M x))) (cX Γ (gFree Γ) K M (XP ["java/lang/IllegalArgumentException"] (rPass M x))) args s 2 12 (gFree Γ)) (F0 m 25 ls []) by
      exact K25 _ 0 (Nat.lt_succ_self _) w (Nat.zero_le _) _ _ _ hM hS (lv_sub hl [2, 3, 1, 0] rfl)
    intro n9
    induction n9 with
    | zero => intro n h9; exact absurd h9 (Nat.not_lt_zero _)
    | succ n9 ih =>
      intro n h9 wz hn H locs ls hM hS hl
      refine lv_iload_n hx hb dX6_pass_25 rfl (lv_at hl 3 rfl) ?_
      refine lv_aload_n hx hb dX6_pass_26 rfl (lv_at hl 0 rfl) ?_
      refine g_get C hM clo_6 4 (by decide) (wn6 (wf_ps w _)) t_103 rfl (v := _) (fv4 rfl) dX6_pass_27 ?_
      refine g_cV C hS (fun _ h => h) hM hl (fun _ h => h.elim) (c_size11 hfl Γ _ _ (by assumption)) kJx4a65c_size_8abf5 t_153 (HM.recvL C hM rfl (wn11 (by assumption))) dX6_pass_30 rfl rfl (Nat.le_of_ble_eq_true rfl) (by decide) rfl ⟨by decide, by decide⟩ xNo_goes (fun H locs hc_30 hM hS => ?_)
      refine g_icmp_ge (tgt := 88) hx hb dX6_pass_33 (by decide) (fun c_33 => ?_) (fun c_33 => ?_)
      · skip
        have hz4 : mN (psN M x n) 4 = mN M 4 := by rw [mN_ps]
        have hend : n = mN M 4 := by rw [hz4] at c_33; have := (not_congr (nI_ltI (a := n) (b := mN M 4) (by omega) (by omega))).mp c_33; omega
        refine lv_aload_n hx hb dX6_pass_88 rfl (lv_at hl 0 rfl) ?_
        refine lv_dup hx hb dX6_pass_89 rfl ?_
        refine g_get C hM clo_6 9 (by decide) (wn6 (wf_ps w _)) t_108 rfl (v := .int (mT _ 6 9 _)) rfl dX6_pass_90 ?_
        refine lv_iload_n hx hb dX6_pass_93 rfl (lv_at hl 1 rfl) ?_
        refine lv_iadd hx hb dX6_pass_94 ?_
        refine g_putI C hM hS clo_6 9 (by decide) rfl (wn6 (wf_ps w _)) rfl rfl rfl rfl dX6_pass_95 (Or.inl t_108) (fun H locs hM hS => ?_)
        refine lv_aload_n hx hb dX6_pass_98 rfl (lv_at hl 0 rfl) ?_
        refine lv_dup hx hb dX6_pass_99 rfl ?_
        refine g_get C hM clo_6 10 (by decide) (wn6 (wf_ps w _)) t_109 rfl (v := .int (mT _ 6 10 _)) rfl dX6_pass_100 ?_
        refine lv_iload_n hx hb dX6_pass_103 rfl (lv_at hl 2 rfl) ?_
        refine lv_iadd hx hb dX6_pass_104 ?_
        refine g_putI C hM hS clo_6 10 (by decide) rfl (wn6 (wf_ps w _)) rfl rfl rfl rfl dX6_pass_105 (Or.inl t_109) (fun H locs hM hS => ?_)
        refine lv_iload_n hx hb dX6_pass_108 rfl (lv_at hl 2 rfl) ?_
        exact g_iret C hr hM hS dX6_pass_109 (by decide) (by decide) ⟨by simp [rPass, c_8], by rw [hend], rfl, passM_eq hend⟩
      · skip
        have hz := mN_ps (M := M) (x := x) n
        have hz4 : mN (psN M x n) 4 = mN M 4 := by rw [hz]
        have h6 : n < mN M 4 := by rw [hz4] at c_33; exact (nI_ltI (by omega) (by omega)).mp c_33
        have hn4 : n < mN (psN M x n) 4 := by omega
        have hx6 : inN (nI n) (mN (psN M x n) 4) = true := inN_nI hn4 (by omega)
        have hx7 := ix_nI (q := n) (by omega)
        refine lv_aload_n hx hb dX6_pass_36 rfl (lv_at hl 0 rfl) ?_
        refine g_get C hM clo_6 4 (by decide) (wn6 (wf_ps w _)) t_103 rfl (v := _) (fv4 rfl) dX6_pass_37 ?_
        refine lv_iload_n hx hb dX6_pass_40 rfl (lv_at hl 3 rfl) ?_
        refine g_cV C hS (fun _ h => h) hM hl (fun _ h => h.elim) (c_get11 hfl Γ _ _ _ (by assumption) (by assumption)) kJx4a65c_get_915e3 t_181 (HM.recvL C hM rfl (wn11 (by assumption))) dX6_pass_41 rfl rfl (Nat.le_of_ble_eq_true rfl) (by decide) rfl ⟨by decide, by decide⟩ xNo_goes (fun H locs hc_41 hM hS => ?_)
        rw [hx7]
        refine g_chk C hM clo_4 (by first | assumption | omega) t_195 dX6_pass_44 ?_
        refine lv_astore (lv' := [(4, _), (0, _), (1, _), (2, _), (3, _)]) hx hb dX6_pass_47 hl (by decide) rfl (fun ls hl => ?_)
        refine lv_aload hx hb dX6_pass_49 (lv_at hl 0 rfl) ?_
        refine g_getN C hM clo_4 6 (by decide) hn4 n_776 rfl (v := .int (mT _ 4 6 _)) rfl dX6_pass_51 ?_
        refine lv_bipush (v := 111) hx hb dX6_pass_54 (by decide) ?_
        refine lv_icmp_ne (tgt := 82) hx hb dX6_pass_56 (by decide) (fun c_56 => ?_) (fun c_56 => ?_)
        · skip
          refine lv_iinc (k := 4) (v := nI (n + 1)) (lv' := [(3, _), (4, _), (0, _), (1, _), (2, _)]) hx hb dX6_pass_82 hl rfl (nI_1 n) (by decide) rfl (fun ls hl => ?_)
          refine lv_goto (tgt := 25) hx hb dX6_pass_85 (by decide) ?_
          exact ih (n + 1) (by omega) (wf_psS wz) h6 _ _ _ (by rw [psN, psS, if_neg c_56]; exact hM) hS ((by rw [pbN, pbS, if_neg (fun z => c_56 z.1), Int32.add_zero]; exact lv_sub hl [2, 3, 4, 0] rfl))
        · skip
          refine lv_aload_n hx hb dX6_pass_59 rfl (lv_at hl 1 rfl) ?_
          refine lv_dup hx hb dX6_pass_60 rfl ?_
          refine g_get C hM clo_6 14 (by decide) (wn6 (wf_ps w _)) t_113 rfl (v := .long (mJ _ 6 14 _)) rfl dX6_pass_61 ?_
          refine lv_iload_n hx hb dX6_pass_64 rfl (lv_at hl 2 rfl) ?_
          refine lv_i2l hx hb dX6_pass_65 rfl ?_
          refine lv_ladd hx hb dX6_pass_66 ?_
          refine g_putJ C hM hS clo_6 14 (by decide) rfl (wn6 (wf_ps w _)) rfl rfl rfl rfl dX6_pass_67 (Or.inl t_113) (fun H locs hM hS => ?_)
          refine lv_aload hx hb dX6_pass_70 (lv_at hl 0 rfl) ?_
          refine lv_iload_n hx hb dX6_pass_72 rfl (lv_at hl 2 rfl) ?_
          refine g_cV C hS (fun _ h => h) hM hl (fun _ h => h) (c_countMinutes hfl Γ _ _ _ _ (wf_sJ wz) hn4) kX4_countMinutes t_332 (HM.recv C hM clo_4 hn4) dX6_pass_73 rfl rfl (Nat.le_of_ble_eq_true rfl) (by decide) rfl ⟨by decide, by decide⟩ xNo_goes (fun H locs hc_73 hM hS => ?_)
          refine g_ifeqB (tgt := 82) hx hb dX6_pass_76 (by decide) (fun c_76 => ?_) (fun c_76 => ?_)
          · skip
            refine lv_iinc (k := 4) (v := nI (n + 1)) (lv' := [(3, _), (4, _), (0, _), (1, _), (2, _)]) hx hb dX6_pass_82 hl rfl (nI_1 n) (by decide) rfl (fun ls hl => ?_)
            refine lv_goto (tgt := 25) hx hb dX6_pass_85 (by decide) ?_
            exact ih (n + 1) (by omega) (wf_psS wz) h6 _ _ _ (by rw [psN, psS, if_pos c_56]; exact hM) hS ((by rw [pbN, pbS, if_neg (fun z => by rw [c_76] at z; cases z.2), Int32.add_zero]; exact lv_sub hl [2, 3, 4, 0] rfl))
          · skip
            refine lv_iinc (k := 3) (v := _) (lv' := [(2, _), (4, _), (0, _), (1, _), (3, _)]) hx hb dX6_pass_79 hl rfl rfl (by decide) rfl (fun ls hl => ?_)
            refine lv_iinc (k := 4) (v := nI (n + 1)) (lv' := [(3, _), (2, _), (4, _), (0, _), (1, _)]) hx hb dX6_pass_82 hl rfl (nI_1 n) (by decide) rfl (fun ls hl => ?_)
            refine lv_goto (tgt := 25) hx hb dX6_pass_85 (by decide) ?_
            exact ih (n + 1) (by omega) (wf_psS wz) h6 _ _ _ (by rw [psN, psS, if_pos c_56]; exact hM) hS ((by rw [pbN, pbS, if_pos ⟨c_56, c_76⟩]; exact lv_sub hl [3, 4, 1, 0] rfl))
  · skip
    exact g_throw C ht (xp_of 0 (by simp [rPass, c_8]) rfl) hM hS (fun _ h => h) hl thr_59 (strX_0) dX6_pass_11 dX6_pass_14 dX6_pass_15 dX6_pass_17 dX6_pass_20 rfl (Nat.le_of_ble_eq_true rfl) ⟨by decide, by decide⟩ (by decide) (by decide)

def rSetClass (M : Mem) (x : Int32) (y : Int32) : Nat := if inB x 0 7 = true ∧ inB y 0 2 = true then 0 else 1
set_option maxHeartbeats 4000000 in
set_option maxRecDepth 100000 in
theorem c_setClass {l : Launch} (hfl : l.stackTraces = false) (Γ : Gm) (K : Nat → Nat → Nat) (M : Mem) (x : Int32) (y : Int32) (w : Wf M) : CT l Γ (gFree Γ) yX6_setClass (wsO yX6_setClass cX6_setClass 4 (some .int)) 10 [.ref (K 6 0), .int x, .int y] K M (DD (rSetClass M x y = 0) (some (.int (mT M 1 1 (ix x)))) K (oqN (sT M 1 1 (ix x) y) 6)) (XP ["java/lang/IllegalArgumentException"] (rSetClass M x y)) 2 12 := by
  refine ct_intro hfl (by decide) (Nat.le_of_ble_eq_true rfl) ?_
  intro p e s m args below meth c C ht hr hnm hM ls hl
  have hx := C.1
  have hb := C.2.1
  have hS : va_S (gFree Γ) s.heap s.heap [] := va_S.rf
  have hl : lv_has ls 4 [(0, .ref (K 6 0)), (1, .int x), (2, .int y)] := hl
  have hb4 := wn4 w
  have hb0 := wn0 w
  have hb2 := wn2 w
  refine lv_iload_n hx hb dX6_setClass_0 rfl (lv_at hl 1 rfl) ?_
  refine lv_iconst (v := 0) hx hb dX6_setClass_1 (by decide) ?_
  refine lv_bipush (v := 7) hx hb dX6_setClass_2 (by decide) ?_
  refine g_cS C hS (fun _ h => h) hM hl (fun _ h => h.elim) (c_isWithin hfl Γ _ _ _ _ _) kX6_isWithin t_257 dX6_setClass_4 rfl rfl (Nat.le_of_ble_eq_true rfl) (by decide) rfl ⟨by decide, by decide⟩ xNo_goes (fun H locs hc_4 hM hS => ?_)
  refine g_ifeqB (tgt := 19) hx hb dX6_setClass_7 (by decide) (fun c_7 => ?_) (fun c_7 => ?_)
  · skip
    exact g_throw C ht (xp_of 0 (by simp [rSetClass, c_7]) rfl) hM hS (fun _ h => h) hl thr_59 (strX_1) dX6_setClass_19 dX6_setClass_22 dX6_setClass_23 dX6_setClass_25 dX6_setClass_28 rfl (Nat.le_of_ble_eq_true rfl) ⟨by decide, by decide⟩ (by decide) (by decide)
  · skip
    refine lv_iload_n hx hb dX6_setClass_10 rfl (lv_at hl 2 rfl) ?_
    refine lv_iconst (v := 0) hx hb dX6_setClass_11 (by decide) ?_
    refine lv_iconst (v := 2) hx hb dX6_setClass_12 (by decide) ?_
    refine g_cS C hS (fun _ h => h) hM hl (fun _ h => h.elim) (c_isWithin hfl Γ _ _ _ _ _) kX6_isWithin t_257 dX6_setClass_13 rfl rfl (Nat.le_of_ble_eq_true rfl) (by decide) rfl ⟨by decide, by decide⟩ xNo_goes (fun H locs hc_13 hM hS => ?_)
    refine g_ifneB (tgt := 29) hx hb dX6_setClass_16 (by decide) (fun c_16 => ?_) (fun c_16 => ?_)
    · skip
      obtain ⟨hx1, hx2⟩ := inB_ix (n := 8) c_7 (by omega)
      obtain ⟨hy1, hy2⟩ := inB_ix (n := 3) c_16 (by omega)
      have hc8 : ix x < mN M 1 := by rw [wn1 w]; exact hx1
      have wA : Wf (sT M 1 1 (ix x) y) := by rw [hy2]; exact wf_level hy1 w
      refine lv_aload_n hx hb dX6_setClass_29 rfl (lv_at hl 0 rfl) ?_
      refine g_get C hM clo_6 1 (by decide) (wn6 (by assumption)) t_100 rfl (v := _) (fv4 rfl) dX6_setClass_30 ?_
      refine lv_iload_n hx hb dX6_setClass_33 rfl (lv_at hl 1 rfl) ?_
      refine g_aldR (k := 18) C hM rfl rfl rfl (wn18 w) (ix x) hx2 hx1 (by decide) dX6_setClass_34 ?_
      refine g_getN C hM clo_1 1 (by decide) hc8 n_52 rfl (v := .int (mT _ 1 1 _)) rfl dX6_setClass_35 ?_
      refine lv_istore_n (lv' := [(3, _), (0, _), (1, _), (2, _)]) hx hb dX6_setClass_38 rfl hl (by decide) rfl (fun ls hl => ?_)
      refine lv_aload_n hx hb dX6_setClass_39 rfl (lv_at hl 1 rfl) ?_
      refine g_get C hM clo_6 1 (by decide) (wn6 (by assumption)) t_100 rfl (v := _) (fv4 rfl) dX6_setClass_40 ?_
      refine lv_iload_n hx hb dX6_setClass_43 rfl (lv_at hl 2 rfl) ?_
      refine g_aldR (k := 18) C hM rfl rfl rfl (wn18 w) (ix x) hx2 hx1 (by decide) dX6_setClass_44 ?_
      refine lv_iload_n hx hb dX6_setClass_45 rfl (lv_at hl 3 rfl) ?_
      refine g_putI C hM hS clo_1 1 (by decide) rfl hc8 rfl rfl rfl rfl dX6_setClass_46 (Or.inr n_52) (fun H locs hM hS => ?_)
      refine lv_aload_n hx hb dX6_setClass_49 rfl (lv_at hl 1 rfl) ?_
      refine g_cV C hS (fun _ h => h) hM hl (fun _ h => h) (c_orderQueuesAnew hfl Γ _ _ wA) kX6_orderQueuesAnew t_344 (HM.recv C hM clo_6 (wn6 wA)) dX6_setClass_50 rfl rfl (Nat.le_of_ble_eq_true rfl) (by decide) rfl ⟨by decide, by decide⟩ xNo_goes (fun H locs hc_50 hM hS => ?_)
      refine lv_iload_n hx hb dX6_setClass_53 rfl (lv_at hl 0 rfl) ?_
      exact g_iret C hr hM hS dX6_setClass_54 (by decide) (by decide) ⟨by simp [rSetClass, c_7, c_16], rfl, rfl, rfl⟩
    · skip
      exact g_throw C ht (xp_of 0 (by simp [rSetClass, c_7, c_16]) rfl) hM hS (fun _ h => h) hl thr_59 (strX_1) dX6_setClass_19 dX6_setClass_22 dX6_setClass_23 dX6_setClass_25 dX6_setClass_28 rfl (Nat.le_of_ble_eq_true rfl) ⟨by decide, by decide⟩ (by decide) (by decide)

def rSetPromise (M : Mem) (x : Int32) (y : Int32) : Nat := if inB x 0 2 = true ∧ inB y 1 9999 = true then 0 else 1
set_option maxHeartbeats 4000000 in
set_option maxRecDepth 100000 in
theorem c_setPromise {l : Launch} (hfl : l.stackTraces = false) (Γ : Gm) (K : Nat → Nat → Nat) (M : Mem) (x : Int32) (y : Int32) (w : Wf M) : CT l Γ (gFree Γ) yX6_setPromise (wsO yX6_setPromise cX6_setPromise 4 (some .int)) 10 [.ref (K 6 0), .int x, .int y] K M (DD (rSetPromise M x y = 0) (some (.int (mT M 15 (ix x) 0))) K (oqN (sT M 15 (ix x) 0 y) 6)) (XP ["java/lang/IllegalArgumentException"] (rSetPromise M x y)) 2 12 := by
  refine ct_intro hfl (by decide) (Nat.le_of_ble_eq_true rfl) ?_
  intro p e s m args below meth c C ht hr hnm hM ls hl
  have hx := C.1
  have hb := C.2.1
  have hS : va_S (gFree Γ) s.heap s.heap [] := va_S.rf
  have hl : lv_has ls 4 [(0, .ref (K 6 0)), (1, .int x), (2, .int y)] := hl
  have hb4 := wn4 w
  have hb0 := wn0 w
  have hb2 := wn2 w
  refine lv_iload_n hx hb dX6_setPromise_0 rfl (lv_at hl 1 rfl) ?_
  refine lv_iconst (v := 0) hx hb dX6_setPromise_1 (by decide) ?_
  refine lv_iconst (v := 2) hx hb dX6_setPromise_2 (by decide) ?_
  refine g_cS C hS (fun _ h => h) hM hl (fun _ h => h.elim) (c_isWithin hfl Γ _ _ _ _ _) kX6_isWithin t_257 dX6_setPromise_3 rfl rfl (Nat.le_of_ble_eq_true rfl) (by decide) rfl ⟨by decide, by decide⟩ xNo_goes (fun H locs hc_3 hM hS => ?_)
  refine g_ifeqB (tgt := 20) hx hb dX6_setPromise_6 (by decide) (fun c_6 => ?_) (fun c_6 => ?_)
  · skip
    exact g_throw C ht (xp_of 0 (by simp [rSetPromise, c_6]) rfl) hM hS (fun _ h => h) hl thr_59 (strX_2) dX6_setPromise_20 dX6_setPromise_23 dX6_setPromise_24 dX6_setPromise_26 dX6_setPromise_29 rfl (Nat.le_of_ble_eq_true rfl) ⟨by decide, by decide⟩ (by decide) (by decide)
  · skip
    refine lv_iload_n hx hb dX6_setPromise_9 rfl (lv_at hl 2 rfl) ?_
    refine lv_iconst (v := 1) hx hb dX6_setPromise_10 (by decide) ?_
    refine lv_sipush (v := 9999) hx hb dX6_setPromise_11 (by decide) ?_
    refine g_cS C hS (fun _ h => h) hM hl (fun _ h => h.elim) (c_isWithin hfl Γ _ _ _ _ _) kX6_isWithin t_257 dX6_setPromise_14 rfl rfl (Nat.le_of_ble_eq_true rfl) (by decide) rfl ⟨by decide, by decide⟩ xNo_goes (fun H locs hc_14 hM hS => ?_)
    refine g_ifneB (tgt := 30) hx hb dX6_setPromise_17 (by decide) (fun c_17 => ?_) (fun c_17 => ?_)
    · skip
      obtain ⟨hx1, hx2⟩ := inB_ix (n := 3) c_6 (by omega)
      have wA : Wf (sT M 15 (ix x) 0 y) := wf_sT (fun z => absurd z.1 (by decide)) (fun z => absurd z.1 (by decide)) w
      refine lv_aload_n hx hb dX6_setPromise_30 rfl (lv_at hl 0 rfl) ?_
      refine g_get C hM clo_6 0 (by decide) (wn6 (by assumption)) t_99 rfl (v := _) (fv4 rfl) dX6_setPromise_31 ?_
      refine lv_iload_n hx hb dX6_setPromise_34 rfl (lv_at hl 1 rfl) ?_
      refine g_iald C hM rw_15 (wn15 w) (ix x) hx2 hx1 (by decide) dX6_setPromise_35 ?_
      refine lv_istore_n (lv' := [(3, _), (0, _), (1, _), (2, _)]) hx hb dX6_setPromise_36 rfl hl (by decide) rfl (fun ls hl => ?_)
      refine lv_aload_n hx hb dX6_setPromise_37 rfl (lv_at hl 1 rfl) ?_
      refine g_get C hM clo_6 0 (by decide) (wn6 (by assumption)) t_99 rfl (v := _) (fv4 rfl) dX6_setPromise_38 ?_
      refine lv_iload_n hx hb dX6_setPromise_41 rfl (lv_at hl 2 rfl) ?_
      refine lv_iload_n hx hb dX6_setPromise_42 rfl (lv_at hl 3 rfl) ?_
      refine g_iast C hM hS rw_15 (wn15 w) (ix x) hx2 hx1 (by decide) dX6_setPromise_43 (fun H locs hM hS => ?_)
      refine lv_aload_n hx hb dX6_setPromise_44 rfl (lv_at hl 1 rfl) ?_
      refine g_cV C hS (fun _ h => h) hM hl (fun _ h => h) (c_orderQueuesAnew hfl Γ _ _ wA) kX6_orderQueuesAnew t_344 (HM.recv C hM clo_6 (wn6 wA)) dX6_setPromise_45 rfl rfl (Nat.le_of_ble_eq_true rfl) (by decide) rfl ⟨by decide, by decide⟩ xNo_goes (fun H locs hc_45 hM hS => ?_)
      refine lv_iload_n hx hb dX6_setPromise_48 rfl (lv_at hl 0 rfl) ?_
      exact g_iret C hr hM hS dX6_setPromise_49 (by decide) (by decide) ⟨by simp [rSetPromise, c_6, c_17], rfl, rfl, rfl⟩
    · skip
      exact g_throw C ht (xp_of 0 (by simp [rSetPromise, c_6, c_17]) rfl) hM hS (fun _ h => h) hl thr_59 (strX_2) dX6_setPromise_20 dX6_setPromise_23 dX6_setPromise_24 dX6_setPromise_26 dX6_setPromise_29 rfl (Nat.le_of_ble_eq_true rfl) ⟨by decide, by decide⟩ (by decide) (by decide)

