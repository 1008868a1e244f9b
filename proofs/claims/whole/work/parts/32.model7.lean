def gXo (D : Mem) : Mem := sJ D 6 14 0 (mJ D 6 14 0 + (1 : Int32).toInt64)
def gAk (D : Mem) (k : Nat) : Mem := sT (gXo D) 4 7 k (mT D 4 7 k + 1)
def miA (D M : Mem) (k : Nat) : Mem := sJ (sT M 27 k 0 (mT D 4 7 k + 1)) 7 29 0 (mJ D 6 14 0 + 1)
def miS (D M : Mem) (k : Nat) : Mem := if mT D 4 6 k = 111 then (if brkM (gXo D) k 1 = true then sT (miA D M k) 34 k 0 1 else miA D M k) else M
def miN (D M : Mem) : Nat → Mem
  | 0 => M
  | k + 1 => miS (psN D 1 k) (miN D M k) k
theorem RC_miA {D M : Mem} {k : Nat} (r : RC D M) (hk : k < mN D 4) : RC (gAk D k) (miA D M k) := by
  obtain ⟨r1, ⟨b1, b2, b3, b4, b5, b6, b7, b8, b9, b10⟩, r3, r4, r5, r6, r7, r8, r9, r10, r11⟩ := r
  refine ⟨r1, ⟨b1, b2, b3, b4, b5, b6, b7, b8, b9, rfl⟩, r3, r4, r5, fun u hu => ?_, fun u h1 h2 => ?_, r8, r9, r10, r11⟩
  · obtain ⟨a1, a2, a3, a4, a5⟩ := r6 u hu
    refine ⟨a1, a2, a3, ?_, a5⟩
    show mT (sT M 27 k 0 _) 27 u 0 = mT (sT (gXo D) 4 7 k _) 4 7 u
    rw [mT_sT, mT_sT]
    by_cases e : u = k
    · rw [if_pos ⟨rfl, e, rfl⟩, if_pos ⟨rfl, rfl, e⟩]
    · rw [if_neg (fun z => e z.2.1), if_neg (fun z => e z.2.2)]; exact a4
  · obtain ⟨a1, a2⟩ := r7 u h1 h2
    have hu : k < u := Nat.lt_of_lt_of_le hk h1
    refine ⟨?_, a2⟩
    show mT (sT M 27 k 0 _) 27 u 0 = 0
    rw [mT_sT, if_neg (fun z => by have := z.2.1; omega)]
    exact a1
theorem RC_brk {D M : Mem} {k : Nat} (r : RC D M) (hk : k < mN D 4) : RC (sT D 4 8 k 1) (sT M 34 k 0 1) := by
  obtain ⟨r1, r2, r3, r4, r5, r6, r7, r8⟩ := r
  refine ⟨r1, r2, r3, r4, r5, fun u hu => ?_, fun u h1 h2 => ?_, r8⟩
  · obtain ⟨a1, a2, a3, a4, a5, a6, a7, a8, a9, a10, a11⟩ := r6 u hu
    refine ⟨a1, a2, a3, a4, a5, a6, a7, a8, a9, a10, ?_⟩
    rw [mT_sT, mT_sT]
    by_cases e : u = k
    · rw [if_pos ⟨rfl, e, rfl⟩, if_pos ⟨rfl, rfl, e⟩]
    · rw [if_neg (fun z => e z.2.1), if_neg (fun z => e z.2.2)]; exact a11
  · obtain ⟨a1, a2, a3, a4⟩ := r7 u h1 h2
    have hu : k < u := Nat.lt_of_lt_of_le hk h1
    refine ⟨a1, a2, a3, ?_⟩
    rw [mT_sT, if_neg (fun z => by have := z.2.1; omega)]
    exact a4
theorem RC_miS {D M : Mem} {k : Nat} (r : RC D M) (hk : k < mN D 4) : RC (psS D k 1) (miS D M k) := by
  unfold psS miS
  split
  · unfold cntM
    show RC (if brkM (gXo D) k 1 = true then sT (gAk D k) 4 8 k 1 else gAk D k) _
    split
    · exact RC_brk (RC_miA r hk) hk
    · exact RC_miA r hk
  · exact r
def gTm (D : Mem) : Mem := sT D 6 9 0 (mT D 6 9 0 + 1)
def mT1 (D M : Mem) : Mem := sT M 7 20 0 (mT D 6 9 0 + 1)
theorem RC_time {D M : Mem} (r : RC D M) : RC (gTm D) (mT1 D M) := by
  obtain ⟨r1, ⟨b1, b2⟩, r3⟩ := r
  exact ⟨r1, ⟨rfl, b2⟩, r3⟩
theorem wf_gT {D : Mem} (w : Wf D) : Wf (gTm D) := wf_sT (by decide) (by decide) w
def minD (D : Mem) : Mem := sT (psN (gTm D) 1 (mN D 4)) 6 10 0 (mT (psN (gTm D) 1 (mN D 4)) 6 10 0 + pbN (gTm D) 1 (mN D 4))
def minR (D M : Mem) : Mem := sT (miN (gTm D) (mT1 D M) (mN D 4)) 7 25 0 (mT (psN (gTm D) 1 (mN D 4)) 6 10 0 + pbN (gTm D) 1 (mN D 4))
theorem RC_miN {D M : Mem} (r : RC D M) : ∀ k, k ≤ mN D 4 → RC (psN D 1 k) (miN D M k)
  | 0, _ => r
  | k + 1, h => RC_miS (RC_miN r k (by omega)) (by rw [mN_ps]; omega)
theorem RC_min {D M : Mem} (r : RC D M) : RC (minD D) (minR D M) := by
  obtain ⟨r1, ⟨b1, b2, b3, b4, b5, b6, b7⟩, r3⟩ := RC_miN (RC_time r) (mN D 4) (Nat.le_refl _)
  exact ⟨r1, ⟨b1, b2, b3, b4, b5, rfl, b7⟩, r3⟩
theorem mN_minD {D : Mem} : mN (minD D) = mN D := mN_ps (M := gTm D) (x := 1) _
theorem wf_minD {D : Mem} (w : Wf D) : Wf (minD D) := wf_sT (by decide) (by decide) (wf_ps (wf_gT w) _)
def itD (D : Mem) : Nat → Mem
  | 0 => D
  | n + 1 => minD (itD D n)
def itR (D M : Mem) : Nat → Mem
  | 0 => M
  | n + 1 => minR (itD D n) (itR D M n)
def itC (D : Mem) : Nat → Int32
  | 0 => 0
  | n + 1 => itC D n + pbN (gTm (itD D n)) 1 (mN (itD D n) 4)
theorem RC_it {D M : Mem} (r : RC D M) : ∀ n, RC (itD D n) (itR D M n)
  | 0 => r
  | n + 1 => RC_min (RC_it r n)
theorem wf_it {D : Mem} (w : Wf D) : ∀ n, Wf (itD D n)
  | 0 => w
  | n + 1 => wf_minD (wf_it w n)
set_option maxHeartbeats 1500000 in
set_option maxRecDepth 100000 in
theorem m_minute {l : Launch} (hfl : l.stackTraces = false) (Γ : Gm) (K : Nat → Nat → Nat) (M : Mem)  (D : Mem) (w : Wf D) (r : RC D M) : CT l Γ (gFree Γ) yX7_minute (wsO yX7_minute cX7_minute 3 (some .int)) 2 [.ref (K 7 0)] K M (DD True (some (.int (pbN (gTm D) 1 (mN D 4)))) K (minR D M)) xNo 0 0 := by
  refine ct_intro hfl (by decide) (Nat.le_of_ble_eq_true rfl) ?_
  intro p e s m args below meth c C ht hr hnm hM ls hl
  have hx := C.1
  have hb := C.2.1
  have hS : va_S (gFree Γ) s.heap s.heap [] := va_S.rf
  have hl : lv_has ls 3 [(0, .ref (K 7 0))] := hl
  have r70 := r7 r
  have rn0 := fun k h1 h2 => rn r k h1 h2
  have hb4 := wn4 w
  have hb0 := wn0 w
  have hb2 := wn2 w
  have hb3 := wn3 w
  refine lv_iconst (v := 0) hx hb dX7_minute_0 (by decide) ?_
  refine lv_istore_n (lv' := [(1, _), (0, _)]) hx hb dX7_minute_1 rfl hl (by decide) rfl (fun ls hl => ?_)
  refine lv_aload_n hx hb dX7_minute_2 rfl (lv_at hl 1 rfl) ?_
  refine lv_dup hx hb dX7_minute_3 rfl ?_
  refine g_get C hM clo_7 20 (by decide) r70 t_1318 rfl (v := .int (mT _ 7 20 _)) rfl dX7_minute_4 ?_
  rw [rtime r]
  refine lv_iconst (v := 1) hx hb dX7_minute_7 (by decide) ?_
  refine lv_iadd hx hb dX7_minute_8 ?_
  refine g_putI C hM hS clo_7 20 (by decide) rfl r70 rfl rfl rfl rfl dX7_minute_9 (Or.inl t_1318) (fun H locs hM hS => ?_)
  refine lv_iconst (v := 0) hx hb dX7_minute_12 (by decide) ?_
  refine lv_istore_n (lv' := [(2, _), (1, _), (0, _)]) hx hb dX7_minute_13 rfl hl (by decide) rfl (fun ls hl => ?_)
  suffices K14 : ∀ (n9 : Nat) (n : Nat), mN D 4 - n < n9 → (RC (psN (gTm D) 1 n) (miN (gTm D) (mT1 D M) n)) → (n ≤ mN D 4) → ∀ (H : Heap) (locs : List Loc) (ls : Array Slot), HM Γ K (miN (gTm D) (mT1 D M) n) H → va_S (gFree Γ) s.heap H locs → lv_has ls 3 [(0, .ref (K 7 0)), (1, .int (pbN (gTm D) 1 n)), (2, .int (nI n))] → W p l e (rmL 2 0 0) s m args below meth c H locs 0 0 (vx_MQ below (cQ Γ (gFree Γ) (DD True (some (.int (pbN (gTm D) 1 (mN D 4)))) K (minR D M))) (cX Γ (gFree Γ) K M xNo) args s 0 0 (gFree Γ)) (F0 m 14 ls []) by
    exact K14 _ 0 (Nat.lt_succ_self _) (RC_time r) (Nat.zero_le _) _ _ _ hM hS (lv_sub hl [2, 1, 0] rfl)
  intro n9
  induction n9 with
  | zero => intro n h9; exact absurd h9 (Nat.not_lt_zero _)
  | succ n9 ih =>
    intro n h9 rz hn H locs ls hM hS hl
    have z7 := r7 rz
    have zn := fun k h1 h2 => rn rz k h1 h2
    refine lv_iload_n hx hb dX7_minute_14 rfl (lv_at hl 2 rfl) ?_
    refine lv_aload_n hx hb dX7_minute_15 rfl (lv_at hl 0 rfl) ?_
    refine g_get C hM clo_7 22 (by decide) z7 t_1320 rfl (v := .int (mT _ 7 22 _)) rfl dX7_minute_16 ?_
    refine g_icmp_ge (tgt := 92) hx hb dX7_minute_19 (by decide) (fun c_19 => ?_) (fun c_19 => ?_)
    · skip
      have hg4 : mN (psN (gTm D) 1 n) 4 = mN D 4 := by rw [mN_ps]; rfl
      have hend : n = mN D 4 := by rw [rticks rz, hg4] at c_19; have := (not_congr (nI_ltI (a := n) (b := mN D 4) (by omega) (by omega))).mp c_19; omega
      refine lv_aload_n hx hb dX7_minute_92 rfl (lv_at hl 0 rfl) ?_
      refine lv_dup hx hb dX7_minute_93 rfl ?_
      refine g_get C hM clo_7 25 (by decide) z7 t_1323 rfl (v := .int (mT _ 7 25 _)) rfl dX7_minute_94 ?_
      rw [(rF rz).2.2.2.2.2.1]
      refine lv_iload_n hx hb dX7_minute_97 rfl (lv_at hl 1 rfl) ?_
      refine lv_iadd hx hb dX7_minute_98 ?_
      refine g_putI C hM hS clo_7 25 (by decide) rfl z7 rfl rfl rfl rfl dX7_minute_99 (Or.inl t_1323) (fun H locs hM hS => ?_)
      refine lv_iload_n hx hb dX7_minute_102 rfl (lv_at hl 1 rfl) ?_
      exact g_iret C hr hM hS dX7_minute_103 (by decide) (by decide) ⟨trivial, by rw [hend], rfl, by rw [hend]; rfl⟩
    · skip
      have hg : mN (psN (gTm D) 1 n) = mN D := mN_ps (M := gTm D) (x := 1) n
      have hg4 : mN (psN (gTm D) 1 n) 4 = mN D 4 := by rw [hg]
      have h6 : n < mN D 4 := by rw [rticks rz, hg4] at c_19; exact (nI_ltI (by omega) (by omega)).mp c_19
      have hg6 : n < mN (psN (gTm D) 1 n) 4 := by omega
      refine lv_aload_n hx hb dX7_minute_22 rfl (lv_at hl 0 rfl) ?_
      refine g_get C hM clo_7 13 (by decide) z7 t_1311 rfl (v := _) (fv4 rfl) dX7_minute_23 ?_
      refine lv_iload_n hx hb dX7_minute_26 rfl (lv_at hl 2 rfl) ?_
      refine g_cald C hM rw_33 (zn 33 (by decide) (by decide)) n rfl (by omega) (by decide) dX7_minute_27 ?_
      rw [rst rz hg6]
      refine lv_bipush (v := 111) hx hb dX7_minute_28 (by decide) ?_
      refine lv_icmp_eq (tgt := 36) hx hb dX7_minute_30 (by decide) (fun c_30 => ?_) (fun c_30 => ?_)
      · skip
        refine lv_aload_n hx hb dX7_minute_36 rfl (lv_at hl 0 rfl) ?_
        refine g_get C hM clo_7 7 (by decide) z7 t_1305 rfl (v := _) (fv4 rfl) dX7_minute_37 ?_
        refine lv_iload_n hx hb dX7_minute_40 rfl (lv_at hl 2 rfl) ?_
        refine lv_dup2_11 hx hb dX7_minute_41 rfl rfl ?_
        refine g_iald C hM rw_27 (zn 27 (by decide) (by decide)) n rfl (by omega) (by decide) dX7_minute_42 ?_
        rw [rclk rz hg6]
        refine lv_iconst (v := 1) hx hb dX7_minute_43 (by decide) ?_
        refine lv_iadd hx hb dX7_minute_44 ?_
        refine g_iast C hM hS rw_27 (zn 27 (by decide) (by decide)) n rfl (by omega) (by decide) dX7_minute_45 (fun H locs hM hS => ?_)
        refine lv_aload_n hx hb dX7_minute_46 rfl (lv_at hl 0 rfl) ?_
        refine lv_dup hx hb dX7_minute_47 rfl ?_
        refine g_get C hM clo_7 29 (by decide) z7 t_1327 rfl (v := .long (mJ _ 7 29 _)) rfl dX7_minute_48 ?_
        rw [show mJ (sT (miN (gTm D) (mT1 D M) n) 27 n 0 (mT (psN (gTm D) 1 n) 4 7 n + 1)) 7 29 0 = mJ (psN (gTm D) 1 n) 6 14 0 from (rF rz).2.2.2.2.2.2.2.2.2]
        refine lv_lconst (v := 1) hx hb dX7_minute_51 (by decide) ?_
        refine lv_ladd hx hb dX7_minute_52 ?_
        refine g_putJ C hM hS clo_7 29 (by decide) rfl z7 rfl rfl rfl rfl dX7_minute_53 (Or.inl t_1327) (fun H locs hM hS => ?_)
        have wA : Wf (gAk (psN (gTm D) 1 n) n) := wf_sT (by decide) (by decide) (wf_sJ (wf_ps (wf_gT w) n))
        have rA := RC_miA rz hg6
        refine lv_aload_n hx hb dX7_minute_56 rfl (lv_at hl 0 rfl) ?_
        refine lv_iload_n hx hb dX7_minute_57 rfl (lv_at hl 2 rfl) ?_
        refine g_cV C hS (fun _ h => h) hM hl (fun _ h => h.elim) (m_leftFor hfl Γ _ _ _ n (gAk (psN (gTm D) 1 n) n) wA rA rfl hg6) kX7_leftFor t_1410 (HM.recv C hM clo_7 (r7 rA)) dX7_minute_58 rfl rfl (Nat.le_of_ble_eq_true rfl) (by decide) rfl ⟨by decide, by decide⟩ xNo_goes (fun H locs hc_58 hM hS => ?_)
        refine g_if_ge (tgt := 86) hx hb dX7_minute_61 (by decide) (fun c_61 => ?_) (fun c_61 => ?_)
        · skip
          have hbk : ¬ brkM (gXo (psN (gTm D) 1 n)) n 1 = true := by unfold brkM; intro z; rw [Bool.and_eq_true] at z; exact c_61 (of_decide_eq_true z.2)
          refine lv_iinc (k := 2) (v := nI (n + 1)) (lv' := [(2, _), (0, _), (1, _)]) hx hb dX7_minute_86 hl rfl (nI_1 n) (by decide) rfl (fun ls hl => ?_)
          refine lv_goto (tgt := 14) hx hb dX7_minute_89 (by decide) ?_
          exact ih (n + 1) (by omega) (RC_miS rz hg6) h6 _ _ _ (by rw [miN, miS, if_pos c_30, if_neg hbk]; exact hM) hS ((by rw [pbN, pbS, if_neg (fun z => hbk z.2), Int32.add_zero]; exact lv_sub hl [1, 2, 0] rfl))
        · skip
          refine lv_aload_n hx hb dX7_minute_64 rfl (lv_at hl 0 rfl) ?_
          refine g_get C hM clo_7 14 (by decide) z7 t_1312 rfl (v := _) (fv4 rfl) dX7_minute_65 ?_
          refine lv_iload_n hx hb dX7_minute_68 rfl (lv_at hl 2 rfl) ?_
          refine g_zald C hM rw_34 (zn 34 (by decide) (by decide)) n rfl (by omega) (by decide) dX7_minute_69 ?_
          refine lv_if_eq (tgt := 76) hx hb dX7_minute_70 (by decide) (fun c_70 => ?_) (fun c_70 => ?_)
          · skip
            have hbk : brkM (gXo (psN (gTm D) 1 n)) n 1 = true := by unfold brkM; exact Bool.and_eq_true_iff.mpr ⟨decide_eq_true (show mT (gXo (psN (gTm D) 1 n)) 4 8 n = 0 from (rbrk rz hg6).symm.trans c_70), decide_eq_true (show leftM (gAk (psN (gTm D) 1 n) n) n < 0 from c_61)⟩
            refine lv_aload_n hx hb dX7_minute_76 rfl (lv_at hl 0 rfl) ?_
            refine g_get C hM clo_7 14 (by decide) z7 t_1312 rfl (v := _) (fv4 rfl) dX7_minute_77 ?_
            refine lv_iload_n hx hb dX7_minute_80 rfl (lv_at hl 2 rfl) ?_
            refine lv_iconst (v := 1) hx hb dX7_minute_81 (by decide) ?_
            refine g_zast C hM hS rw_34 (zn 34 (by decide) (by decide)) n rfl (by omega) (by decide) rfl dX7_minute_82 (fun H locs hM hS => ?_)
            refine lv_iinc (k := 1) (v := _) (lv' := [(1, _), (0, _), (2, _)]) hx hb dX7_minute_83 hl rfl rfl (by decide) rfl (fun ls hl => ?_)
            refine lv_iinc (k := 2) (v := nI (n + 1)) (lv' := [(2, _), (1, _), (0, _)]) hx hb dX7_minute_86 hl rfl (nI_1 n) (by decide) rfl (fun ls hl => ?_)
            refine lv_goto (tgt := 14) hx hb dX7_minute_89 (by decide) ?_
            exact ih (n + 1) (by omega) (RC_miS rz hg6) h6 _ _ _ (by rw [miN, miS, if_pos c_30, if_pos hbk]; exact hM) hS ((by rw [pbN, pbS, if_pos ⟨c_30, hbk⟩]; exact lv_sub hl [2, 1, 0] rfl))
          · skip
            refine lv_goto (tgt := 86) hx hb dX7_minute_73 (by decide) ?_
            have hbk : ¬ brkM (gXo (psN (gTm D) 1 n)) n 1 = true := by unfold brkM; intro z; rw [Bool.and_eq_true] at z; exact c_70 ((rbrk rz hg6).trans (of_decide_eq_true z.1))
            refine lv_iinc (k := 2) (v := nI (n + 1)) (lv' := [(2, _), (0, _), (1, _)]) hx hb dX7_minute_86 hl rfl (nI_1 n) (by decide) rfl (fun ls hl => ?_)
            refine lv_goto (tgt := 14) hx hb dX7_minute_89 (by decide) ?_
            exact ih (n + 1) (by omega) (RC_miS rz hg6) h6 _ _ _ (by rw [miN, miS, if_pos c_30, if_neg hbk]; exact hM) hS ((by rw [pbN, pbS, if_neg (fun z => hbk z.2), Int32.add_zero]; exact lv_sub hl [1, 2, 0] rfl))
      · skip
        refine lv_goto (tgt := 86) hx hb dX7_minute_33 (by decide) ?_
        refine lv_iinc (k := 2) (v := nI (n + 1)) (lv' := [(2, _), (0, _), (1, _)]) hx hb dX7_minute_86 hl rfl (nI_1 n) (by decide) rfl (fun ls hl => ?_)
        refine lv_goto (tgt := 14) hx hb dX7_minute_89 (by decide) ?_
        exact ih (n + 1) (by omega) (RC_miS rz hg6) h6 _ _ _ (by rw [miN, miS, if_neg c_30]; exact hM) hS ((by rw [pbN, pbS, if_neg (fun z => c_30 z.1), Int32.add_zero]; exact lv_sub hl [1, 2, 0] rfl))

theorem inB_pos {x : Int32} (h : inB x 1 600 = true) : ∃ m : Nat, m < 2 ^ 31 ∧ x = nI m := by
  unfold inB at h
  rw [Bool.and_eq_true] at h
  have h1 : ¬ x < 1 := by simpa using h.1
  have h0 : ¬ x < 0 := fun z => h1 (by rw [Int32.lt_iff_toInt_lt] at *; rw [show (0 : Int32).toInt = 0 from rfl] at z; rw [show (1 : Int32).toInt = 1 from rfl]; omega)
  obtain ⟨j, hj, e⟩ := nI_of h0
  exact ⟨j, hj, e⟩
set_option maxHeartbeats 1500000 in
set_option maxRecDepth 100000 in
theorem m_pass {l : Launch} (hfl : l.stackTraces = false) (Γ : Gm) (K : Nat → Nat → Nat) (M : Mem) (x : Int32) (D : Mem) (w : Wf D) (r : RC D M) : CT l Γ (gFree Γ) yX7_pass (wsO yX7_pass cX7_pass 4 (some .int)) 7 [.ref (K 7 0), .int x] K M (DD True (some (.int (if rPass D x = 0 then itC D (ix x) else 0))) K (if rPass D x = 0 then itR D (sT M 7 19 0 0) (ix x) else sT M 7 19 0 (thI (rPass D x)))) xNo 0 0 := by
  refine ct_intro hfl (by decide) (Nat.le_of_ble_eq_true rfl) ?_
  intro p e s m args below meth c C ht hr hnm hM ls hl
  have hx := C.1
  have hb := C.2.1
  have hS : va_S (gFree Γ) s.heap s.heap [] := va_S.rf
  have hl : lv_has ls 4 [(0, .ref (K 7 0)), (1, .int x)] := hl
  have r70 := r7 r
  have rn0 := fun k h1 h2 => rn r k h1 h2
  have hb4 := wn4 w
  have hb0 := wn0 w
  have hb2 := wn2 w
  have hb3 := wn3 w
  refine lv_aload_n hx hb dX7_pass_0 rfl (lv_at hl 0 rfl) ?_
  refine lv_iload_n hx hb dX7_pass_1 rfl (lv_at hl 1 rfl) ?_
  refine lv_iconst (v := 1) hx hb dX7_pass_2 (by decide) ?_
  refine lv_sipush (v := 600) hx hb dX7_pass_3 (by decide) ?_
  refine g_cS C hS (fun _ h => h) hM hl (fun _ h => h.elim) (m_in hfl Γ _ _ _ _ _) kX7_in t_1399 dX7_pass_6 rfl rfl (Nat.le_of_ble_eq_true rfl) (by decide) rfl ⟨by decide, by decide⟩ xNo_goes (fun H locs hc_6 hM hS => ?_)
  refine g_cV C hS (fun _ h => h) hM hl (fun _ h => h) (m_checked hfl Γ _ _ _ r70) kX7_checked t_1402 (HM.recv C hM clo_7 r70) dX7_pass_9 rfl rfl (Nat.le_of_ble_eq_true rfl) (by decide) rfl ⟨by decide, by decide⟩ xNo_goes (fun H locs hc_9 hM hS => ?_)
  refine g_ifleN (tgt := 17) hx hb dX7_pass_12 (by decide) (fun c_12 => ?_) (fun c_12 => ?_)
  · skip
    replace r : RC D (sT M 7 19 0 (bI (!inB x 1 600))) := r
    have hin : inB x 1 600 = true := by simpa using c_12
    obtain ⟨m9, hm1, hm2⟩ := inB_pos hin
    refine lv_iconst (v := 0) hx hb dX7_pass_17 (by decide) ?_
    refine lv_istore_n (lv' := [(2, _), (0, _), (1, _)]) hx hb dX7_pass_18 rfl hl (by decide) rfl (fun ls hl => ?_)
    refine lv_iconst (v := 0) hx hb dX7_pass_19 (by decide) ?_
    refine lv_istore_n (lv' := [(3, _), (2, _), (0, _), (1, _)]) hx hb dX7_pass_20 rfl hl (by decide) rfl (fun ls hl => ?_)
    suffices K21 : ∀ (n9 : Nat) (n : Nat), m9 - n < n9 → (n ≤ m9) → ∀ (H : Heap) (locs : List Loc) (ls : Array Slot), HM Γ K (itR D (sT M 7 19 0 (bI (!inB x 1 600))) n) H → va_S (gFree Γ) s.heap H locs → lv_has ls 4 [(0, .ref (K 7 0)), (1, .int x), (2, .int (itC D n)), (3, .int (nI n))] → W p l e (rmL 7 0 0) s m args below meth c H locs 0 0 (vx_MQ below (cQ Γ (gFree Γ) (DD True (some (.int (if rPass D x = 0 then itC D (ix x) else 0))) K (if rPass D x = 0 then itR D (sT M 7 19 0 0) (ix x) else sT M 7 19 0 (thI (rPass D x))))) (cX Γ (gFree Γ) K M xNo) args s 0 0 (gFree Γ)) (F0 m 21 ls []) by
      exact K21 _ 0 (Nat.lt_succ_self _) (Nat.zero_le _) _ _ _ hM hS (lv_sub hl [2, 3, 1, 0] rfl)
    intro n9
    induction n9 with
    | zero => intro n h9; exact absurd h9 (Nat.not_lt_zero _)
    | succ n9 ih =>
      intro n h9 hn H locs ls hM hS hl
      have rz : RC (itD D n) (itR D (sT M 7 19 0 (bI (!inB x 1 600))) n) := RC_it r n
      refine lv_iload_n hx hb dX7_pass_21 rfl (lv_at hl 3 rfl) ?_
      refine lv_iload_n hx hb dX7_pass_22 rfl (lv_at hl 1 rfl) ?_
      refine g_icmp_ge (tgt := 39) hx hb dX7_pass_23 (by decide) (fun c_23 => ?_) (fun c_23 => ?_)
      · skip
        refine lv_iload_n hx hb dX7_pass_39 rfl (lv_at hl 2 rfl) ?_
        exact g_iret C hr hM hS dX7_pass_40 (by decide) (by decide) ⟨trivial, by rw [show rPass D x = 0 by simp [rPass, hin], if_pos rfl, hm2, ix_nI hm1, show n = m9 by rw [hm2] at c_23; have := (not_congr (nI_ltI (a := n) (b := m9) (by omega) (by omega))).mp c_23; omega], rfl, by rw [show rPass D x = 0 by simp [rPass, hin], if_pos rfl, show ix x = n by rw [hm2, ix_nI hm1]; rw [hm2] at c_23; have := (not_congr (nI_ltI (a := n) (b := m9) (by omega) (by omega))).mp c_23; omega, hin]; rfl⟩
      · skip
        have h6 : n < m9 := by rw [hm2] at c_23; exact (nI_ltI (by omega) (by omega)).mp c_23
        refine lv_iload_n hx hb dX7_pass_26 rfl (lv_at hl 2 rfl) ?_
        refine lv_aload_n hx hb dX7_pass_27 rfl (lv_at hl 0 rfl) ?_
        refine g_cV C hS (fun _ h => h) hM hl (fun _ h => h) (m_minute hfl Γ _ _ (itD D n) (wf_it w n) rz) kX7_minute t_1406 (HM.recv C hM clo_7 (r7 rz)) dX7_pass_28 rfl rfl (Nat.le_of_ble_eq_true rfl) (by decide) rfl ⟨by decide, by decide⟩ xNo_goes (fun H locs hc_28 hM hS => ?_)
        refine lv_iadd hx hb dX7_pass_31 ?_
        refine lv_istore_n (lv' := [(2, _), (0, _), (1, _), (3, _)]) hx hb dX7_pass_32 rfl hl (by decide) rfl (fun ls hl => ?_)
        refine lv_iinc (k := 3) (v := nI (n + 1)) (lv' := [(3, _), (2, _), (0, _), (1, _)]) hx hb dX7_pass_33 hl rfl (nI_1 n) (by decide) rfl (fun ls hl => ?_)
        refine lv_goto (tgt := 21) hx hb dX7_pass_36 (by decide) ?_
        exact ih (n + 1) (by omega) h6 _ _ _ hM hS (lv_sub hl [2, 3, 1, 0] rfl)
  · skip
    refine lv_iconst (v := 0) hx hb dX7_pass_15 (by decide) ?_
    exact g_iret C hr hM hS dX7_pass_16 (by decide) (by decide) ⟨trivial, by simp [rPass, c_12], rfl, by simp [rPass, thI, bI, c_12]⟩

