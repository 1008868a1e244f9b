theorem law_more {t n : Nat} (h : 6 * t ≤ 3072) (hn : n ≤ 3072) (c : ¬ nI n - 6 < nI (6 * t)) : 6 * t + 6 ≤ n := by
  rw [Int32.lt_iff_toInt_lt, nI_toInt (by omega)] at c
  by_cases h6 : 6 ≤ n
  · rw [show nI n - 6 = nI (n - 6) from by rw [show n = (n - 6) + 6 by omega, ← nI_add]; exact Int32.add_sub_cancel _ _] at c
    rw [nI_toInt (by omega)] at c
    omega
  · exfalso
    apply c
    match n, h6 with
    | 0, _ => exact Int.lt_of_lt_of_le (b := 0) (by decide) (Int.natCast_nonneg _)
    | 1, _ => exact Int.lt_of_lt_of_le (b := 0) (by decide) (Int.natCast_nonneg _)
    | 2, _ => exact Int.lt_of_lt_of_le (b := 0) (by decide) (Int.natCast_nonneg _)
    | 3, _ => exact Int.lt_of_lt_of_le (b := 0) (by decide) (Int.natCast_nonneg _)
    | 4, _ => exact Int.lt_of_lt_of_le (b := 0) (by decide) (Int.natCast_nonneg _)
    | 5, _ => exact Int.lt_of_lt_of_le (b := 0) (by decide) (Int.natCast_nonneg _)
    | n + 6, h => exact absurd (by omega) h
set_option maxHeartbeats 8000000 in
set_option maxRecDepth 100000 in
theorem law_loop {l : Launch} (hfl : l.stackTraces = false) {Γ : Gm} {p : Program} {e : Env} {R : Room} {s : State} {m : MethodId} {args : Array Value} {below : List Frame} {meth : Method} {c : Code} {Q : State → Prop} {a0 n : Nat} {f : Nat → Int32}
    (C : Cx Γ p l s m args meth c cL_law 9 RL) (hRm : RmL R) (hin : InA s a0 n f) (ha0 : a0 < gB Γ) (hn : n ≤ 3072)
    (hend : ∀ (H : Heap) (locs : List Loc) (cells slots : Nat) (ls : Array Slot), va_S (gFree Γ) s.heap H locs → cells ≤ R.cells → slots ≤ R.slots → ls.size = 9 → W p l e R s m args below meth c H locs cells slots Q (F0 m 2503 ls [])) :
    ∀ (n9 t : Nat), 513 - t < n9 → t ≤ 512 → 6 * t ≤ n → ∀ (K : Nat → Nat → Nat) (M : Mem) (H : Heap) (locs : List Loc) (ls : Array Slot) (cells slots : Nat), INV t M → HM Γ K M H → va_S (gFree Γ) s.heap H locs → lv_has ls 9 (LV K a0 (6 * t)) → cells + (512 - t) * 1100 ≤ R.cells → slots + (512 - t) * 14000 ≤ R.slots → W p l e R s m args below meth c H locs cells slots Q (F0 m 28 ls []) := by
  have hx := C.1
  have hb := C.2.1
  intro n9
  induction n9 with
  | zero => intro t h; exact absurd h (Nat.not_lt_zero _)
  | succ n9 ih =>
    intro t h9 ht h6 K M H locs ls cells slots I hM hS hl hc hs
    refine lv_iload hx hb dL_law_28 (lv_at hl 5 rfl) ?_
    refine lv_aload_n hx hb dL_law_30 rfl (lv_at hl 0 rfl) ?_
    refine va_slen hx hb hin.1 hin.2 (Nat.not_le.mpr ha0) hS dL_law_31 ?_
    refine lv_bipush (v := 6) hx hb dL_law_32 (by decide) ?_
    refine lv_isub hx hb dL_law_34 ?_
    refine lv_icmp_gt (tgt := 2503) hx hb dL_law_35 (by decide) (fun c_35 => hend _ _ _ _ _ hS (by omega) (by omega) hl.1) (fun c_35 => ?_)
    have hi6 : 6 * t + 6 ≤ n := law_more (by omega) (by omega) c_35
    have ht2 : t < 512 := by omega
    refine lv_aload_n hx hb dL_law_38 rfl (lv_at hl 0 rfl) ?_
    refine lv_iload hx hb dL_law_39 (lv_at hl 5 rfl) ?_
    refine g_inp (i := 6 * t) (j := 0) C hin ha0 hS rfl (by omega) hn dL_law_41 ?_
    refine lv_bipush (v := 63) hx hb dL_law_42 (by decide) ?_
    refine lv_iand hx hb dL_law_44 ?_
    generalize f (6 * t + 0) &&& 63 = x
    have next : ∀ (M2 : Mem) (mc ms : Nat), mc ≤ 1100 → ms ≤ 14000 → INV (t + 1) M2 → ∀ (K1 : Nat → Nat → Nat) (H1 : Heap) (locs1 : List Loc) (ls1 : Array Slot), HM Γ K1 M2 H1 → va_S (gFree Γ) s.heap H1 locs1 → lv_has ls1 9 (LV K1 a0 (6 * t)) → W p l e R s m args below meth c H1 locs1 (cells + mc) (slots + ms) Q (F0 m 2497 ls1 []) := by
      intro M2 mc ms hmc hms I2 K1 H1 locs1 ls1 hM1 hS1 hl1
      refine lv_iinc (k := 5) (v := nI (6 * (t + 1))) (lv' := [(5, _), (0, _), (1, _), (2, _), (3, _), (4, _)]) hx hb dL_law_2497 hl1 rfl (nI_add (6 * t) 6) (by decide) rfl (fun ls hl => ?_)
      refine lv_goto (tgt := 28) hx hb dL_law_2500 (by decide) ?_
      exact ih (t + 1) (by omega) (by omega) (by omega) K1 M2 _ _ _ _ _ I2 hM1 hS1 (lv_sub hl [1, 2, 3, 4, 5, 0] rfl) (by omega) (by omega)
    have w := I.wf
    have r := I.rc
    have n7 := I.n7
    have h39 := I.n39
    have h40 := I.n40
    have hrm : ∀ a b, a ≤ 1100 → b ≤ 14000 → cells + a ≤ R.cells ∧ slots + b ≤ R.slots := fun a b ha hb => ⟨by have : 1 ≤ 512 - t := by {omega}; have := Nat.mul_le_mul_right 1100 this; omega, by have : 1 ≤ 512 - t := by {omega}; have := Nat.mul_le_mul_right 14000 this; omega⟩
    by_cases hlo : x.toInt < 0
    · refine lv_tableOut (tgt := 2497) hx hb dL_law_45 (Or.inl hlo) (by decide) ?_
      exact next M 0 0 (by decide) (by decide) (inv_up I) K H locs ls hM hS hl
    by_cases hhi : 41 < x.toInt
    · refine lv_tableOut (tgt := 2497) hx hb dL_law_45 (Or.inr hhi) (by decide) ?_
      exact next M 0 0 (by decide) (by decide) (inv_up I) K H locs ls hM hS hl
    obtain ⟨j, hj, hxj⟩ : ∃ j : Nat, j ≤ 41 ∧ x.toInt = (j : Int) := ⟨x.toInt.toNat, by omega, by omega⟩
    match j, hj with
    | 0, _ =>
      refine lv_tableIn (tgt := 228) hx hb dL_law_45 hlo hhi (by rw [hxj]; rfl) (by decide) ?_
      obtain ⟨p0, hR, h71, h72, h73, hr9, hthr, hval, I2⟩ := pu_0 I ht2 (f (6 * t + 1)) _ _ rfl rfl
      exact arm_0 hfl C hRm hin ha0 hi6 hn hM hS hl w n7 h39 h40 p0 _ _ rfl rfl hR  h71 h72 h73 hr9 hthr hval (hrm 2 12 (by decide) (by decide)) (hrm 2 12 (by decide) (by decide)) (next _ 2 12 (by decide) (by decide) I2)
    | 1, _ =>
      refine lv_tableIn (tgt := 284) hx hb dL_law_45 hlo hhi (by rw [hxj]; rfl) (by decide) ?_
      have I2 := pu_1 I ht2
      exact arm_1 hfl C hRm hin ha0 hi6 hn hM hS hl w n7 h39 h40 r  (hrm 0 0 (by decide) (by decide)) (next _ 0 0 (by decide) (by decide) I2)
    | 2, _ =>
      refine lv_tableIn (tgt := 297) hx hb dL_law_45 hlo hhi (by rw [hxj]; rfl) (by decide) ?_
      obtain ⟨p0, hR, h71, h72, h73, hr9, hthr, hval, I2⟩ := pu_2 I ht2 (f (6 * t + 1)) (f (6 * t + 2)) _ _ rfl rfl
      exact arm_2 hfl C hRm hin ha0 hi6 hn hM hS hl w n7 h39 h40 p0 _ _ rfl rfl hR  h71 h72 h73 hr9 hthr hval (hrm 2 12 (by decide) (by decide)) (hrm 2 12 (by decide) (by decide)) (next _ 2 12 (by decide) (by decide) I2)
    | 3, _ =>
      refine lv_tableIn (tgt := 365) hx hb dL_law_45 hlo hhi (by rw [hxj]; rfl) (by decide) ?_
      obtain ⟨p0, hR, h71, h72, h73, hr9, hthr, hval, I2⟩ := pu_3 I ht2 (f (6 * t + 1)) (f (6 * t + 2)) _ _ rfl rfl
      exact arm_3 hfl C hRm hin ha0 hi6 hn hM hS hl w n7 h39 h40 p0 _ _ rfl rfl hR  h71 h72 h73 hr9 hthr hval (hrm 2 12 (by decide) (by decide)) (hrm 2 12 (by decide) (by decide)) (next _ 2 12 (by decide) (by decide) I2)
    | 4, _ =>
      refine lv_tableIn (tgt := 433) hx hb dL_law_45 hlo hhi (by rw [hxj]; rfl) (by decide) ?_
      obtain ⟨p0, p1, p2, hR, h71, h72, h73, hr9, hthr, hval, I2⟩ := pu_4 I ht2 (f (6 * t + 1)) (f (6 * t + 2)) (f (6 * t + 3)) (f (6 * t + 4)) (f (6 * t + 5)) _ _ rfl rfl
      exact arm_4 hfl C hRm hin ha0 hi6 hn hM hS hl w n7 h39 h40 p0 p1 p2 _ _ rfl rfl hR  h71 h72 h73 hr9 hthr hval (hrm 10 600 (by decide) (by decide)) (hrm 10 600 (by decide) (by decide)) (next _ 10 600 (by decide) (by decide) I2)
    | 5, _ =>
      refine lv_tableIn (tgt := 537) hx hb dL_law_45 hlo hhi (by rw [hxj]; rfl) (by decide) ?_
      obtain ⟨p0, hR, h71, h72, h73, hr9, hthr, hval, I2⟩ := pu_5 I ht2 (f (6 * t + 1)) _ _ rfl rfl
      exact arm_5 hfl C hRm hin ha0 hi6 hn hM hS hl w n7 h39 h40 p0 _ _ rfl rfl hR  h71 h72 h73 hr9 hthr hval (hrm 2 12 (by decide) (by decide)) (hrm 2 12 (by decide) (by decide)) (next _ 2 12 (by decide) (by decide) I2)
    | 6, _ =>
      refine lv_tableIn (tgt := 593) hx hb dL_law_45 hlo hhi (by rw [hxj]; rfl) (by decide) ?_
      have I2 := pu_6 I ht2
      exact arm_6 hfl C hRm hin ha0 hi6 hn hM hS hl w n7 h39 h40 r  (hrm 0 0 (by decide) (by decide)) (next _ 0 0 (by decide) (by decide) I2)
    | 7, _ =>
      refine lv_tableIn (tgt := 606) hx hb dL_law_45 hlo hhi (by rw [hxj]; rfl) (by decide) ?_
      obtain ⟨p0, hR, h71, h72, h73, hr9, hthr, hval, I2⟩ := pu_7 I ht2 (f (6 * t + 1)) _ _ rfl rfl
      exact arm_7 hfl C hRm hin ha0 hi6 hn hM hS hl w n7 h39 h40 p0 _ _ rfl rfl hR  h71 h72 h73 hr9 hthr hval (hrm 2 12 (by decide) (by decide)) (hrm 2 12 (by decide) (by decide)) (next _ 2 12 (by decide) (by decide) I2)
    | 8, _ =>
      refine lv_tableIn (tgt := 662) hx hb dL_law_45 hlo hhi (by rw [hxj]; rfl) (by decide) ?_
      obtain ⟨p0, hR, q0, h71, h72, h73, hr9, hthr, hval, I2⟩ := pu_8 I ht2 (f (6 * t + 1)) (f (6 * t + 2)) _ _ rfl rfl
      exact arm_8 hfl C hRm hin ha0 hi6 hn hM hS hl w n7 h39 h40 p0 _ _ rfl rfl hR q0 h71 h72 h73 hr9 hthr hval (hrm 2 12 (by decide) (by decide)) (hrm 2 12 (by decide) (by decide)) (next _ 2 12 (by decide) (by decide) I2)
    | 9, _ =>
      refine lv_tableIn (tgt := 730) hx hb dL_law_45 hlo hhi (by rw [hxj]; rfl) (by decide) ?_
      have I2 := pu_9 I ht2
      exact arm_9 hfl C hRm hin ha0 hi6 hn hM hS hl w n7 h39 h40 r  (hrm 0 0 (by decide) (by decide)) (next _ 0 0 (by decide) (by decide) I2)
    | 10, _ =>
      refine lv_tableIn (tgt := 743) hx hb dL_law_45 hlo hhi (by rw [hxj]; rfl) (by decide) ?_
      obtain ⟨p0, p1, hR, q0, h71, h72, h73, hr9, hthr, hval, I2⟩ := pu_10 I ht2 (f (6 * t + 1)) _ _ rfl rfl
      exact arm_10 hfl C hRm hin ha0 hi6 hn hM hS hl w n7 h39 h40 p0 p1 _ _ rfl rfl hR q0 h71 h72 h73 hr9 hthr hval (hrm 2 12 (by decide) (by decide)) (hrm 2 12 (by decide) (by decide)) (next _ 2 12 (by decide) (by decide) I2)
    | 11, _ =>
      refine lv_tableIn (tgt := 799) hx hb dL_law_45 hlo hhi (by rw [hxj]; rfl) (by decide) ?_
      obtain ⟨rk, p0, p1, hall⟩ := pu_11 I ht2 (f (6 * t + 1))
      obtain ⟨hR, h71, h72, h73, hr9, hthr, hval, I2⟩ := hall _ _ rfl rfl
      exact arm_11 hfl C hRm hin ha0 hi6 hn hM hS hl w n7 h39 h40 rk p0 p1 _ _ rfl rfl hR  h71 h72 h73 hr9 hthr hval (hrm 2 12 (by decide) (by decide)) (hrm 2 12 (by decide) (by decide)) (next _ 2 12 (by decide) (by decide) I2)
    | 12, _ =>
      refine lv_tableIn (tgt := 855) hx hb dL_law_45 hlo hhi (by rw [hxj]; rfl) (by decide) ?_
      obtain ⟨p0, hR, h71, h72, h73, hr9, hthr, hval, I2⟩ := pu_12 I ht2 (f (6 * t + 1)) (f (6 * t + 2)) _ _ rfl rfl
      exact arm_12 hfl C hRm hin ha0 hi6 hn hM hS hl w n7 h39 h40 p0 _ _ rfl rfl hR  h71 h72 h73 hr9 hthr hval (hrm 3 140 (by decide) (by decide)) (hrm 3 140 (by decide) (by decide)) (next _ 3 140 (by decide) (by decide) I2)
    | 13, _ =>
      refine lv_tableIn (tgt := 923) hx hb dL_law_45 hlo hhi (by rw [hxj]; rfl) (by decide) ?_
      obtain ⟨p0, hR, h71, h72, h73, hr9, hthr, hval, I2⟩ := pu_13 I ht2 (f (6 * t + 1)) _ _ rfl rfl
      exact arm_13 hfl C hRm hin ha0 hi6 hn hM hS hl w n7 h39 h40 p0 _ _ rfl rfl hR  h71 h72 h73 hr9 hthr hval (hrm 2 12 (by decide) (by decide)) (hrm 2 12 (by decide) (by decide)) (next _ 2 12 (by decide) (by decide) I2)
    | 14, _ =>
      refine lv_tableIn (tgt := 979) hx hb dL_law_45 hlo hhi (by rw [hxj]; rfl) (by decide) ?_
      obtain ⟨p0, hR, h71, h72, h73, hr9, hthr, hval, I2⟩ := pu_14 I ht2 (f (6 * t + 1)) _ _ rfl rfl
      exact arm_14 hfl C hRm hin ha0 hi6 hn hM hS hl w n7 h39 h40 p0 _ _ rfl rfl hR  h71 h72 h73 hr9 hthr hval (hrm 2 12 (by decide) (by decide)) (hrm 2 12 (by decide) (by decide)) (next _ 2 12 (by decide) (by decide) I2)
    | 15, _ =>
      refine lv_tableIn (tgt := 1035) hx hb dL_law_45 hlo hhi (by rw [hxj]; rfl) (by decide) ?_
      obtain ⟨p0, hR, h71, h72, h73, hr9, hthr, hval, I2⟩ := pu_15 I ht2 (f (6 * t + 1)) _ _ rfl rfl
      exact arm_15 hfl C hRm hin ha0 hi6 hn hM hS hl w n7 h39 h40 p0 _ _ rfl rfl hR  h71 h72 h73 hr9 hthr hval (hrm 2 12 (by decide) (by decide)) (hrm 2 12 (by decide) (by decide)) (next _ 2 12 (by decide) (by decide) I2)
    | 16, _ =>
      refine lv_tableIn (tgt := 1098) hx hb dL_law_45 hlo hhi (by rw [hxj]; rfl) (by decide) ?_
      obtain ⟨p0, p1, hR, h71, h72, h73, hr9, hthr, hval, I2⟩ := pu_16 I ht2 (f (6 * t + 1)) _ _ rfl rfl
      exact arm_16 hfl C hRm hin ha0 hi6 hn hM hS hl w n7 h39 h40 p0 p1 _ _ rfl rfl hR  h71 h72 h73 hr9 hthr hval (hrm 3 140 (by decide) (by decide)) (hrm 3 140 (by decide) (by decide)) (next _ 3 140 (by decide) (by decide) I2)
    | 17, _ =>
      refine lv_tableIn (tgt := 1154) hx hb dL_law_45 hlo hhi (by rw [hxj]; rfl) (by decide) ?_
      obtain ⟨p0, hR, h71, h72, h73, hr9, hthr, hval, I2⟩ := pu_17 I ht2 (f (6 * t + 1)) (f (6 * t + 2)) _ _ rfl rfl
      exact arm_17 hfl C hRm hin ha0 hi6 hn hM hS hl w n7 h39 h40 p0 _ _ rfl rfl hR  h71 h72 h73 hr9 hthr hval (hrm 3 20 (by decide) (by decide)) (hrm 3 20 (by decide) (by decide)) (next _ 3 20 (by decide) (by decide) I2)
    | 18, _ =>
      refine lv_tableIn (tgt := 1222) hx hb dL_law_45 hlo hhi (by rw [hxj]; rfl) (by decide) ?_
      obtain ⟨p0, p1, p2, hR, q0, h71, h72, h73, hr9, hthr, hval, I2⟩ := pu_18 I ht2 (f (6 * t + 1)) (f (6 * t + 2)) _ _ rfl rfl
      exact arm_18 hfl C hRm hin ha0 hi6 hn hM hS hl w n7 h39 h40 p0 p1 p2 _ _ rfl rfl hR q0 h71 h72 h73 hr9 hthr hval (hrm 42 4820 (by decide) (by decide)) (hrm 42 4820 (by decide) (by decide)) (next _ 42 4820 (by decide) (by decide) I2)
    | 19, _ =>
      refine lv_tableIn (tgt := 1313) hx hb dL_law_45 hlo hhi (by rw [hxj]; rfl) (by decide) ?_
      obtain ⟨p0, hR, h71, h72, h73, hr9, hthr, hval, I2⟩ := pu_19 I ht2 (f (6 * t + 1)) _ _ rfl rfl
      exact arm_19 hfl C hRm hin ha0 hi6 hn hM hS hl w n7 h39 h40 p0 _ _ rfl rfl hR  h71 h72 h73 hr9 hthr hval (hrm 2 12 (by decide) (by decide)) (hrm 2 12 (by decide) (by decide)) (next _ 2 12 (by decide) (by decide) I2)
    | 20, _ =>
      refine lv_tableIn (tgt := 1369) hx hb dL_law_45 hlo hhi (by rw [hxj]; rfl) (by decide) ?_
      obtain ⟨p0, hR, h71, h72, h73, hr9, hthr, hval, I2⟩ := pu_20 I ht2 (f (6 * t + 1)) _ _ rfl rfl
      exact arm_20 hfl C hRm hin ha0 hi6 hn hM hS hl w n7 h39 h40 p0 _ _ rfl rfl hR  h71 h72 h73 hr9 hthr hval (hrm 2 12 (by decide) (by decide)) (hrm 2 12 (by decide) (by decide)) (next _ 2 12 (by decide) (by decide) I2)
    | 21, _ =>
      refine lv_tableIn (tgt := 1425) hx hb dL_law_45 hlo hhi (by rw [hxj]; rfl) (by decide) ?_
      obtain ⟨p0, hR, h71, h72, h73, hr9, hthr, hval, I2⟩ := pu_21 I ht2 (f (6 * t + 1)) _ _ rfl rfl
      exact arm_21 hfl C hRm hin ha0 hi6 hn hM hS hl w n7 h39 h40 p0 _ _ rfl rfl hR  h71 h72 h73 hr9 hthr hval (hrm 2 12 (by decide) (by decide)) (hrm 2 12 (by decide) (by decide)) (next _ 2 12 (by decide) (by decide) I2)
    | 22, _ =>
      refine lv_tableIn (tgt := 1481) hx hb dL_law_45 hlo hhi (by rw [hxj]; rfl) (by decide) ?_
      obtain ⟨p0, hR, h71, h72, h73, hr9, hthr, hval, I2⟩ := pu_22 I ht2 (f (6 * t + 1)) _ _ rfl rfl
      exact arm_22 hfl C hRm hin ha0 hi6 hn hM hS hl w n7 h39 h40 p0 _ _ rfl rfl hR  h71 h72 h73 hr9 hthr hval (hrm 2 12 (by decide) (by decide)) (hrm 2 12 (by decide) (by decide)) (next _ 2 12 (by decide) (by decide) I2)
    | 23, _ =>
      refine lv_tableIn (tgt := 1537) hx hb dL_law_45 hlo hhi (by rw [hxj]; rfl) (by decide) ?_
      obtain ⟨p0, hR, h71, h72, h73, hr9, hthr, hval, I2⟩ := pu_23 I ht2 (f (6 * t + 1)) _ _ rfl rfl
      exact arm_23 hfl C hRm hin ha0 hi6 hn hM hS hl w n7 h39 h40 p0 _ _ rfl rfl hR  h71 h72 h73 hr9 hthr hval (hrm 2 12 (by decide) (by decide)) (hrm 2 12 (by decide) (by decide)) (next _ 2 12 (by decide) (by decide) I2)
    | 24, _ =>
      refine lv_tableIn (tgt := 1593) hx hb dL_law_45 hlo hhi (by rw [hxj]; rfl) (by decide) ?_
      obtain ⟨p0, hR, h71, h72, h73, hr9, hthr, hval, I2⟩ := pu_24 I ht2 (f (6 * t + 1)) _ _ rfl rfl
      exact arm_24 hfl C hRm hin ha0 hi6 hn hM hS hl w n7 h39 h40 p0 _ _ rfl rfl hR  h71 h72 h73 hr9 hthr hval (hrm 2 12 (by decide) (by decide)) (hrm 2 12 (by decide) (by decide)) (next _ 2 12 (by decide) (by decide) I2)
    | 25, _ =>
      refine lv_tableIn (tgt := 1649) hx hb dL_law_45 hlo hhi (by rw [hxj]; rfl) (by decide) ?_
      obtain ⟨p0, hR, h71, h72, h73, hr9, hthr, hval, I2⟩ := pu_25 I ht2 (f (6 * t + 1)) (f (6 * t + 2)) _ _ rfl rfl
      exact arm_25 hfl C hRm hin ha0 hi6 hn hM hS hl w n7 h39 h40 p0 _ _ rfl rfl hR  h71 h72 h73 hr9 hthr hval (hrm 3 20 (by decide) (by decide)) (hrm 3 20 (by decide) (by decide)) (next _ 3 20 (by decide) (by decide) I2)
    | 26, _ =>
      refine lv_tableIn (tgt := 1717) hx hb dL_law_45 hlo hhi (by rw [hxj]; rfl) (by decide) ?_
      obtain ⟨p0, hR, h71, h72, h73, hr9, hthr, hval, I2⟩ := pu_26 I ht2 (f (6 * t + 1)) _ _ rfl rfl
      exact arm_26 hfl C hRm hin ha0 hi6 hn hM hS hl w n7 h39 h40 p0 _ _ rfl rfl hR  h71 h72 h73 hr9 hthr hval (hrm 2 130 (by decide) (by decide)) (hrm 2 130 (by decide) (by decide)) (next _ 2 130 (by decide) (by decide) I2)
    | 27, _ =>
      refine lv_tableIn (tgt := 1773) hx hb dL_law_45 hlo hhi (by rw [hxj]; rfl) (by decide) ?_
      obtain ⟨p0, hR, h71, h72, h73, hr9, hthr, hval, I2⟩ := pu_27 I ht2 (f (6 * t + 1)) _ _ rfl rfl
      exact arm_27 hfl C hRm hin ha0 hi6 hn hM hS hl w n7 h39 h40 p0 _ _ rfl rfl hR  h71 h72 h73 hr9 hthr hval (hrm 2 12 (by decide) (by decide)) (hrm 2 12 (by decide) (by decide)) (next _ 2 12 (by decide) (by decide) I2)
    | 28, _ =>
      refine lv_tableIn (tgt := 1829) hx hb dL_law_45 hlo hhi (by rw [hxj]; rfl) (by decide) ?_
      obtain ⟨p0, hR, h71, h72, h73, hr9, hthr, hval, I2⟩ := pu_28 I ht2 (f (6 * t + 1)) _ _ rfl rfl
      exact arm_28 hfl C hRm hin ha0 hi6 hn hM hS hl w n7 h39 h40 p0 _ _ rfl rfl hR  h71 h72 h73 hr9 hthr hval (hrm 2 130 (by decide) (by decide)) (hrm 2 130 (by decide) (by decide)) (next _ 2 130 (by decide) (by decide) I2)
    | 29, _ =>
      refine lv_tableIn (tgt := 1885) hx hb dL_law_45 hlo hhi (by rw [hxj]; rfl) (by decide) ?_
      obtain ⟨p0, hR, h71, h72, h73, hr9, hthr, hval, I2⟩ := pu_29 I ht2 (f (6 * t + 1)) (f (6 * t + 2)) _ _ rfl rfl
      exact arm_29 hfl C hRm hin ha0 hi6 hn hM hS hl w n7 h39 h40 p0 _ _ rfl rfl hR  h71 h72 h73 hr9 hthr hval (hrm 3 20 (by decide) (by decide)) (hrm 3 20 (by decide) (by decide)) (next _ 3 20 (by decide) (by decide) I2)
    | 30, _ =>
      refine lv_tableIn (tgt := 1953) hx hb dL_law_45 hlo hhi (by rw [hxj]; rfl) (by decide) ?_
      obtain ⟨p0, hR, h71, h72, h73, hr9, hthr, hval, I2⟩ := pu_30 I ht2 (f (6 * t + 1)) _ _ rfl rfl
      exact arm_30 hfl C hRm hin ha0 hi6 hn hM hS hl w n7 h39 h40 p0 _ _ rfl rfl hR  h71 h72 h73 hr9 hthr hval (hrm 2 12 (by decide) (by decide)) (hrm 2 12 (by decide) (by decide)) (next _ 2 12 (by decide) (by decide) I2)
    | 31, _ =>
      refine lv_tableIn (tgt := 2009) hx hb dL_law_45 hlo hhi (by rw [hxj]; rfl) (by decide) ?_
      obtain ⟨p0, p1, hR, h71, h72, h73, hr9, hthr, hval, I2⟩ := pu_31 I ht2 (f (6 * t + 1)) (f (6 * t + 2)) _ _ rfl rfl
      exact arm_31 hfl C hRm hin ha0 hi6 hn hM hS hl w n7 h39 h40 p0 p1 _ _ rfl rfl hR  h71 h72 h73 hr9 hthr hval (hrm 90 9800 (by decide) (by decide)) (hrm 90 9800 (by decide) (by decide)) (next _ 90 9800 (by decide) (by decide) I2)
    | 32, _ =>
      refine lv_tableIn (tgt := 2077) hx hb dL_law_45 hlo hhi (by rw [hxj]; rfl) (by decide) ?_
      obtain ⟨p0, p1, hR, h71, h72, h73, hr9, hthr, hval, I2⟩ := pu_32 I ht2 (f (6 * t + 1)) _ _ rfl rfl
      exact arm_32 hfl C hRm hin ha0 hi6 hn hM hS hl w n7 h39 h40 p0 p1 _ _ rfl rfl hR  h71 h72 h73 hr9 hthr hval (hrm 4 140 (by decide) (by decide)) (hrm 4 140 (by decide) (by decide)) (next _ 4 140 (by decide) (by decide) I2)
    | 33, _ =>
      refine lv_tableIn (tgt := 2133) hx hb dL_law_45 hlo hhi (by rw [hxj]; rfl) (by decide) ?_
      obtain ⟨p0, hR, h71, h72, h73, hr9, hthr, hval, I2⟩ := pu_33 I ht2 (f (6 * t + 1)) (f (6 * t + 2)) _ _ rfl rfl
      exact arm_33 hfl C hRm hin ha0 hi6 hn hM hS hl w n7 h39 h40 p0 _ _ rfl rfl hR  h71 h72 h73 hr9 hthr hval (hrm 2 12 (by decide) (by decide)) (hrm 2 12 (by decide) (by decide)) (next _ 2 12 (by decide) (by decide) I2)
    | 34, _ =>
      refine lv_tableIn (tgt := 2201) hx hb dL_law_45 hlo hhi (by rw [hxj]; rfl) (by decide) ?_
      obtain ⟨p0, hR, h71, h72, h73, hr9, hthr, hval, I2⟩ := pu_34 I ht2 (f (6 * t + 1)) _ _ rfl rfl
      exact arm_34 hfl C hRm hin ha0 hi6 hn hM hS hl w n7 h39 h40 p0 _ _ rfl rfl hR  h71 h72 h73 hr9 hthr hval (hrm 3 20 (by decide) (by decide)) (hrm 3 20 (by decide) (by decide)) (next _ 3 20 (by decide) (by decide) I2)
    | 35, _ =>
      refine lv_tableIn (tgt := 2257) hx hb dL_law_45 hlo hhi (by rw [hxj]; rfl) (by decide) ?_
      obtain ⟨p0, hR, h71, h72, h73, hr9, hthr, hval, I2⟩ := pu_35 I ht2 (f (6 * t + 1)) _ _ rfl rfl
      exact arm_35 hfl C hRm hin ha0 hi6 hn hM hS hl w n7 h39 h40 p0 _ _ rfl rfl hR  h71 h72 h73 hr9 hthr hval (hrm 3 20 (by decide) (by decide)) (hrm 3 20 (by decide) (by decide)) (next _ 3 20 (by decide) (by decide) I2)
    | 36, _ =>
      refine lv_tableIn (tgt := 2313) hx hb dL_law_45 hlo hhi (by rw [hxj]; rfl) (by decide) ?_
      have I2 := pu_36 I ht2
      exact arm_36 hfl C hRm hin ha0 hi6 hn hM hS hl w n7 h39 h40 r  (hrm 0 0 (by decide) (by decide)) (next _ 0 0 (by decide) (by decide) I2)
    | 37, _ =>
      refine lv_tableIn (tgt := 2326) hx hb dL_law_45 hlo hhi (by rw [hxj]; rfl) (by decide) ?_
      have I2 := pu_37 I ht2
      exact arm_37 hfl C hRm hin ha0 hi6 hn hM hS hl w n7 h39 h40 r  (hrm 0 0 (by decide) (by decide)) (next _ 0 0 (by decide) (by decide) I2)
    | 38, _ =>
      refine lv_tableIn (tgt := 2339) hx hb dL_law_45 hlo hhi (by rw [hxj]; rfl) (by decide) ?_
      have I2 := pu_38 I ht2
      exact arm_38 hfl C hRm hin ha0 hi6 hn hM hS hl w n7 h39 h40 r  (hrm 0 0 (by decide) (by decide)) (next _ 0 0 (by decide) (by decide) I2)
    | 39, _ =>
      refine lv_tableIn (tgt := 2353) hx hb dL_law_45 hlo hhi (by rw [hxj]; rfl) (by decide) ?_
      obtain ⟨p0, hR, q0, h71, h72, h73, hr9, hthr, hval, I2⟩ := pu_39 I ht2  _ _ rfl rfl
      exact arm_39 hfl C hRm hin ha0 hi6 hn hM hS hl w n7 h39 h40 p0 _ _ rfl rfl  q0 h71 h72 h73 hr9 hthr hval (hrm 2 12 (by decide) (by decide)) (hrm 2 12 (by decide) (by decide)) (next _ 2 12 (by decide) (by decide) I2)
    | 40, _ =>
      refine lv_tableIn (tgt := 2419) hx hb dL_law_45 hlo hhi (by rw [hxj]; rfl) (by decide) ?_
      obtain ⟨p0, hR, q0, h71, h72, h73, hr9, hthr, hval, I2⟩ := pu_40 I ht2  _ _ rfl rfl
      exact arm_40 hfl C hRm hin ha0 hi6 hn hM hS hl w n7 h39 h40 p0 _ _ rfl rfl  q0 h71 h72 h73 hr9 hthr hval (hrm 2 12 (by decide) (by decide)) (hrm 2 12 (by decide) (by decide)) (next _ 2 12 (by decide) (by decide) I2)
    | 41, _ =>
      refine lv_tableIn (tgt := 2484) hx hb dL_law_45 hlo hhi (by rw [hxj]; rfl) (by decide) ?_
      obtain ⟨h0, h1, h2, I2⟩ := pu_41 I ht2
      exact arm_41 hfl C hRm hin ha0 hi6 hn hM hS hl w n7 h39 h40 r h0 h1 h2 (hrm 0 0 (by decide) (by decide)) (next _ 0 0 (by decide) (by decide) I2)
    | j + 42, hj => exact absurd hj (by omega)
