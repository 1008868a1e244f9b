section FRET
variable {p : Program} {l : Launch} {e : Env} {R : Room} {s : State} {m : MethodId} {args : Array Value} {below : List Frame} {meth : Method} {c : Code} {H : Heap} {locs : List Loc} {cells slots : Nat} {Q : State → Prop}
variable {cc : ByteArray} {nL : Nat} {own : String} {Γ : Gm} {A : Nat → Prop} {K : Nat → Nat → Nat} {M : Mem} {pc mc ms : Nat} {ls : Array Slot}
theorem g_fret {v : UInt32} {xp : String → Prop} {K0 : Nat → Nat → Nat} {M0 : Mem} {post : Option Value → (Nat → Nat → Nat) → Mem → Prop} (C : Cx Γ p l s m args meth c cc nL own) (hr : meth.sig.returnType = some .float) (hM : HM Γ K M H) (hS : va_S A s.heap H locs) (hdg : decode cc pc = .ok (.freturn, 1)) (hc : cells ≤ mc) (hs : slots ≤ ms) (hp : post (some (.float v)) K M) :
    W p l e R s m args below meth c H locs cells slots (vx_MQ below (cQ Γ A post) (cX Γ A K0 M0 xp) args s mc ms A) (F0 m pc ls [.float v]) :=
  W.widen hc hs (vx_ret (W.fret C.1 C.2.1 hr (fun t ht _ => ⟨⟨_, K, M, rfl, hp, by rw [ht]; exact hM⟩, hS.F ht⟩) hS.2.2 hdg C.2.2.2.2.2.1))
theorem g_dret {v : UInt64} {xp : String → Prop} {K0 : Nat → Nat → Nat} {M0 : Mem} {post : Option Value → (Nat → Nat → Nat) → Mem → Prop} (C : Cx Γ p l s m args meth c cc nL own) (hr : meth.sig.returnType = some .double) (hM : HM Γ K M H) (hS : va_S A s.heap H locs) (hdg : decode cc pc = .ok (.dreturn, 1)) (hc : cells ≤ mc) (hs : slots ≤ ms) (hp : post (some (.double v)) K M) :
    W p l e R s m args below meth c H locs cells slots (vx_MQ below (cQ Γ A post) (cX Γ A K0 M0 xp) args s mc ms A) (F0 m pc ls [.double v]) :=
  W.widen hc hs (vx_ret (W.dret C.1 C.2.1 hr (fun t ht _ => ⟨⟨_, K, M, rfl, hp, by rw [ht]; exact hM⟩, hS.F ht⟩) hS.2.2 hdg C.2.2.2.2.2.1))
end FRET
def rKeptShare (M : Mem) : Nat := if mT M 6 11 0 = 0 then 1 else 0
set_option maxHeartbeats 1500000 in
set_option maxRecDepth 100000 in
theorem c_keptShare {l : Launch} (hfl : l.stackTraces = false) (Γ : Gm) (K : Nat → Nat → Nat) (M : Mem)  (w : Wf M) : CT l Γ (gFree Γ) yX6_keptShare (wsO yX6_keptShare cX6_keptShare 1 (some .float)) 8 [.ref (K 6 0)] K M (DD (rKeptShare M = 0) (some (.float (FP.fdiv (FP.i2f (mT M 6 12 0)) (FP.i2f (mT M 6 11 0))))) K M) (XP ["java/lang/ArithmeticException"] (rKeptShare M)) 2 12 := by
  refine ct_intro hfl (by decide) (Nat.le_of_ble_eq_true rfl) ?_
  intro p e s m args below meth c C ht hr hnm hM ls hl
  have hx := C.1
  have hb := C.2.1
  have hS : va_S (gFree Γ) s.heap s.heap [] := va_S.rf
  have hl : lv_has ls 1 [(0, .ref (K 6 0))] := hl
  refine lv_aload_n hx hb dX6_keptShare_0 rfl (lv_at hl 0 rfl) ?_
  refine g_get C hM clo_6 11 (by decide) (wn6 w) t_110 rfl (v := .int (mT _ 6 11 _)) rfl dX6_keptShare_1 ?_
  refine lv_if_ne (tgt := 18) hx hb dX6_keptShare_4 (by decide) (fun c_4 => ?_) (fun c_4 => ?_)
  · skip
    replace c_4 : mT M 6 11 0 ≠ 0 := c_4
    refine lv_aload_n hx hb dX6_keptShare_18 rfl (lv_at hl 0 rfl) ?_
    refine g_get C hM clo_6 12 (by decide) (wn6 w) t_111 rfl (v := .int (mT _ 6 12 _)) rfl dX6_keptShare_19 ?_
    refine lv_i2f hx hb dX6_keptShare_22 ?_
    refine lv_aload_n hx hb dX6_keptShare_23 rfl (lv_at hl 0 rfl) ?_
    refine g_get C hM clo_6 11 (by decide) (wn6 w) t_110 rfl (v := .int (mT _ 6 11 _)) rfl dX6_keptShare_24 ?_
    refine lv_i2f hx hb dX6_keptShare_27 ?_
    refine lv_fdiv hx hb dX6_keptShare_28 ((share_num c_4).1) ?_
    exact g_fret C hr hM hS dX6_keptShare_29 (by decide) (by decide) ⟨by simp [rKeptShare, c_4], rfl, rfl, rfl⟩
  · skip
    replace c_4 : mT M 6 11 0 = 0 := by first | exact c_4 | exact Decidable.of_not_not c_4
    exact g_throwW C ht (xp_of 0 (by simp [rKeptShare, c_4]) rfl) hM hS (fun _ h => h) hl thr_332 (strX_31) dX6_keptShare_7 dX6_keptShare_10 dX6_keptShare_11 dX6_keptShare_14 dX6_keptShare_17 rfl (Nat.le_of_ble_eq_true rfl) ⟨by decide, by decide⟩ (by decide) (by decide)

def rMeanClock (M : Mem) : Nat := if mT M 6 11 0 = 0 then 1 else 0
set_option maxHeartbeats 1500000 in
set_option maxRecDepth 100000 in
theorem c_meanClock {l : Launch} (hfl : l.stackTraces = false) (Γ : Gm) (K : Nat → Nat → Nat) (M : Mem)  (w : Wf M) : CT l Γ (gFree Γ) yX6_meanClock (wsO yX6_meanClock cX6_meanClock 1 (some .double)) 8 [.ref (K 6 0)] K M (DD (rMeanClock M = 0) (some (.double (FP.ddiv (FP.l2d (mJ M 6 13 0)) (FP.i2d (mT M 6 11 0))))) K M) (XP ["java/lang/ArithmeticException"] (rMeanClock M)) 2 12 := by
  refine ct_intro hfl (by decide) (Nat.le_of_ble_eq_true rfl) ?_
  intro p e s m args below meth c C ht hr hnm hM ls hl
  have hx := C.1
  have hb := C.2.1
  have hS : va_S (gFree Γ) s.heap s.heap [] := va_S.rf
  have hl : lv_has ls 1 [(0, .ref (K 6 0))] := hl
  refine lv_aload_n hx hb dX6_meanClock_0 rfl (lv_at hl 0 rfl) ?_
  refine g_get C hM clo_6 11 (by decide) (wn6 w) t_110 rfl (v := .int (mT _ 6 11 _)) rfl dX6_meanClock_1 ?_
  refine lv_if_ne (tgt := 18) hx hb dX6_meanClock_4 (by decide) (fun c_4 => ?_) (fun c_4 => ?_)
  · skip
    replace c_4 : mT M 6 11 0 ≠ 0 := c_4
    refine lv_aload_n hx hb dX6_meanClock_18 rfl (lv_at hl 0 rfl) ?_
    refine g_get C hM clo_6 13 (by decide) (wn6 w) t_112 rfl (v := .long (mJ _ 6 13 _)) rfl dX6_meanClock_19 ?_
    refine lv_l2d hx hb dX6_meanClock_22 ?_
    refine lv_aload_n hx hb dX6_meanClock_23 rfl (lv_at hl 0 rfl) ?_
    refine g_get C hM clo_6 11 (by decide) (wn6 w) t_110 rfl (v := .int (mT _ 6 11 _)) rfl dX6_meanClock_24 ?_
    refine lv_i2d hx hb dX6_meanClock_27 ?_
    refine lv_ddiv hx hb dX6_meanClock_28 ((mean_num c_4).1) ?_
    exact g_dret C hr hM hS dX6_meanClock_29 (by decide) (by decide) ⟨by simp [rMeanClock, c_4], rfl, rfl, rfl⟩
  · skip
    replace c_4 : mT M 6 11 0 = 0 := by first | exact c_4 | exact Decidable.of_not_not c_4
    exact g_throwW C ht (xp_of 0 (by simp [rMeanClock, c_4]) rfl) hM hS (fun _ h => h) hl thr_332 (strX_31) dX6_meanClock_7 dX6_meanClock_10 dX6_meanClock_11 dX6_meanClock_14 dX6_meanClock_17 rfl (Nat.le_of_ble_eq_true rfl) ⟨by decide, by decide⟩ (by decide) (by decide)

set_option maxHeartbeats 1500000 in
set_option maxRecDepth 100000 in
theorem m_keptShare {l : Launch} (hfl : l.stackTraces = false) (Γ : Gm) (K : Nat → Nat → Nat) (M : Mem)  (r70 : 0 < mN M 7) : CT l Γ (gFree Γ) yX7_keptShare (wsO yX7_keptShare cX7_keptShare 1 (some .float)) 6 [.ref (K 7 0)] K M (DD True (some (.float (if 0 < mT M 7 26 0 then FP.fdiv (FP.i2f (mT M 7 27 0)) (FP.i2f (mT M 7 26 0)) else 0))) K (sT M 7 19 0 (if 0 < mT M 7 26 0 then 0 else 1))) xNo 0 0 := by
  refine ct_intro hfl (by decide) (Nat.le_of_ble_eq_true rfl) ?_
  intro p e s m args below meth c C ht hr hnm hM ls hl
  have hx := C.1
  have hb := C.2.1
  have hS : va_S (gFree Γ) s.heap s.heap [] := va_S.rf
  have hl : lv_has ls 1 [(0, .ref (K 7 0))] := hl
  refine lv_aload_n hx hb dX7_keptShare_0 rfl (lv_at hl 0 rfl) ?_
  refine lv_aload_n hx hb dX7_keptShare_1 rfl (lv_at hl 0 rfl) ?_
  refine g_get C hM clo_7 26 (by decide) r70 t_1324 rfl (v := .int (mT _ 7 26 _)) rfl dX7_keptShare_2 ?_
  refine g_if_le (tgt := 12) hx hb dX7_keptShare_5 (by decide) (fun c_5 => ?_) (fun c_5 => ?_)
  · skip
    refine lv_iconst (v := 0) hx hb dX7_keptShare_12 (by decide) ?_
    refine g_cV C hS (fun _ h => h) hM hl (fun _ h => h) (m_checked hfl Γ _ _ false r70) kX7_checked t_1402 (HM.recv C hM clo_7 r70) dX7_keptShare_13 rfl rfl (Nat.le_of_ble_eq_true rfl) (by decide) rfl ⟨by decide, by decide⟩ xNo_goes (fun H locs hc_13 hM hS => ?_)
    refine g_if_le (tgt := 23) hx hb dX7_keptShare_16 (by decide) (fun c_16 => ?_) (fun c_16 => ?_)
    · exact absurd (show ¬ (0 : Int32) < 1 from c_16) (by decide)
    · skip
      refine lv_fconst0 hx hb dX7_keptShare_19 ?_
      refine lv_goto (tgt := 34) hx hb dX7_keptShare_20 (by decide) ?_
      exact g_fret C hr hM hS dX7_keptShare_34 (by decide) (by decide) ⟨trivial, by simp [c_5] <;> rfl, rfl, by simp [c_5, bI]⟩
  · skip
    refine lv_iconst (v := 1) hx hb dX7_keptShare_8 (by decide) ?_
    refine lv_goto (tgt := 13) hx hb dX7_keptShare_9 (by decide) ?_
    refine g_cV C hS (fun _ h => h) hM hl (fun _ h => h) (m_checked hfl Γ _ _ true r70) kX7_checked t_1402 (HM.recv C hM clo_7 r70) dX7_keptShare_13 rfl rfl (Nat.le_of_ble_eq_true rfl) (by decide) rfl ⟨by decide, by decide⟩ xNo_goes (fun H locs hc_13 hM hS => ?_)
    refine g_if_le (tgt := 23) hx hb dX7_keptShare_16 (by decide) (fun c_16 => ?_) (fun c_16 => ?_)
    · skip
      have hne : mT M 7 26 0 ≠ 0 := by first | exact fun z => absurd (z ▸ c_5) (by decide) | exact fun z => c_5 (z ▸ (by decide))
      refine lv_aload_n hx hb dX7_keptShare_23 rfl (lv_at hl 0 rfl) ?_
      refine g_get C hM clo_7 27 (by decide) r70 t_1325 rfl (v := .int (mT _ 7 27 _)) rfl dX7_keptShare_24 ?_
      refine lv_i2f hx hb dX7_keptShare_27 ?_
      refine lv_aload_n hx hb dX7_keptShare_28 rfl (lv_at hl 0 rfl) ?_
      refine g_get C hM clo_7 26 (by decide) r70 t_1324 rfl (v := .int (mT _ 7 26 _)) rfl dX7_keptShare_29 ?_
      refine lv_i2f hx hb dX7_keptShare_32 ?_
      refine lv_fdiv hx hb dX7_keptShare_33 ((share_num hne).1) ?_
      exact g_fret C hr hM hS dX7_keptShare_34 (by decide) (by decide) ⟨trivial, by simp [c_5] <;> rfl, rfl, by simp [c_5, bI]⟩
    · exact absurd (show (0 : Int32) < 0 from c_16) (by decide)

set_option maxHeartbeats 1500000 in
set_option maxRecDepth 100000 in
theorem m_meanClock {l : Launch} (hfl : l.stackTraces = false) (Γ : Gm) (K : Nat → Nat → Nat) (M : Mem)  (r70 : 0 < mN M 7) : CT l Γ (gFree Γ) yX7_meanClock (wsO yX7_meanClock cX7_meanClock 1 (some .double)) 6 [.ref (K 7 0)] K M (DD True (some (.double (if 0 < mT M 7 26 0 then FP.ddiv (FP.i2d (mT M 7 28 0)) (FP.i2d (mT M 7 26 0)) else 0))) K (sT M 7 19 0 (if 0 < mT M 7 26 0 then 0 else 1))) xNo 0 0 := by
  refine ct_intro hfl (by decide) (Nat.le_of_ble_eq_true rfl) ?_
  intro p e s m args below meth c C ht hr hnm hM ls hl
  have hx := C.1
  have hb := C.2.1
  have hS : va_S (gFree Γ) s.heap s.heap [] := va_S.rf
  have hl : lv_has ls 1 [(0, .ref (K 7 0))] := hl
  refine lv_aload_n hx hb dX7_meanClock_0 rfl (lv_at hl 0 rfl) ?_
  refine lv_aload_n hx hb dX7_meanClock_1 rfl (lv_at hl 0 rfl) ?_
  refine g_get C hM clo_7 26 (by decide) r70 t_1324 rfl (v := .int (mT _ 7 26 _)) rfl dX7_meanClock_2 ?_
  refine g_if_le (tgt := 12) hx hb dX7_meanClock_5 (by decide) (fun c_5 => ?_) (fun c_5 => ?_)
  · skip
    refine lv_iconst (v := 0) hx hb dX7_meanClock_12 (by decide) ?_
    refine g_cV C hS (fun _ h => h) hM hl (fun _ h => h) (m_checked hfl Γ _ _ false r70) kX7_checked t_1402 (HM.recv C hM clo_7 r70) dX7_meanClock_13 rfl rfl (Nat.le_of_ble_eq_true rfl) (by decide) rfl ⟨by decide, by decide⟩ xNo_goes (fun H locs hc_13 hM hS => ?_)
    refine g_if_le (tgt := 23) hx hb dX7_meanClock_16 (by decide) (fun c_16 => ?_) (fun c_16 => ?_)
    · exact absurd (show ¬ (0 : Int32) < 1 from c_16) (by decide)
    · skip
      refine lv_dconst0 hx hb dX7_meanClock_19 ?_
      refine lv_goto (tgt := 34) hx hb dX7_meanClock_20 (by decide) ?_
      exact g_dret C hr hM hS dX7_meanClock_34 (by decide) (by decide) ⟨trivial, by simp [c_5] <;> rfl, rfl, by simp [c_5, bI]⟩
  · skip
    refine lv_iconst (v := 1) hx hb dX7_meanClock_8 (by decide) ?_
    refine lv_goto (tgt := 13) hx hb dX7_meanClock_9 (by decide) ?_
    refine g_cV C hS (fun _ h => h) hM hl (fun _ h => h) (m_checked hfl Γ _ _ true r70) kX7_checked t_1402 (HM.recv C hM clo_7 r70) dX7_meanClock_13 rfl rfl (Nat.le_of_ble_eq_true rfl) (by decide) rfl ⟨by decide, by decide⟩ xNo_goes (fun H locs hc_13 hM hS => ?_)
    refine g_if_le (tgt := 23) hx hb dX7_meanClock_16 (by decide) (fun c_16 => ?_) (fun c_16 => ?_)
    · skip
      have hne : mT M 7 26 0 ≠ 0 := by first | exact fun z => absurd (z ▸ c_5) (by decide) | exact fun z => c_5 (z ▸ (by decide))
      refine lv_aload_n hx hb dX7_meanClock_23 rfl (lv_at hl 0 rfl) ?_
      refine g_get C hM clo_7 28 (by decide) r70 t_1326 rfl (v := .int (mT _ 7 28 _)) rfl dX7_meanClock_24 ?_
      refine lv_i2d hx hb dX7_meanClock_27 ?_
      refine lv_aload_n hx hb dX7_meanClock_28 rfl (lv_at hl 0 rfl) ?_
      refine g_get C hM clo_7 26 (by decide) r70 t_1324 rfl (v := .int (mT _ 7 26 _)) rfl dX7_meanClock_29 ?_
      refine lv_i2d hx hb dX7_meanClock_32 ?_
      refine lv_ddiv hx hb dX7_meanClock_33 ((by rw [i2d_wide (mT (sT M 7 19 0 (bI !true)) 7 28 0)]; exact (mean_num hne).1)) ?_
      exact g_dret C hr hM hS dX7_meanClock_34 (by decide) (by decide) ⟨trivial, by simp [c_5] <;> rfl, rfl, by simp [c_5, bI]⟩
    · exact absurd (show (0 : Int32) < 0 from c_16) (by decide)

