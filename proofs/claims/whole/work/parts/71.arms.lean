theorem nI_zero {r : Nat} (h : r < 100) (c : nI r = 0) : r = 0 := by
  rw [← nI_0] at c
  exact (nI_eq (by omega) (by decide)).mp c
set_option maxHeartbeats 1500000 in
set_option maxRecDepth 100000 in
theorem arm_0 {l : Launch} (hfl : l.stackTraces = false) {Γ : Gm} {p : Program} {e : Env} {R : Room} {s : State} {m : MethodId} {args : Array Value} {below : List Frame} {meth : Method} {c : Code} {H : Heap} {locs : List Loc} {cells slots : Nat} {Q : State → Prop} {K : Nat → Nat → Nat} {M : Mem} {ls : Array Slot} {a0 n i : Nat} {f : Nat → Int32}
    (C : Cx Γ p l s m args meth c cL_law 9 RL) (hRm : RmL R) (hin : InA s a0 n f) (ha0 : a0 < gB Γ) (hi6 : i + 6 ≤ n) (hn : n ≤ 3072) (hM : HM Γ K M H) (hS : va_S (gFree Γ) s.heap H locs) (hl : lv_has ls 9 (LV K a0 i)) (w : Wf M) (n7 : mN M 7 = 1) (h39 : mN M 39 = 1) (h40 : mN M 40 = 1)
    (h39b : mN (passM M (f (i + 1))) 39 = 1) (M1 M2 : Mem) (hM1 : M1 = if rPass M (f (i + 1)) = 0 then sJ (passM M (f (i + 1))) 39 0 0 ((pbN M (f (i + 1)) (mN M 4)).toInt64) else M) (hM2 : M2 = if rPass M (f (i + 1)) = 0 then itR M (sT M1 7 19 0 0) (ix (f (i + 1))) else sT M1 7 19 0 (thI (rPass M (f (i + 1)))))
    (r : RC M M1)  (h71 : 0 < mN M1 7) (h72 : 0 < mN M2 7) (h392 : 0 < mN M2 39) (hr9 : rPass M (f (i + 1)) < 100) (hthr : mT M2 7 19 0 = nI (rPass M (f (i + 1)))) (hval : rPass M (f (i + 1)) = 0 → mJ M2 39 0 0 = ((if rPass M (f (i + 1)) = 0 then itC M (ix (f (i + 1))) else 0)).toInt64)
    (hf : cells + 2 ≤ R.cells ∧ slots + 12 ≤ R.slots) (hf0 : cells + 2 + 0 ≤ R.cells ∧ slots + 12 + 0 ≤ R.slots) (kk : ∀ (K1 : Nat → Nat → Nat) (H1 : Heap) (locs1 : List Loc) (ls1 : Array Slot), HM Γ K1 M2 H1 → va_S (gFree Γ) s.heap H1 locs1 → lv_has ls1 9 (LV K1 a0 i) → W p l e R s m args below meth c H1 locs1 (cells + 2) (slots + 12) Q (F0 m 2497 ls1 [])) :
    W p l e R s m args below meth c H locs cells slots Q (F0 m 228 ls []) := by
  have hx := C.1
  have hb := C.2.1
  have e6 := wn6 w
  refine lv_aload_n hx hb dL_law_228 rfl (lv_at hl 1 rfl) ?_
  refine lv_aload_n hx hb dL_law_229 rfl (lv_at hl 0 rfl) ?_
  refine lv_iload hx hb dL_law_230 (lv_at hl 5 rfl) ?_
  refine lv_iconst (v := 1) hx hb dL_law_232 (by decide) ?_
  refine lv_iadd hx hb dL_law_233 ?_
  refine g_inp (j := 1) C hin ha0 hS (nI_add i 1) (by omega) hn dL_law_234 ?_
  refine lv_aload_n hx hb dL_law_235 rfl (lv_at hl 3 rfl) ?_
  refine g_callHL C hS (fun _ h => h) hM hl (fun _ h => h) (h_pass hfl Γ _ _ (f (i + 1)) w h39 h39b) kL_pass t_249 dL_law_236 rfl rfl (Nat.le_of_ble_eq_true rfl) (by decide) hRm hf (fun v9 K1 M9 H locs hp hM hS _ _ => ?_)
  obtain ⟨rfl, hKK, hM9⟩ := hp
  obtain rfl : M1 = M9 := (hM9.trans hM1.symm).symm
  replace hl : lv_has ls 9 (LV K1 a0 i) := by rw [show LV K1 a0 i = LV K a0 i from by simp only [LV, hKK 6 0 e6, hKK 7 0 (show 0 < mN M 7 by omega), hKK 39 0 (show 0 < mN M 39 by omega), hKK 40 0 (show 0 < mN M 40 by omega)]]; exact hl
  dsimp only [Option.toList, List.cons_append, List.nil_append]
  refine lv_istore (lv' := [(6, _), (0, _), (1, _), (2, _), (3, _), (4, _), (5, _)]) hx hb dL_law_239 hl (by decide) rfl (fun ls hl => ?_)
  refine lv_aload_n hx hb dL_law_241 rfl (lv_at hl 3 rfl) ?_
  refine lv_aload_n hx hb dL_law_242 rfl (lv_at hl 1 rfl) ?_
  refine lv_iload hx hb dL_law_243 (lv_at hl 6 rfl) ?_
  refine lv_iconst (v := 1) hx hb dL_law_245 (by decide) ?_
  refine lv_iadd hx hb dL_law_246 ?_
  refine g_inp (j := 1) C hin ha0 hS (nI_add i 1) (by omega) hn dL_law_247 ?_
  refine g_cVL C hS (fun _ h => h) hM hl (fun _ h => h) (m_pass hfl Γ _ _ (f (i + 1)) M w r ) kX7_pass t_1395 (HM.recv C hM clo_7 h71) dL_law_248 rfl rfl (Nat.le_of_ble_eq_true rfl) (by decide) hRm hf0 (fun H locs hM hS => ?_)
  replace hM : HM Γ K1 M2 H := by rw [hM2]; exact hM
  refine lv_istore (lv' := [(7, _), (6, _), (0, _), (1, _), (2, _), (3, _), (4, _), (5, _)]) hx hb dL_law_251 hl (by decide) rfl (fun ls hl => ?_)
  refine lv_aload_n hx hb dL_law_253 rfl (lv_at hl 4 rfl) ?_
  refine g_cVL C hS (fun _ h => h) hM hl (fun _ h => h.elim) (m_thrown hfl Γ _ _ h72) kX7_thrown t_1391 (HM.recv C hM clo_7 h72) dL_law_254 rfl rfl (Nat.le_of_ble_eq_true rfl) (by decide) hRm hf0 (fun H locs hM hS => ?_)
  refine lv_iload hx hb dL_law_257 (lv_at hl 1 rfl) ?_
  refine lv_icmp_eq (tgt := 264) hx hb dL_law_259 (by decide) (fun _ => ?_) (fun z => absurd hthr z)
  refine lv_iload hx hb dL_law_264 (lv_at hl 1 rfl) ?_
  refine lv_if_ne (tgt := 281) hx hb dL_law_266 (by decide) (fun c9 => ?_) (fun c9 => ?_)
  · refine lv_goto (tgt := 2497) hx hb dL_law_281 (by decide) ?_
    exact kk K1 _ _ _ hM hS (lv_sub hl [2, 3, 4, 5, 6, 7] rfl)
  · have h0 : rPass M (f (i + 1)) = 0 := nI_zero hr9 c9
    refine lv_aload_n hx hb dL_law_269 rfl (lv_at hl 5 rfl) ?_
    refine lv_iconst (v := 0) hx hb dL_law_270 (by decide) ?_
    refine g_lald C hM h392 dL_law_271 ?_
    refine lv_iload hx hb dL_law_272 (lv_at hl 0 rfl) ?_
    refine lv_i2l hx hb dL_law_274 rfl ?_
    refine g_lcmp0 hx hb dL_law_275 (hval h0) ?_
    refine lv_if_eq (tgt := 281) hx hb dL_law_276 (by decide) (fun _ => ?_) (fun z => absurd rfl z)
    refine lv_goto (tgt := 2497) hx hb dL_law_281 (by decide) ?_
    exact kk K1 _ _ _ hM hS (lv_sub hl [2, 3, 4, 5, 6, 7] rfl)
set_option maxHeartbeats 1500000 in
set_option maxRecDepth 100000 in
theorem arm_1 {l : Launch} (hfl : l.stackTraces = false) {Γ : Gm} {p : Program} {e : Env} {R : Room} {s : State} {m : MethodId} {args : Array Value} {below : List Frame} {meth : Method} {c : Code} {H : Heap} {locs : List Loc} {cells slots : Nat} {Q : State → Prop} {K : Nat → Nat → Nat} {M : Mem} {ls : Array Slot} {a0 n i : Nat} {f : Nat → Int32}
    (C : Cx Γ p l s m args meth c cL_law 9 RL) (hRm : RmL R) (hin : InA s a0 n f) (ha0 : a0 < gB Γ) (hi6 : i + 6 ≤ n) (hn : n ≤ 3072) (hM : HM Γ K M H) (hS : va_S (gFree Γ) s.heap H locs) (hl : lv_has ls 9 (LV K a0 i)) (w : Wf M) (n7 : mN M 7 = 1) (h39 : mN M 39 = 1) (h40 : mN M 40 = 1)
    (r : RC M M)  (hf : cells + 0 ≤ R.cells ∧ slots + 0 ≤ R.slots) (kk : ∀ (K1 : Nat → Nat → Nat) (H1 : Heap) (locs1 : List Loc) (ls1 : Array Slot), HM Γ K1 (sT M 7 19 0 0) H1 → va_S (gFree Γ) s.heap H1 locs1 → lv_has ls1 9 (LV K1 a0 i) → W p l e R s m args below meth c H1 locs1 (cells + 0) (slots + 0) Q (F0 m 2497 ls1 [])) :
    W p l e R s m args below meth c H locs cells slots Q (F0 m 284 ls []) := by
  have hx := C.1
  have hb := C.2.1
  refine lv_aload_n hx hb dL_law_284 rfl (lv_at hl 1 rfl) ?_
  refine g_cVL C hS (fun _ h => h) hM hl (fun _ h => h.elim) (c_time hfl Γ _ _ w) kX6_time t_145 (HM.recv C hM clo_6 (wn6 w)) dL_law_285 rfl rfl (Nat.le_of_ble_eq_true rfl) (by decide) hRm hf (fun H locs hM hS => ?_)
  refine lv_aload_n hx hb dL_law_288 rfl (lv_at hl 2 rfl) ?_
  refine g_cVL C hS (fun _ h => h) hM hl (fun _ h => h) (m_time hfl Γ _ _ M w r) kX7_time t_1414 (HM.recv C hM clo_7 (by omega)) dL_law_289 rfl rfl (Nat.le_of_ble_eq_true rfl) (by decide) hRm hf (fun H locs hM hS => ?_)
  refine lv_icmp_eq (tgt := 2497) hx hb dL_law_292 (by decide) (fun _ => ?_) (fun z => absurd rfl z)
  exact kk K _ _ _ hM hS hl
set_option maxHeartbeats 1500000 in
set_option maxRecDepth 100000 in
theorem arm_2 {l : Launch} (hfl : l.stackTraces = false) {Γ : Gm} {p : Program} {e : Env} {R : Room} {s : State} {m : MethodId} {args : Array Value} {below : List Frame} {meth : Method} {c : Code} {H : Heap} {locs : List Loc} {cells slots : Nat} {Q : State → Prop} {K : Nat → Nat → Nat} {M : Mem} {ls : Array Slot} {a0 n i : Nat} {f : Nat → Int32}
    (C : Cx Γ p l s m args meth c cL_law 9 RL) (hRm : RmL R) (hin : InA s a0 n f) (ha0 : a0 < gB Γ) (hi6 : i + 6 ≤ n) (hn : n ≤ 3072) (hM : HM Γ K M H) (hS : va_S (gFree Γ) s.heap H locs) (hl : lv_has ls 9 (LV K a0 i)) (w : Wf M) (n7 : mN M 7 = 1) (h39 : mN M 39 = 1) (h40 : mN M 40 = 1)
    (h39b : mN (oqN (sT M 1 1 (ix (f (i + 1))) (f (i + 2))) 6) 39 = 1) (M1 M2 : Mem) (hM1 : M1 = if rSetClass M (f (i + 1)) (f (i + 2)) = 0 then sJ (oqN (sT M 1 1 (ix (f (i + 1))) (f (i + 2))) 6) 39 0 0 ((mT M 1 1 (ix (f (i + 1)))).toInt64) else M) (hM2 : M2 = if rSetClass M (f (i + 1)) (f (i + 2)) = 0 then sT (sT M1 7 19 0 0) 20 (ix (f (i + 1))) 0 (f (i + 2)) else sT M1 7 19 0 (thI (rSetClass M (f (i + 1)) (f (i + 2)))))
    (r : RC M M1)  (h71 : 0 < mN M1 7) (h72 : 0 < mN M2 7) (h392 : 0 < mN M2 39) (hr9 : rSetClass M (f (i + 1)) (f (i + 2)) < 100) (hthr : mT M2 7 19 0 = nI (rSetClass M (f (i + 1)) (f (i + 2)))) (hval : rSetClass M (f (i + 1)) (f (i + 2)) = 0 → mJ M2 39 0 0 = ((if rSetClass M (f (i + 1)) (f (i + 2)) = 0 then mT M 1 1 (ix (f (i + 1))) else 0)).toInt64)
    (hf : cells + 2 ≤ R.cells ∧ slots + 12 ≤ R.slots) (hf0 : cells + 2 + 0 ≤ R.cells ∧ slots + 12 + 0 ≤ R.slots) (kk : ∀ (K1 : Nat → Nat → Nat) (H1 : Heap) (locs1 : List Loc) (ls1 : Array Slot), HM Γ K1 M2 H1 → va_S (gFree Γ) s.heap H1 locs1 → lv_has ls1 9 (LV K1 a0 i) → W p l e R s m args below meth c H1 locs1 (cells + 2) (slots + 12) Q (F0 m 2497 ls1 [])) :
    W p l e R s m args below meth c H locs cells slots Q (F0 m 297 ls []) := by
  have hx := C.1
  have hb := C.2.1
  have e6 := wn6 w
  refine lv_aload_n hx hb dL_law_297 rfl (lv_at hl 1 rfl) ?_
  refine lv_aload_n hx hb dL_law_298 rfl (lv_at hl 0 rfl) ?_
  refine lv_iload hx hb dL_law_299 (lv_at hl 5 rfl) ?_
  refine lv_iconst (v := 1) hx hb dL_law_301 (by decide) ?_
  refine lv_iadd hx hb dL_law_302 ?_
  refine g_inp (j := 1) C hin ha0 hS (nI_add i 1) (by omega) hn dL_law_303 ?_
  refine lv_aload_n hx hb dL_law_304 rfl (lv_at hl 0 rfl) ?_
  refine lv_iload hx hb dL_law_305 (lv_at hl 5 rfl) ?_
  refine lv_iconst (v := 2) hx hb dL_law_307 (by decide) ?_
  refine lv_iadd hx hb dL_law_308 ?_
  refine g_inp (j := 2) C hin ha0 hS (nI_add i 2) (by omega) hn dL_law_309 ?_
  refine lv_aload_n hx hb dL_law_310 rfl (lv_at hl 3 rfl) ?_
  refine g_callHL C hS (fun _ h => h) hM hl (fun _ h => h) (h_setClass hfl Γ _ _ (f (i + 1)) (f (i + 2)) w h39 h39b) kL_setClass t_336 dL_law_311 rfl rfl (Nat.le_of_ble_eq_true rfl) (by decide) hRm hf (fun v9 K1 M9 H locs hp hM hS _ _ => ?_)
  obtain ⟨rfl, hKK, hM9⟩ := hp
  obtain rfl : M1 = M9 := (hM9.trans hM1.symm).symm
  replace hl : lv_has ls 9 (LV K1 a0 i) := by rw [show LV K1 a0 i = LV K a0 i from by simp only [LV, hKK 6 0 e6, hKK 7 0 (show 0 < mN M 7 by omega), hKK 39 0 (show 0 < mN M 39 by omega), hKK 40 0 (show 0 < mN M 40 by omega)]]; exact hl
  dsimp only [Option.toList, List.cons_append, List.nil_append]
  refine lv_istore (lv' := [(6, _), (0, _), (1, _), (2, _), (3, _), (4, _), (5, _)]) hx hb dL_law_314 hl (by decide) rfl (fun ls hl => ?_)
  refine lv_aload_n hx hb dL_law_316 rfl (lv_at hl 3 rfl) ?_
  refine lv_aload_n hx hb dL_law_317 rfl (lv_at hl 1 rfl) ?_
  refine lv_iload hx hb dL_law_318 (lv_at hl 6 rfl) ?_
  refine lv_iconst (v := 1) hx hb dL_law_320 (by decide) ?_
  refine lv_iadd hx hb dL_law_321 ?_
  refine g_inp (j := 1) C hin ha0 hS (nI_add i 1) (by omega) hn dL_law_322 ?_
  refine lv_aload_n hx hb dL_law_323 rfl (lv_at hl 1 rfl) ?_
  refine lv_iload hx hb dL_law_324 (lv_at hl 6 rfl) ?_
  refine lv_iconst (v := 2) hx hb dL_law_326 (by decide) ?_
  refine lv_iadd hx hb dL_law_327 ?_
  refine g_inp (j := 2) C hin ha0 hS (nI_add i 2) (by omega) hn dL_law_328 ?_
  refine g_cVL C hS (fun _ h => h) hM hl (fun _ h => h) (m_setClass hfl Γ _ _ (f (i + 1)) (f (i + 2)) M w r ) kX7_setClass t_1422 (HM.recv C hM clo_7 h71) dL_law_329 rfl rfl (Nat.le_of_ble_eq_true rfl) (by decide) hRm hf0 (fun H locs hM hS => ?_)
  replace hM : HM Γ K1 M2 H := by rw [hM2]; exact hM
  refine lv_istore (lv' := [(7, _), (6, _), (0, _), (1, _), (2, _), (3, _), (4, _), (5, _)]) hx hb dL_law_332 hl (by decide) rfl (fun ls hl => ?_)
  refine lv_aload_n hx hb dL_law_334 rfl (lv_at hl 4 rfl) ?_
  refine g_cVL C hS (fun _ h => h) hM hl (fun _ h => h.elim) (m_thrown hfl Γ _ _ h72) kX7_thrown t_1391 (HM.recv C hM clo_7 h72) dL_law_335 rfl rfl (Nat.le_of_ble_eq_true rfl) (by decide) hRm hf0 (fun H locs hM hS => ?_)
  refine lv_iload hx hb dL_law_338 (lv_at hl 1 rfl) ?_
  refine lv_icmp_eq (tgt := 345) hx hb dL_law_340 (by decide) (fun _ => ?_) (fun z => absurd hthr z)
  refine lv_iload hx hb dL_law_345 (lv_at hl 1 rfl) ?_
  refine lv_if_ne (tgt := 362) hx hb dL_law_347 (by decide) (fun c9 => ?_) (fun c9 => ?_)
  · refine lv_goto (tgt := 2497) hx hb dL_law_362 (by decide) ?_
    exact kk K1 _ _ _ hM hS (lv_sub hl [2, 3, 4, 5, 6, 7] rfl)
  · have h0 : rSetClass M (f (i + 1)) (f (i + 2)) = 0 := nI_zero hr9 c9
    refine lv_aload_n hx hb dL_law_350 rfl (lv_at hl 5 rfl) ?_
    refine lv_iconst (v := 0) hx hb dL_law_351 (by decide) ?_
    refine g_lald C hM h392 dL_law_352 ?_
    refine lv_iload hx hb dL_law_353 (lv_at hl 0 rfl) ?_
    refine lv_i2l hx hb dL_law_355 rfl ?_
    refine g_lcmp0 hx hb dL_law_356 (hval h0) ?_
    refine lv_if_eq (tgt := 362) hx hb dL_law_357 (by decide) (fun _ => ?_) (fun z => absurd rfl z)
    refine lv_goto (tgt := 2497) hx hb dL_law_362 (by decide) ?_
    exact kk K1 _ _ _ hM hS (lv_sub hl [2, 3, 4, 5, 6, 7] rfl)
set_option maxHeartbeats 1500000 in
set_option maxRecDepth 100000 in
theorem arm_3 {l : Launch} (hfl : l.stackTraces = false) {Γ : Gm} {p : Program} {e : Env} {R : Room} {s : State} {m : MethodId} {args : Array Value} {below : List Frame} {meth : Method} {c : Code} {H : Heap} {locs : List Loc} {cells slots : Nat} {Q : State → Prop} {K : Nat → Nat → Nat} {M : Mem} {ls : Array Slot} {a0 n i : Nat} {f : Nat → Int32}
    (C : Cx Γ p l s m args meth c cL_law 9 RL) (hRm : RmL R) (hin : InA s a0 n f) (ha0 : a0 < gB Γ) (hi6 : i + 6 ≤ n) (hn : n ≤ 3072) (hM : HM Γ K M H) (hS : va_S (gFree Γ) s.heap H locs) (hl : lv_has ls 9 (LV K a0 i)) (w : Wf M) (n7 : mN M 7 = 1) (h39 : mN M 39 = 1) (h40 : mN M 40 = 1)
    (h39b : mN (oqN (sT M 15 (ix (f (i + 1))) 0 (f (i + 2))) 6) 39 = 1) (M1 M2 : Mem) (hM1 : M1 = if rSetPromise M (f (i + 1)) (f (i + 2)) = 0 then sJ (oqN (sT M 15 (ix (f (i + 1))) 0 (f (i + 2))) 6) 39 0 0 ((mT M 15 (ix (f (i + 1))) 0).toInt64) else M) (hM2 : M2 = if rSetPromise M (f (i + 1)) (f (i + 2)) = 0 then sT (sT M1 7 19 0 0) 21 (ix (f (i + 1))) 0 (f (i + 2)) else sT M1 7 19 0 (thI (rSetPromise M (f (i + 1)) (f (i + 2)))))
    (r : RC M M1)  (h71 : 0 < mN M1 7) (h72 : 0 < mN M2 7) (h392 : 0 < mN M2 39) (hr9 : rSetPromise M (f (i + 1)) (f (i + 2)) < 100) (hthr : mT M2 7 19 0 = nI (rSetPromise M (f (i + 1)) (f (i + 2)))) (hval : rSetPromise M (f (i + 1)) (f (i + 2)) = 0 → mJ M2 39 0 0 = ((if rSetPromise M (f (i + 1)) (f (i + 2)) = 0 then mT M 15 (ix (f (i + 1))) 0 else 0)).toInt64)
    (hf : cells + 2 ≤ R.cells ∧ slots + 12 ≤ R.slots) (hf0 : cells + 2 + 0 ≤ R.cells ∧ slots + 12 + 0 ≤ R.slots) (kk : ∀ (K1 : Nat → Nat → Nat) (H1 : Heap) (locs1 : List Loc) (ls1 : Array Slot), HM Γ K1 M2 H1 → va_S (gFree Γ) s.heap H1 locs1 → lv_has ls1 9 (LV K1 a0 i) → W p l e R s m args below meth c H1 locs1 (cells + 2) (slots + 12) Q (F0 m 2497 ls1 [])) :
    W p l e R s m args below meth c H locs cells slots Q (F0 m 365 ls []) := by
  have hx := C.1
  have hb := C.2.1
  have e6 := wn6 w
  refine lv_aload_n hx hb dL_law_365 rfl (lv_at hl 1 rfl) ?_
  refine lv_aload_n hx hb dL_law_366 rfl (lv_at hl 0 rfl) ?_
  refine lv_iload hx hb dL_law_367 (lv_at hl 5 rfl) ?_
  refine lv_iconst (v := 1) hx hb dL_law_369 (by decide) ?_
  refine lv_iadd hx hb dL_law_370 ?_
  refine g_inp (j := 1) C hin ha0 hS (nI_add i 1) (by omega) hn dL_law_371 ?_
  refine lv_aload_n hx hb dL_law_372 rfl (lv_at hl 0 rfl) ?_
  refine lv_iload hx hb dL_law_373 (lv_at hl 5 rfl) ?_
  refine lv_iconst (v := 2) hx hb dL_law_375 (by decide) ?_
  refine lv_iadd hx hb dL_law_376 ?_
  refine g_inp (j := 2) C hin ha0 hS (nI_add i 2) (by omega) hn dL_law_377 ?_
  refine lv_aload_n hx hb dL_law_378 rfl (lv_at hl 3 rfl) ?_
  refine g_callHL C hS (fun _ h => h) hM hl (fun _ h => h) (h_setPromise hfl Γ _ _ (f (i + 1)) (f (i + 2)) w h39 h39b) kL_setPromise t_682 dL_law_379 rfl rfl (Nat.le_of_ble_eq_true rfl) (by decide) hRm hf (fun v9 K1 M9 H locs hp hM hS _ _ => ?_)
  obtain ⟨rfl, hKK, hM9⟩ := hp
  obtain rfl : M1 = M9 := (hM9.trans hM1.symm).symm
  replace hl : lv_has ls 9 (LV K1 a0 i) := by rw [show LV K1 a0 i = LV K a0 i from by simp only [LV, hKK 6 0 e6, hKK 7 0 (show 0 < mN M 7 by omega), hKK 39 0 (show 0 < mN M 39 by omega), hKK 40 0 (show 0 < mN M 40 by omega)]]; exact hl
  dsimp only [Option.toList, List.cons_append, List.nil_append]
  refine lv_istore (lv' := [(6, _), (0, _), (1, _), (2, _), (3, _), (4, _), (5, _)]) hx hb dL_law_382 hl (by decide) rfl (fun ls hl => ?_)
  refine lv_aload_n hx hb dL_law_384 rfl (lv_at hl 3 rfl) ?_
  refine lv_aload_n hx hb dL_law_385 rfl (lv_at hl 1 rfl) ?_
  refine lv_iload hx hb dL_law_386 (lv_at hl 6 rfl) ?_
  refine lv_iconst (v := 1) hx hb dL_law_388 (by decide) ?_
  refine lv_iadd hx hb dL_law_389 ?_
  refine g_inp (j := 1) C hin ha0 hS (nI_add i 1) (by omega) hn dL_law_390 ?_
  refine lv_aload_n hx hb dL_law_391 rfl (lv_at hl 1 rfl) ?_
  refine lv_iload hx hb dL_law_392 (lv_at hl 6 rfl) ?_
  refine lv_iconst (v := 2) hx hb dL_law_394 (by decide) ?_
  refine lv_iadd hx hb dL_law_395 ?_
  refine g_inp (j := 2) C hin ha0 hS (nI_add i 2) (by omega) hn dL_law_396 ?_
  refine g_cVL C hS (fun _ h => h) hM hl (fun _ h => h) (m_setPromise hfl Γ _ _ (f (i + 1)) (f (i + 2)) M w r ) kX7_setPromise t_1426 (HM.recv C hM clo_7 h71) dL_law_397 rfl rfl (Nat.le_of_ble_eq_true rfl) (by decide) hRm hf0 (fun H locs hM hS => ?_)
  replace hM : HM Γ K1 M2 H := by rw [hM2]; exact hM
  refine lv_istore (lv' := [(7, _), (6, _), (0, _), (1, _), (2, _), (3, _), (4, _), (5, _)]) hx hb dL_law_400 hl (by decide) rfl (fun ls hl => ?_)
  refine lv_aload_n hx hb dL_law_402 rfl (lv_at hl 4 rfl) ?_
  refine g_cVL C hS (fun _ h => h) hM hl (fun _ h => h.elim) (m_thrown hfl Γ _ _ h72) kX7_thrown t_1391 (HM.recv C hM clo_7 h72) dL_law_403 rfl rfl (Nat.le_of_ble_eq_true rfl) (by decide) hRm hf0 (fun H locs hM hS => ?_)
  refine lv_iload hx hb dL_law_406 (lv_at hl 1 rfl) ?_
  refine lv_icmp_eq (tgt := 413) hx hb dL_law_408 (by decide) (fun _ => ?_) (fun z => absurd hthr z)
  refine lv_iload hx hb dL_law_413 (lv_at hl 1 rfl) ?_
  refine lv_if_ne (tgt := 430) hx hb dL_law_415 (by decide) (fun c9 => ?_) (fun c9 => ?_)
  · refine lv_goto (tgt := 2497) hx hb dL_law_430 (by decide) ?_
    exact kk K1 _ _ _ hM hS (lv_sub hl [2, 3, 4, 5, 6, 7] rfl)
  · have h0 : rSetPromise M (f (i + 1)) (f (i + 2)) = 0 := nI_zero hr9 c9
    refine lv_aload_n hx hb dL_law_418 rfl (lv_at hl 5 rfl) ?_
    refine lv_iconst (v := 0) hx hb dL_law_419 (by decide) ?_
    refine g_lald C hM h392 dL_law_420 ?_
    refine lv_iload hx hb dL_law_421 (lv_at hl 0 rfl) ?_
    refine lv_i2l hx hb dL_law_423 rfl ?_
    refine g_lcmp0 hx hb dL_law_424 (hval h0) ?_
    refine lv_if_eq (tgt := 430) hx hb dL_law_425 (by decide) (fun _ => ?_) (fun z => absurd rfl z)
    refine lv_goto (tgt := 2497) hx hb dL_law_430 (by decide) ?_
    exact kk K1 _ _ _ hM hS (lv_sub hl [2, 3, 4, 5, 6, 7] rfl)
set_option maxHeartbeats 1500000 in
set_option maxRecDepth 100000 in
theorem arm_4 {l : Launch} (hfl : l.stackTraces = false) {Γ : Gm} {p : Program} {e : Env} {R : Room} {s : State} {m : MethodId} {args : Array Value} {below : List Frame} {meth : Method} {c : Code} {H : Heap} {locs : List Loc} {cells slots : Nat} {Q : State → Prop} {K : Nat → Nat → Nat} {M : Mem} {ls : Array Slot} {a0 n i : Nat} {f : Nat → Int32}
    (C : Cx Γ p l s m args meth c cL_law 9 RL) (hRm : RmL R) (hin : InA s a0 n f) (ha0 : a0 < gB Γ) (hi6 : i + 6 ≤ n) (hn : n ≤ 3072) (hM : HM Γ K M H) (hS : va_S (gFree Γ) s.heap H locs) (hl : lv_has ls 9 (LV K a0 i)) (w : Wf M) (n7 : mN M 7 = 1) (h39 : mN M 39 = 1) (h40 : mN M 40 = 1)
    (h7 : mN M 7 = 1 ∧ ∀ k, 20 ≤ k → k ≤ 38 → mN M k = 1) (hlen : ∀ i, i < mN M 4 → (mL M 8 i).length ≤ mN M 2) (h39b : mN (mailM M (f (i + 1)) (f (i + 2)) (f (i + 3)) (f (i + 4)) (f (i + 5))) 39 = 1) (M1 M2 : Mem) (hM1 : M1 = if rMail M (f (i + 1)) (f (i + 2)) (f (i + 3)) (f (i + 4)) (f (i + 5)) = 0 then sJ (mailM M (f (i + 1)) (f (i + 2)) (f (i + 3)) (f (i + 4)) (f (i + 5))) 39 0 0 ((mailN M (f (i + 1)) (f (i + 2)) (f (i + 3)) (f (i + 4)) (f (i + 5))).toInt64) else M) (hM2 : M2 = mailE M M1 (f (i + 1)) (f (i + 2)) (f (i + 3)) (f (i + 4)) (f (i + 5)))
    (r : RC M M1)  (h71 : 0 < mN M1 7) (h72 : 0 < mN M2 7) (h392 : 0 < mN M2 39) (hr9 : rMail M (f (i + 1)) (f (i + 2)) (f (i + 3)) (f (i + 4)) (f (i + 5)) < 100) (hthr : mT M2 7 19 0 = nI (rMail M (f (i + 1)) (f (i + 2)) (f (i + 3)) (f (i + 4)) (f (i + 5)))) (hval : rMail M (f (i + 1)) (f (i + 2)) (f (i + 3)) (f (i + 4)) (f (i + 5)) = 0 → mJ M2 39 0 0 = ((mailV M (f (i + 1)) (f (i + 2)) (f (i + 3)) (f (i + 4)) (f (i + 5)))).toInt64)
    (hf : cells + 10 ≤ R.cells ∧ slots + 600 ≤ R.slots) (hf0 : cells + 10 + 0 ≤ R.cells ∧ slots + 600 + 0 ≤ R.slots) (kk : ∀ (K1 : Nat → Nat → Nat) (H1 : Heap) (locs1 : List Loc) (ls1 : Array Slot), HM Γ K1 M2 H1 → va_S (gFree Γ) s.heap H1 locs1 → lv_has ls1 9 (LV K1 a0 i) → W p l e R s m args below meth c H1 locs1 (cells + 10) (slots + 600) Q (F0 m 2497 ls1 [])) :
    W p l e R s m args below meth c H locs cells slots Q (F0 m 433 ls []) := by
  have hx := C.1
  have hb := C.2.1
  have e6 := wn6 w
  refine lv_aload_n hx hb dL_law_433 rfl (lv_at hl 1 rfl) ?_
  refine lv_aload_n hx hb dL_law_434 rfl (lv_at hl 0 rfl) ?_
  refine lv_iload hx hb dL_law_435 (lv_at hl 5 rfl) ?_
  refine lv_iconst (v := 1) hx hb dL_law_437 (by decide) ?_
  refine lv_iadd hx hb dL_law_438 ?_
  refine g_inp (j := 1) C hin ha0 hS (nI_add i 1) (by omega) hn dL_law_439 ?_
  refine lv_aload_n hx hb dL_law_440 rfl (lv_at hl 0 rfl) ?_
  refine lv_iload hx hb dL_law_441 (lv_at hl 5 rfl) ?_
  refine lv_iconst (v := 2) hx hb dL_law_443 (by decide) ?_
  refine lv_iadd hx hb dL_law_444 ?_
  refine g_inp (j := 2) C hin ha0 hS (nI_add i 2) (by omega) hn dL_law_445 ?_
  refine lv_aload_n hx hb dL_law_446 rfl (lv_at hl 0 rfl) ?_
  refine lv_iload hx hb dL_law_447 (lv_at hl 5 rfl) ?_
  refine lv_iconst (v := 3) hx hb dL_law_449 (by decide) ?_
  refine lv_iadd hx hb dL_law_450 ?_
  refine g_inp (j := 3) C hin ha0 hS (nI_add i 3) (by omega) hn dL_law_451 ?_
  refine lv_aload_n hx hb dL_law_452 rfl (lv_at hl 0 rfl) ?_
  refine lv_iload hx hb dL_law_453 (lv_at hl 5 rfl) ?_
  refine lv_iconst (v := 4) hx hb dL_law_455 (by decide) ?_
  refine lv_iadd hx hb dL_law_456 ?_
  refine g_inp (j := 4) C hin ha0 hS (nI_add i 4) (by omega) hn dL_law_457 ?_
  refine lv_aload_n hx hb dL_law_458 rfl (lv_at hl 0 rfl) ?_
  refine lv_iload hx hb dL_law_459 (lv_at hl 5 rfl) ?_
  refine lv_iconst (v := 5) hx hb dL_law_461 (by decide) ?_
  refine lv_iadd hx hb dL_law_462 ?_
  refine g_inp (j := 5) C hin ha0 hS (nI_add i 5) (by omega) hn dL_law_463 ?_
  refine lv_aload_n hx hb dL_law_464 rfl (lv_at hl 3 rfl) ?_
  refine g_callHL C hS (fun _ h => h) hM hl (fun _ h => h) (h_mail hfl Γ _ _ (f (i + 1)) (f (i + 2)) (f (i + 3)) (f (i + 4)) (f (i + 5)) w h7 hlen h39 h39b) kL_mail t_690 dL_law_465 rfl rfl (Nat.le_of_ble_eq_true rfl) (by decide) hRm hf (fun v9 K1 M9 H locs hp hM hS _ _ => ?_)
  obtain ⟨rfl, hKK, hM9⟩ := hp
  obtain rfl : M1 = M9 := (hM9.trans hM1.symm).symm
  replace hl : lv_has ls 9 (LV K1 a0 i) := by rw [show LV K1 a0 i = LV K a0 i from by simp only [LV, hKK 6 0 e6, hKK 7 0 (show 0 < mN M 7 by omega), hKK 39 0 (show 0 < mN M 39 by omega), hKK 40 0 (show 0 < mN M 40 by omega)]]; exact hl
  dsimp only [Option.toList, List.cons_append, List.nil_append]
  refine lv_istore (lv' := [(6, _), (0, _), (1, _), (2, _), (3, _), (4, _), (5, _)]) hx hb dL_law_468 hl (by decide) rfl (fun ls hl => ?_)
  refine lv_aload_n hx hb dL_law_470 rfl (lv_at hl 3 rfl) ?_
  refine lv_aload_n hx hb dL_law_471 rfl (lv_at hl 1 rfl) ?_
  refine lv_iload hx hb dL_law_472 (lv_at hl 6 rfl) ?_
  refine lv_iconst (v := 1) hx hb dL_law_474 (by decide) ?_
  refine lv_iadd hx hb dL_law_475 ?_
  refine g_inp (j := 1) C hin ha0 hS (nI_add i 1) (by omega) hn dL_law_476 ?_
  refine lv_aload_n hx hb dL_law_477 rfl (lv_at hl 1 rfl) ?_
  refine lv_iload hx hb dL_law_478 (lv_at hl 6 rfl) ?_
  refine lv_iconst (v := 2) hx hb dL_law_480 (by decide) ?_
  refine lv_iadd hx hb dL_law_481 ?_
  refine g_inp (j := 2) C hin ha0 hS (nI_add i 2) (by omega) hn dL_law_482 ?_
  refine lv_aload_n hx hb dL_law_483 rfl (lv_at hl 1 rfl) ?_
  refine lv_iload hx hb dL_law_484 (lv_at hl 6 rfl) ?_
  refine lv_iconst (v := 3) hx hb dL_law_486 (by decide) ?_
  refine lv_iadd hx hb dL_law_487 ?_
  refine g_inp (j := 3) C hin ha0 hS (nI_add i 3) (by omega) hn dL_law_488 ?_
  refine lv_aload_n hx hb dL_law_489 rfl (lv_at hl 1 rfl) ?_
  refine lv_iload hx hb dL_law_490 (lv_at hl 6 rfl) ?_
  refine lv_iconst (v := 4) hx hb dL_law_492 (by decide) ?_
  refine lv_iadd hx hb dL_law_493 ?_
  refine g_inp (j := 4) C hin ha0 hS (nI_add i 4) (by omega) hn dL_law_494 ?_
  refine lv_aload_n hx hb dL_law_495 rfl (lv_at hl 1 rfl) ?_
  refine lv_iload hx hb dL_law_496 (lv_at hl 6 rfl) ?_
  refine lv_iconst (v := 5) hx hb dL_law_498 (by decide) ?_
  refine lv_iadd hx hb dL_law_499 ?_
  refine g_inp (j := 5) C hin ha0 hS (nI_add i 5) (by omega) hn dL_law_500 ?_
  refine g_cVL C hS (fun _ h => h) hM hl (fun _ h => h) (m_mail hfl Γ _ _ (f (i + 1)) (f (i + 2)) (f (i + 3)) (f (i + 4)) (f (i + 5)) M w r ) kX7_mail t_1430 (HM.recv C hM clo_7 h71) dL_law_501 rfl rfl (Nat.le_of_ble_eq_true rfl) (by decide) hRm hf0 (fun H locs hM hS => ?_)
  replace hM : HM Γ K1 M2 H := by rw [hM2]; exact hM
  refine lv_istore (lv' := [(7, _), (6, _), (0, _), (1, _), (2, _), (3, _), (4, _), (5, _)]) hx hb dL_law_504 hl (by decide) rfl (fun ls hl => ?_)
  refine lv_aload_n hx hb dL_law_506 rfl (lv_at hl 4 rfl) ?_
  refine g_cVL C hS (fun _ h => h) hM hl (fun _ h => h.elim) (m_thrown hfl Γ _ _ h72) kX7_thrown t_1391 (HM.recv C hM clo_7 h72) dL_law_507 rfl rfl (Nat.le_of_ble_eq_true rfl) (by decide) hRm hf0 (fun H locs hM hS => ?_)
  refine lv_iload hx hb dL_law_510 (lv_at hl 1 rfl) ?_
  refine lv_icmp_eq (tgt := 517) hx hb dL_law_512 (by decide) (fun _ => ?_) (fun z => absurd hthr z)
  refine lv_iload hx hb dL_law_517 (lv_at hl 1 rfl) ?_
  refine lv_if_ne (tgt := 534) hx hb dL_law_519 (by decide) (fun c9 => ?_) (fun c9 => ?_)
  · refine lv_goto (tgt := 2497) hx hb dL_law_534 (by decide) ?_
    exact kk K1 _ _ _ hM hS (lv_sub hl [2, 3, 4, 5, 6, 7] rfl)
  · have h0 : rMail M (f (i + 1)) (f (i + 2)) (f (i + 3)) (f (i + 4)) (f (i + 5)) = 0 := nI_zero hr9 c9
    refine lv_aload_n hx hb dL_law_522 rfl (lv_at hl 5 rfl) ?_
    refine lv_iconst (v := 0) hx hb dL_law_523 (by decide) ?_
    refine g_lald C hM h392 dL_law_524 ?_
    refine lv_iload hx hb dL_law_525 (lv_at hl 0 rfl) ?_
    refine lv_i2l hx hb dL_law_527 rfl ?_
    refine g_lcmp0 hx hb dL_law_528 (hval h0) ?_
    refine lv_if_eq (tgt := 534) hx hb dL_law_529 (by decide) (fun _ => ?_) (fun z => absurd rfl z)
    refine lv_goto (tgt := 2497) hx hb dL_law_534 (by decide) ?_
    exact kk K1 _ _ _ hM hS (lv_sub hl [2, 3, 4, 5, 6, 7] rfl)
set_option maxHeartbeats 1500000 in
set_option maxRecDepth 100000 in
theorem arm_5 {l : Launch} (hfl : l.stackTraces = false) {Γ : Gm} {p : Program} {e : Env} {R : Room} {s : State} {m : MethodId} {args : Array Value} {below : List Frame} {meth : Method} {c : Code} {H : Heap} {locs : List Loc} {cells slots : Nat} {Q : State → Prop} {K : Nat → Nat → Nat} {M : Mem} {ls : Array Slot} {a0 n i : Nat} {f : Nat → Int32}
    (C : Cx Γ p l s m args meth c cL_law 9 RL) (hRm : RmL R) (hin : InA s a0 n f) (ha0 : a0 < gB Γ) (hi6 : i + 6 ≤ n) (hn : n ≤ 3072) (hM : HM Γ K M H) (hS : va_S (gFree Γ) s.heap H locs) (hl : lv_has ls 9 (LV K a0 i)) (w : Wf M) (n7 : mN M 7 = 1) (h39 : mN M 39 = 1) (h40 : mN M 40 = 1)
    (h39b : mN (M) 39 = 1) (M1 M2 : Mem) (hM1 : M1 = if rTicketOf M (f (i + 1)) = 0 then sJ (M) 39 0 0 ((mT M 4 0 (tkM M (ix (f (i + 1))))).toInt64) else M) (hM2 : M2 = if rTicketOf M (f (i + 1)) = 0 then sT M1 7 19 0 0 else sT M1 7 19 0 (thI (rTicketOf M (f (i + 1)))))
    (r : RC M M1)  (h71 : 0 < mN M1 7) (h72 : 0 < mN M2 7) (h392 : 0 < mN M2 39) (hr9 : rTicketOf M (f (i + 1)) < 100) (hthr : mT M2 7 19 0 = nI (rTicketOf M (f (i + 1)))) (hval : rTicketOf M (f (i + 1)) = 0 → mJ M2 39 0 0 = ((if rTicketOf M (f (i + 1)) = 0 then nI (tkM M (ix (f (i + 1)))) else 0)).toInt64)
    (hf : cells + 2 ≤ R.cells ∧ slots + 12 ≤ R.slots) (hf0 : cells + 2 + 0 ≤ R.cells ∧ slots + 12 + 0 ≤ R.slots) (kk : ∀ (K1 : Nat → Nat → Nat) (H1 : Heap) (locs1 : List Loc) (ls1 : Array Slot), HM Γ K1 M2 H1 → va_S (gFree Γ) s.heap H1 locs1 → lv_has ls1 9 (LV K1 a0 i) → W p l e R s m args below meth c H1 locs1 (cells + 2) (slots + 12) Q (F0 m 2497 ls1 [])) :
    W p l e R s m args below meth c H locs cells slots Q (F0 m 537 ls []) := by
  have hx := C.1
  have hb := C.2.1
  have e6 := wn6 w
  refine lv_aload_n hx hb dL_law_537 rfl (lv_at hl 1 rfl) ?_
  refine lv_aload_n hx hb dL_law_538 rfl (lv_at hl 0 rfl) ?_
  refine lv_iload hx hb dL_law_539 (lv_at hl 5 rfl) ?_
  refine lv_iconst (v := 1) hx hb dL_law_541 (by decide) ?_
  refine lv_iadd hx hb dL_law_542 ?_
  refine g_inp (j := 1) C hin ha0 hS (nI_add i 1) (by omega) hn dL_law_543 ?_
  refine lv_aload_n hx hb dL_law_544 rfl (lv_at hl 3 rfl) ?_
  refine g_callHL C hS (fun _ h => h) hM hl (fun _ h => h) (h_ticketOf hfl Γ _ _ (f (i + 1)) w h39 h39b) kL_ticketOf t_877 dL_law_545 rfl rfl (Nat.le_of_ble_eq_true rfl) (by decide) hRm hf (fun v9 K1 M9 H locs hp hM hS _ _ => ?_)
  obtain ⟨rfl, hKK, hM9⟩ := hp
  obtain rfl : M1 = M9 := (hM9.trans hM1.symm).symm
  replace hl : lv_has ls 9 (LV K1 a0 i) := by rw [show LV K1 a0 i = LV K a0 i from by simp only [LV, hKK 6 0 e6, hKK 7 0 (show 0 < mN M 7 by omega), hKK 39 0 (show 0 < mN M 39 by omega), hKK 40 0 (show 0 < mN M 40 by omega)]]; exact hl
  dsimp only [Option.toList, List.cons_append, List.nil_append]
  refine lv_istore (lv' := [(6, _), (0, _), (1, _), (2, _), (3, _), (4, _), (5, _)]) hx hb dL_law_548 hl (by decide) rfl (fun ls hl => ?_)
  refine lv_aload_n hx hb dL_law_550 rfl (lv_at hl 3 rfl) ?_
  refine lv_aload_n hx hb dL_law_551 rfl (lv_at hl 1 rfl) ?_
  refine lv_iload hx hb dL_law_552 (lv_at hl 6 rfl) ?_
  refine lv_iconst (v := 1) hx hb dL_law_554 (by decide) ?_
  refine lv_iadd hx hb dL_law_555 ?_
  refine g_inp (j := 1) C hin ha0 hS (nI_add i 1) (by omega) hn dL_law_556 ?_
  refine g_cVL C hS (fun _ h => h) hM hl (fun _ h => h) (m_ticketOf hfl Γ _ _ (f (i + 1)) M w r ) kX7_ticketOf t_1462 (HM.recv C hM clo_7 h71) dL_law_557 rfl rfl (Nat.le_of_ble_eq_true rfl) (by decide) hRm hf0 (fun H locs hM hS => ?_)
  replace hM : HM Γ K1 M2 H := by rw [hM2]; exact hM
  refine lv_istore (lv' := [(7, _), (6, _), (0, _), (1, _), (2, _), (3, _), (4, _), (5, _)]) hx hb dL_law_560 hl (by decide) rfl (fun ls hl => ?_)
  refine lv_aload_n hx hb dL_law_562 rfl (lv_at hl 4 rfl) ?_
  refine g_cVL C hS (fun _ h => h) hM hl (fun _ h => h.elim) (m_thrown hfl Γ _ _ h72) kX7_thrown t_1391 (HM.recv C hM clo_7 h72) dL_law_563 rfl rfl (Nat.le_of_ble_eq_true rfl) (by decide) hRm hf0 (fun H locs hM hS => ?_)
  refine lv_iload hx hb dL_law_566 (lv_at hl 1 rfl) ?_
  refine lv_icmp_eq (tgt := 573) hx hb dL_law_568 (by decide) (fun _ => ?_) (fun z => absurd hthr z)
  refine lv_iload hx hb dL_law_573 (lv_at hl 1 rfl) ?_
  refine lv_if_ne (tgt := 590) hx hb dL_law_575 (by decide) (fun c9 => ?_) (fun c9 => ?_)
  · refine lv_goto (tgt := 2497) hx hb dL_law_590 (by decide) ?_
    exact kk K1 _ _ _ hM hS (lv_sub hl [2, 3, 4, 5, 6, 7] rfl)
  · have h0 : rTicketOf M (f (i + 1)) = 0 := nI_zero hr9 c9
    refine lv_aload_n hx hb dL_law_578 rfl (lv_at hl 5 rfl) ?_
    refine lv_iconst (v := 0) hx hb dL_law_579 (by decide) ?_
    refine g_lald C hM h392 dL_law_580 ?_
    refine lv_iload hx hb dL_law_581 (lv_at hl 0 rfl) ?_
    refine lv_i2l hx hb dL_law_583 rfl ?_
    refine g_lcmp0 hx hb dL_law_584 (hval h0) ?_
    refine lv_if_eq (tgt := 590) hx hb dL_law_585 (by decide) (fun _ => ?_) (fun z => absurd rfl z)
    refine lv_goto (tgt := 2497) hx hb dL_law_590 (by decide) ?_
    exact kk K1 _ _ _ hM hS (lv_sub hl [2, 3, 4, 5, 6, 7] rfl)
set_option maxHeartbeats 1500000 in
set_option maxRecDepth 100000 in
theorem arm_6 {l : Launch} (hfl : l.stackTraces = false) {Γ : Gm} {p : Program} {e : Env} {R : Room} {s : State} {m : MethodId} {args : Array Value} {below : List Frame} {meth : Method} {c : Code} {H : Heap} {locs : List Loc} {cells slots : Nat} {Q : State → Prop} {K : Nat → Nat → Nat} {M : Mem} {ls : Array Slot} {a0 n i : Nat} {f : Nat → Int32}
    (C : Cx Γ p l s m args meth c cL_law 9 RL) (hRm : RmL R) (hin : InA s a0 n f) (ha0 : a0 < gB Γ) (hi6 : i + 6 ≤ n) (hn : n ≤ 3072) (hM : HM Γ K M H) (hS : va_S (gFree Γ) s.heap H locs) (hl : lv_has ls 9 (LV K a0 i)) (w : Wf M) (n7 : mN M 7 = 1) (h39 : mN M 39 = 1) (h40 : mN M 40 = 1)
    (r : RC M M)  (hf : cells + 0 ≤ R.cells ∧ slots + 0 ≤ R.slots) (kk : ∀ (K1 : Nat → Nat → Nat) (H1 : Heap) (locs1 : List Loc) (ls1 : Array Slot), HM Γ K1 (sT M 7 19 0 0) H1 → va_S (gFree Γ) s.heap H1 locs1 → lv_has ls1 9 (LV K1 a0 i) → W p l e R s m args below meth c H1 locs1 (cells + 0) (slots + 0) Q (F0 m 2497 ls1 [])) :
    W p l e R s m args below meth c H locs cells slots Q (F0 m 593 ls []) := by
  have hx := C.1
  have hb := C.2.1
  refine lv_aload_n hx hb dL_law_593 rfl (lv_at hl 1 rfl) ?_
  refine g_cVL C hS (fun _ h => h) hM hl (fun _ h => h.elim) (c_mails hfl Γ _ _ w) kX6_mails t_149 (HM.recv C hM clo_6 (wn6 w)) dL_law_594 rfl rfl (Nat.le_of_ble_eq_true rfl) (by decide) hRm hf (fun H locs hM hS => ?_)
  refine lv_aload_n hx hb dL_law_597 rfl (lv_at hl 2 rfl) ?_
  refine g_cVL C hS (fun _ h => h) hM hl (fun _ h => h) (m_mails hfl Γ _ _ M w r) kX7_mails t_1466 (HM.recv C hM clo_7 (by omega)) dL_law_598 rfl rfl (Nat.le_of_ble_eq_true rfl) (by decide) hRm hf (fun H locs hM hS => ?_)
  refine lv_icmp_eq (tgt := 2497) hx hb dL_law_601 (by decide) (fun _ => ?_) (fun z => absurd rfl z)
  exact kk K _ _ _ hM hS hl
set_option maxHeartbeats 1500000 in
set_option maxRecDepth 100000 in
theorem arm_7 {l : Launch} (hfl : l.stackTraces = false) {Γ : Gm} {p : Program} {e : Env} {R : Room} {s : State} {m : MethodId} {args : Array Value} {below : List Frame} {meth : Method} {c : Code} {H : Heap} {locs : List Loc} {cells slots : Nat} {Q : State → Prop} {K : Nat → Nat → Nat} {M : Mem} {ls : Array Slot} {a0 n i : Nat} {f : Nat → Int32}
    (C : Cx Γ p l s m args meth c cL_law 9 RL) (hRm : RmL R) (hin : InA s a0 n f) (ha0 : a0 < gB Γ) (hi6 : i + 6 ≤ n) (hn : n ≤ 3072) (hM : HM Γ K M H) (hS : va_S (gFree Γ) s.heap H locs) (hl : lv_has ls 9 (LV K a0 i)) (w : Wf M) (n7 : mN M 7 = 1) (h39 : mN M 39 = 1) (h40 : mN M 40 = 1)
    (h39b : mN (M) 39 = 1) (M1 M2 : Mem) (hM1 : M1 = if rMailsOf M (f (i + 1)) = 0 then sJ (M) 39 0 0 ((nI (mL M 8 (ix (f (i + 1)))).length).toInt64) else M) (hM2 : M2 = if rMailsOf M (f (i + 1)) = 0 then sT M1 7 19 0 0 else sT M1 7 19 0 (thI (rMailsOf M (f (i + 1)))))
    (r : RC M M1)  (h71 : 0 < mN M1 7) (h72 : 0 < mN M2 7) (h392 : 0 < mN M2 39) (hr9 : rMailsOf M (f (i + 1)) < 100) (hthr : mT M2 7 19 0 = nI (rMailsOf M (f (i + 1)))) (hval : rMailsOf M (f (i + 1)) = 0 → mJ M2 39 0 0 = ((if rMailsOf M (f (i + 1)) = 0 then coN M (ix (f (i + 1))) (mN M 2) else 0)).toInt64)
    (hf : cells + 2 ≤ R.cells ∧ slots + 12 ≤ R.slots) (hf0 : cells + 2 + 0 ≤ R.cells ∧ slots + 12 + 0 ≤ R.slots) (kk : ∀ (K1 : Nat → Nat → Nat) (H1 : Heap) (locs1 : List Loc) (ls1 : Array Slot), HM Γ K1 M2 H1 → va_S (gFree Γ) s.heap H1 locs1 → lv_has ls1 9 (LV K1 a0 i) → W p l e R s m args below meth c H1 locs1 (cells + 2) (slots + 12) Q (F0 m 2497 ls1 [])) :
    W p l e R s m args below meth c H locs cells slots Q (F0 m 606 ls []) := by
  have hx := C.1
  have hb := C.2.1
  have e6 := wn6 w
  refine lv_aload_n hx hb dL_law_606 rfl (lv_at hl 1 rfl) ?_
  refine lv_aload_n hx hb dL_law_607 rfl (lv_at hl 0 rfl) ?_
  refine lv_iload hx hb dL_law_608 (lv_at hl 5 rfl) ?_
  refine lv_iconst (v := 1) hx hb dL_law_610 (by decide) ?_
  refine lv_iadd hx hb dL_law_611 ?_
  refine g_inp (j := 1) C hin ha0 hS (nI_add i 1) (by omega) hn dL_law_612 ?_
  refine lv_aload_n hx hb dL_law_613 rfl (lv_at hl 3 rfl) ?_
  refine g_callHL C hS (fun _ h => h) hM hl (fun _ h => h) (h_mailsOf hfl Γ _ _ (f (i + 1)) w h39 h39b) kL_mailsOf t_885 dL_law_614 rfl rfl (Nat.le_of_ble_eq_true rfl) (by decide) hRm hf (fun v9 K1 M9 H locs hp hM hS _ _ => ?_)
  obtain ⟨rfl, hKK, hM9⟩ := hp
  obtain rfl : M1 = M9 := (hM9.trans hM1.symm).symm
  replace hl : lv_has ls 9 (LV K1 a0 i) := by rw [show LV K1 a0 i = LV K a0 i from by simp only [LV, hKK 6 0 e6, hKK 7 0 (show 0 < mN M 7 by omega), hKK 39 0 (show 0 < mN M 39 by omega), hKK 40 0 (show 0 < mN M 40 by omega)]]; exact hl
  dsimp only [Option.toList, List.cons_append, List.nil_append]
  refine lv_istore (lv' := [(6, _), (0, _), (1, _), (2, _), (3, _), (4, _), (5, _)]) hx hb dL_law_617 hl (by decide) rfl (fun ls hl => ?_)
  refine lv_aload_n hx hb dL_law_619 rfl (lv_at hl 3 rfl) ?_
  refine lv_aload_n hx hb dL_law_620 rfl (lv_at hl 1 rfl) ?_
  refine lv_iload hx hb dL_law_621 (lv_at hl 6 rfl) ?_
  refine lv_iconst (v := 1) hx hb dL_law_623 (by decide) ?_
  refine lv_iadd hx hb dL_law_624 ?_
  refine g_inp (j := 1) C hin ha0 hS (nI_add i 1) (by omega) hn dL_law_625 ?_
  refine g_cVL C hS (fun _ h => h) hM hl (fun _ h => h) (m_mailsOf hfl Γ _ _ (f (i + 1)) M w r ) kX7_mailsOf t_1470 (HM.recv C hM clo_7 h71) dL_law_626 rfl rfl (Nat.le_of_ble_eq_true rfl) (by decide) hRm hf0 (fun H locs hM hS => ?_)
  replace hM : HM Γ K1 M2 H := by rw [hM2]; exact hM
  refine lv_istore (lv' := [(7, _), (6, _), (0, _), (1, _), (2, _), (3, _), (4, _), (5, _)]) hx hb dL_law_629 hl (by decide) rfl (fun ls hl => ?_)
  refine lv_aload_n hx hb dL_law_631 rfl (lv_at hl 4 rfl) ?_
  refine g_cVL C hS (fun _ h => h) hM hl (fun _ h => h.elim) (m_thrown hfl Γ _ _ h72) kX7_thrown t_1391 (HM.recv C hM clo_7 h72) dL_law_632 rfl rfl (Nat.le_of_ble_eq_true rfl) (by decide) hRm hf0 (fun H locs hM hS => ?_)
  refine lv_iload hx hb dL_law_635 (lv_at hl 1 rfl) ?_
  refine lv_icmp_eq (tgt := 642) hx hb dL_law_637 (by decide) (fun _ => ?_) (fun z => absurd hthr z)
  refine lv_iload hx hb dL_law_642 (lv_at hl 1 rfl) ?_
  refine lv_if_ne (tgt := 659) hx hb dL_law_644 (by decide) (fun c9 => ?_) (fun c9 => ?_)
  · refine lv_goto (tgt := 2497) hx hb dL_law_659 (by decide) ?_
    exact kk K1 _ _ _ hM hS (lv_sub hl [2, 3, 4, 5, 6, 7] rfl)
  · have h0 : rMailsOf M (f (i + 1)) = 0 := nI_zero hr9 c9
    refine lv_aload_n hx hb dL_law_647 rfl (lv_at hl 5 rfl) ?_
    refine lv_iconst (v := 0) hx hb dL_law_648 (by decide) ?_
    refine g_lald C hM h392 dL_law_649 ?_
    refine lv_iload hx hb dL_law_650 (lv_at hl 0 rfl) ?_
    refine lv_i2l hx hb dL_law_652 rfl ?_
    refine g_lcmp0 hx hb dL_law_653 (hval h0) ?_
    refine lv_if_eq (tgt := 659) hx hb dL_law_654 (by decide) (fun _ => ?_) (fun z => absurd rfl z)
    refine lv_goto (tgt := 2497) hx hb dL_law_659 (by decide) ?_
    exact kk K1 _ _ _ hM hS (lv_sub hl [2, 3, 4, 5, 6, 7] rfl)
set_option maxHeartbeats 1500000 in
set_option maxRecDepth 100000 in
theorem arm_8 {l : Launch} (hfl : l.stackTraces = false) {Γ : Gm} {p : Program} {e : Env} {R : Room} {s : State} {m : MethodId} {args : Array Value} {below : List Frame} {meth : Method} {c : Code} {H : Heap} {locs : List Loc} {cells slots : Nat} {Q : State → Prop} {K : Nat → Nat → Nat} {M : Mem} {ls : Array Slot} {a0 n i : Nat} {f : Nat → Int32}
    (C : Cx Γ p l s m args meth c cL_law 9 RL) (hRm : RmL R) (hin : InA s a0 n f) (ha0 : a0 < gB Γ) (hi6 : i + 6 ≤ n) (hn : n ≤ 3072) (hM : HM Γ K M H) (hS : va_S (gFree Γ) s.heap H locs) (hl : lv_has ls 9 (LV K a0 i)) (w : Wf M) (n7 : mN M 7 = 1) (h39 : mN M 39 = 1) (h40 : mN M 40 = 1)
    (h39b : mN (M) 39 = 1) (M1 M2 : Mem) (hM1 : M1 = if rMailAt M (f (i + 1)) (f (i + 2)) = 0 then sJ (M) 39 0 0 ((mT M 2 0 ((mL M 8 (ix (f (i + 1)))).getD (ix (f (i + 2))) 0)).toInt64) else M) (hM2 : M2 = if rMailAt M (f (i + 1)) (f (i + 2)) = 0 then sT M1 7 19 0 0 else sT M1 7 19 0 (thI (rMailAt M (f (i + 1)) (f (i + 2)))))
    (r : RC M M1) (hom : ix (f (i + 1)) < mN M 4 → MlOk M (ix (f (i + 1)))) (h71 : 0 < mN M1 7) (h72 : 0 < mN M2 7) (h392 : 0 < mN M2 39) (hr9 : rMailAt M (f (i + 1)) (f (i + 2)) < 100) (hthr : mT M2 7 19 0 = nI (rMailAt M (f (i + 1)) (f (i + 2)))) (hval : rMailAt M (f (i + 1)) (f (i + 2)) = 0 → mJ M2 39 0 0 = ((if rMailAt M (f (i + 1)) (f (i + 2)) = 0 then nI ((mL M 8 (ix (f (i + 1)))).getD (ix (f (i + 2))) 0) else 0)).toInt64)
    (hf : cells + 2 ≤ R.cells ∧ slots + 12 ≤ R.slots) (hf0 : cells + 2 + 0 ≤ R.cells ∧ slots + 12 + 0 ≤ R.slots) (kk : ∀ (K1 : Nat → Nat → Nat) (H1 : Heap) (locs1 : List Loc) (ls1 : Array Slot), HM Γ K1 M2 H1 → va_S (gFree Γ) s.heap H1 locs1 → lv_has ls1 9 (LV K1 a0 i) → W p l e R s m args below meth c H1 locs1 (cells + 2) (slots + 12) Q (F0 m 2497 ls1 [])) :
    W p l e R s m args below meth c H locs cells slots Q (F0 m 662 ls []) := by
  have hx := C.1
  have hb := C.2.1
  have e6 := wn6 w
  refine lv_aload_n hx hb dL_law_662 rfl (lv_at hl 1 rfl) ?_
  refine lv_aload_n hx hb dL_law_663 rfl (lv_at hl 0 rfl) ?_
  refine lv_iload hx hb dL_law_664 (lv_at hl 5 rfl) ?_
  refine lv_iconst (v := 1) hx hb dL_law_666 (by decide) ?_
  refine lv_iadd hx hb dL_law_667 ?_
  refine g_inp (j := 1) C hin ha0 hS (nI_add i 1) (by omega) hn dL_law_668 ?_
  refine lv_aload_n hx hb dL_law_669 rfl (lv_at hl 0 rfl) ?_
  refine lv_iload hx hb dL_law_670 (lv_at hl 5 rfl) ?_
  refine lv_iconst (v := 2) hx hb dL_law_672 (by decide) ?_
  refine lv_iadd hx hb dL_law_673 ?_
  refine g_inp (j := 2) C hin ha0 hS (nI_add i 2) (by omega) hn dL_law_674 ?_
  refine lv_aload_n hx hb dL_law_675 rfl (lv_at hl 3 rfl) ?_
  refine g_callHL C hS (fun _ h => h) hM hl (fun _ h => h) (h_mailAt hfl Γ _ _ (f (i + 1)) (f (i + 2)) w h39 h39b) kL_mailAt t_915 dL_law_676 rfl rfl (Nat.le_of_ble_eq_true rfl) (by decide) hRm hf (fun v9 K1 M9 H locs hp hM hS _ _ => ?_)
  obtain ⟨rfl, hKK, hM9⟩ := hp
  obtain rfl : M1 = M9 := (hM9.trans hM1.symm).symm
  replace hl : lv_has ls 9 (LV K1 a0 i) := by rw [show LV K1 a0 i = LV K a0 i from by simp only [LV, hKK 6 0 e6, hKK 7 0 (show 0 < mN M 7 by omega), hKK 39 0 (show 0 < mN M 39 by omega), hKK 40 0 (show 0 < mN M 40 by omega)]]; exact hl
  dsimp only [Option.toList, List.cons_append, List.nil_append]
  refine lv_istore (lv' := [(6, _), (0, _), (1, _), (2, _), (3, _), (4, _), (5, _)]) hx hb dL_law_679 hl (by decide) rfl (fun ls hl => ?_)
  refine lv_aload_n hx hb dL_law_681 rfl (lv_at hl 3 rfl) ?_
  refine lv_aload_n hx hb dL_law_682 rfl (lv_at hl 1 rfl) ?_
  refine lv_iload hx hb dL_law_683 (lv_at hl 6 rfl) ?_
  refine lv_iconst (v := 1) hx hb dL_law_685 (by decide) ?_
  refine lv_iadd hx hb dL_law_686 ?_
  refine g_inp (j := 1) C hin ha0 hS (nI_add i 1) (by omega) hn dL_law_687 ?_
  refine lv_aload_n hx hb dL_law_688 rfl (lv_at hl 1 rfl) ?_
  refine lv_iload hx hb dL_law_689 (lv_at hl 6 rfl) ?_
  refine lv_iconst (v := 2) hx hb dL_law_691 (by decide) ?_
  refine lv_iadd hx hb dL_law_692 ?_
  refine g_inp (j := 2) C hin ha0 hS (nI_add i 2) (by omega) hn dL_law_693 ?_
  refine g_cVL C hS (fun _ h => h) hM hl (fun _ h => h) (m_mailAt hfl Γ _ _ (f (i + 1)) (f (i + 2)) M w r hom) kX7_mailAt t_1482 (HM.recv C hM clo_7 h71) dL_law_694 rfl rfl (Nat.le_of_ble_eq_true rfl) (by decide) hRm hf0 (fun H locs hM hS => ?_)
  replace hM : HM Γ K1 M2 H := by rw [hM2]; exact hM
  refine lv_istore (lv' := [(7, _), (6, _), (0, _), (1, _), (2, _), (3, _), (4, _), (5, _)]) hx hb dL_law_697 hl (by decide) rfl (fun ls hl => ?_)
  refine lv_aload_n hx hb dL_law_699 rfl (lv_at hl 4 rfl) ?_
  refine g_cVL C hS (fun _ h => h) hM hl (fun _ h => h.elim) (m_thrown hfl Γ _ _ h72) kX7_thrown t_1391 (HM.recv C hM clo_7 h72) dL_law_700 rfl rfl (Nat.le_of_ble_eq_true rfl) (by decide) hRm hf0 (fun H locs hM hS => ?_)
  refine lv_iload hx hb dL_law_703 (lv_at hl 1 rfl) ?_
  refine lv_icmp_eq (tgt := 710) hx hb dL_law_705 (by decide) (fun _ => ?_) (fun z => absurd hthr z)
  refine lv_iload hx hb dL_law_710 (lv_at hl 1 rfl) ?_
  refine lv_if_ne (tgt := 727) hx hb dL_law_712 (by decide) (fun c9 => ?_) (fun c9 => ?_)
  · refine lv_goto (tgt := 2497) hx hb dL_law_727 (by decide) ?_
    exact kk K1 _ _ _ hM hS (lv_sub hl [2, 3, 4, 5, 6, 7] rfl)
  · have h0 : rMailAt M (f (i + 1)) (f (i + 2)) = 0 := nI_zero hr9 c9
    refine lv_aload_n hx hb dL_law_715 rfl (lv_at hl 5 rfl) ?_
    refine lv_iconst (v := 0) hx hb dL_law_716 (by decide) ?_
    refine g_lald C hM h392 dL_law_717 ?_
    refine lv_iload hx hb dL_law_718 (lv_at hl 0 rfl) ?_
    refine lv_i2l hx hb dL_law_720 rfl ?_
    refine g_lcmp0 hx hb dL_law_721 (hval h0) ?_
    refine lv_if_eq (tgt := 727) hx hb dL_law_722 (by decide) (fun _ => ?_) (fun z => absurd rfl z)
    refine lv_goto (tgt := 2497) hx hb dL_law_727 (by decide) ?_
    exact kk K1 _ _ _ hM hS (lv_sub hl [2, 3, 4, 5, 6, 7] rfl)
set_option maxHeartbeats 1500000 in
set_option maxRecDepth 100000 in
theorem arm_9 {l : Launch} (hfl : l.stackTraces = false) {Γ : Gm} {p : Program} {e : Env} {R : Room} {s : State} {m : MethodId} {args : Array Value} {below : List Frame} {meth : Method} {c : Code} {H : Heap} {locs : List Loc} {cells slots : Nat} {Q : State → Prop} {K : Nat → Nat → Nat} {M : Mem} {ls : Array Slot} {a0 n i : Nat} {f : Nat → Int32}
    (C : Cx Γ p l s m args meth c cL_law 9 RL) (hRm : RmL R) (hin : InA s a0 n f) (ha0 : a0 < gB Γ) (hi6 : i + 6 ≤ n) (hn : n ≤ 3072) (hM : HM Γ K M H) (hS : va_S (gFree Γ) s.heap H locs) (hl : lv_has ls 9 (LV K a0 i)) (w : Wf M) (n7 : mN M 7 = 1) (h39 : mN M 39 = 1) (h40 : mN M 40 = 1)
    (r : RC M M)  (hf : cells + 0 ≤ R.cells ∧ slots + 0 ≤ R.slots) (kk : ∀ (K1 : Nat → Nat → Nat) (H1 : Heap) (locs1 : List Loc) (ls1 : Array Slot), HM Γ K1 (sT M 7 19 0 0) H1 → va_S (gFree Γ) s.heap H1 locs1 → lv_has ls1 9 (LV K1 a0 i) → W p l e R s m args below meth c H1 locs1 (cells + 0) (slots + 0) Q (F0 m 2497 ls1 [])) :
    W p l e R s m args below meth c H locs cells slots Q (F0 m 730 ls []) := by
  have hx := C.1
  have hb := C.2.1
  refine lv_aload_n hx hb dL_law_730 rfl (lv_at hl 1 rfl) ?_
  refine g_cVL C hS (fun _ h => h) hM hl (fun _ h => h.elim) (c_tickets hfl Γ _ _ w) kX6_tickets t_157 (HM.recv C hM clo_6 (wn6 w)) dL_law_731 rfl rfl (Nat.le_of_ble_eq_true rfl) (by decide) hRm hf (fun H locs hM hS => ?_)
  refine lv_aload_n hx hb dL_law_734 rfl (lv_at hl 2 rfl) ?_
  refine g_cVL C hS (fun _ h => h) hM hl (fun _ h => h) (m_tickets hfl Γ _ _ M w r) kX7_tickets t_1486 (HM.recv C hM clo_7 (by omega)) dL_law_735 rfl rfl (Nat.le_of_ble_eq_true rfl) (by decide) hRm hf (fun H locs hM hS => ?_)
  refine lv_icmp_eq (tgt := 2497) hx hb dL_law_738 (by decide) (fun _ => ?_) (fun z => absurd rfl z)
  exact kk K _ _ _ hM hS hl
set_option maxHeartbeats 1500000 in
set_option maxRecDepth 100000 in
theorem arm_10 {l : Launch} (hfl : l.stackTraces = false) {Γ : Gm} {p : Program} {e : Env} {R : Room} {s : State} {m : MethodId} {args : Array Value} {below : List Frame} {meth : Method} {c : Code} {H : Heap} {locs : List Loc} {cells slots : Nat} {Q : State → Prop} {K : Nat → Nat → Nat} {M : Mem} {ls : Array Slot} {a0 n i : Nat} {f : Nat → Int32}
    (C : Cx Γ p l s m args meth c cL_law 9 RL) (hRm : RmL R) (hin : InA s a0 n f) (ha0 : a0 < gB Γ) (hi6 : i + 6 ≤ n) (hn : n ≤ 3072) (hM : HM Γ K M H) (hS : va_S (gFree Γ) s.heap H locs) (hl : lv_has ls 9 (LV K a0 i)) (w : Wf M) (n7 : mN M 7 = 1) (h39 : mN M 39 = 1) (h40 : mN M 40 = 1)
    (hst : narrow .char (.int (stM M (ix (f (i + 1))))) = .int (stM M (ix (f (i + 1))))) (h39b : mN (M) 39 = 1) (M1 M2 : Mem) (hM1 : M1 = if rStateOf M (f (i + 1)) = 0 then sJ (M) 39 0 0 ((stM M (ix (f (i + 1)))).toInt64) else M) (hM2 : M2 = if rStateOf M (f (i + 1)) = 0 then sT M1 7 19 0 0 else sT M1 7 19 0 (thI (rStateOf M (f (i + 1)))))
    (r : RC M M1) (hstm : inN (f (i + 1)) (mN M 4) = true → narrow .char (.int (mT M 4 6 (ix (f (i + 1))))) = .int (mT M 4 6 (ix (f (i + 1))))) (h71 : 0 < mN M1 7) (h72 : 0 < mN M2 7) (h392 : 0 < mN M2 39) (hr9 : rStateOf M (f (i + 1)) < 100) (hthr : mT M2 7 19 0 = nI (rStateOf M (f (i + 1)))) (hval : rStateOf M (f (i + 1)) = 0 → mJ M2 39 0 0 = ((if rStateOf M (f (i + 1)) = 0 then stM M (ix (f (i + 1))) else 63)).toInt64)
    (hf : cells + 2 ≤ R.cells ∧ slots + 12 ≤ R.slots) (hf0 : cells + 2 + 0 ≤ R.cells ∧ slots + 12 + 0 ≤ R.slots) (kk : ∀ (K1 : Nat → Nat → Nat) (H1 : Heap) (locs1 : List Loc) (ls1 : Array Slot), HM Γ K1 M2 H1 → va_S (gFree Γ) s.heap H1 locs1 → lv_has ls1 9 (LV K1 a0 i) → W p l e R s m args below meth c H1 locs1 (cells + 2) (slots + 12) Q (F0 m 2497 ls1 [])) :
    W p l e R s m args below meth c H locs cells slots Q (F0 m 743 ls []) := by
  have hx := C.1
  have hb := C.2.1
  have e6 := wn6 w
  refine lv_aload_n hx hb dL_law_743 rfl (lv_at hl 1 rfl) ?_
  refine lv_aload_n hx hb dL_law_744 rfl (lv_at hl 0 rfl) ?_
  refine lv_iload hx hb dL_law_745 (lv_at hl 5 rfl) ?_
  refine lv_iconst (v := 1) hx hb dL_law_747 (by decide) ?_
  refine lv_iadd hx hb dL_law_748 ?_
  refine g_inp (j := 1) C hin ha0 hS (nI_add i 1) (by omega) hn dL_law_749 ?_
  refine lv_aload_n hx hb dL_law_750 rfl (lv_at hl 3 rfl) ?_
  refine g_callHL C hS (fun _ h => h) hM hl (fun _ h => h) (h_stateOf hfl Γ _ _ (f (i + 1)) w hst h39 h39b) kL_stateOf t_923 dL_law_751 rfl rfl (Nat.le_of_ble_eq_true rfl) (by decide) hRm hf (fun v9 K1 M9 H locs hp hM hS _ _ => ?_)
  obtain ⟨rfl, hKK, hM9⟩ := hp
  obtain rfl : M1 = M9 := (hM9.trans hM1.symm).symm
  replace hl : lv_has ls 9 (LV K1 a0 i) := by rw [show LV K1 a0 i = LV K a0 i from by simp only [LV, hKK 6 0 e6, hKK 7 0 (show 0 < mN M 7 by omega), hKK 39 0 (show 0 < mN M 39 by omega), hKK 40 0 (show 0 < mN M 40 by omega)]]; exact hl
  dsimp only [Option.toList, List.cons_append, List.nil_append]
  refine lv_istore (lv' := [(6, _), (0, _), (1, _), (2, _), (3, _), (4, _), (5, _)]) hx hb dL_law_754 hl (by decide) rfl (fun ls hl => ?_)
  refine lv_aload_n hx hb dL_law_756 rfl (lv_at hl 3 rfl) ?_
  refine lv_aload_n hx hb dL_law_757 rfl (lv_at hl 1 rfl) ?_
  refine lv_iload hx hb dL_law_758 (lv_at hl 6 rfl) ?_
  refine lv_iconst (v := 1) hx hb dL_law_760 (by decide) ?_
  refine lv_iadd hx hb dL_law_761 ?_
  refine g_inp (j := 1) C hin ha0 hS (nI_add i 1) (by omega) hn dL_law_762 ?_
  refine g_cVL C hS (fun _ h => h) hM hl (fun _ h => h) (m_stateOf hfl Γ _ _ (f (i + 1)) M w r hstm) kX7_stateOf t_1490 (HM.recv C hM clo_7 h71) dL_law_763 rfl rfl (Nat.le_of_ble_eq_true rfl) (by decide) hRm hf0 (fun H locs hM hS => ?_)
  replace hM : HM Γ K1 M2 H := by rw [hM2]; exact hM
  refine lv_istore (lv' := [(7, _), (6, _), (0, _), (1, _), (2, _), (3, _), (4, _), (5, _)]) hx hb dL_law_766 hl (by decide) rfl (fun ls hl => ?_)
  refine lv_aload_n hx hb dL_law_768 rfl (lv_at hl 4 rfl) ?_
  refine g_cVL C hS (fun _ h => h) hM hl (fun _ h => h.elim) (m_thrown hfl Γ _ _ h72) kX7_thrown t_1391 (HM.recv C hM clo_7 h72) dL_law_769 rfl rfl (Nat.le_of_ble_eq_true rfl) (by decide) hRm hf0 (fun H locs hM hS => ?_)
  refine lv_iload hx hb dL_law_772 (lv_at hl 1 rfl) ?_
  refine lv_icmp_eq (tgt := 779) hx hb dL_law_774 (by decide) (fun _ => ?_) (fun z => absurd hthr z)
  refine lv_iload hx hb dL_law_779 (lv_at hl 1 rfl) ?_
  refine lv_if_ne (tgt := 796) hx hb dL_law_781 (by decide) (fun c9 => ?_) (fun c9 => ?_)
  · refine lv_goto (tgt := 2497) hx hb dL_law_796 (by decide) ?_
    exact kk K1 _ _ _ hM hS (lv_sub hl [2, 3, 4, 5, 6, 7] rfl)
  · have h0 : rStateOf M (f (i + 1)) = 0 := nI_zero hr9 c9
    refine lv_aload_n hx hb dL_law_784 rfl (lv_at hl 5 rfl) ?_
    refine lv_iconst (v := 0) hx hb dL_law_785 (by decide) ?_
    refine g_lald C hM h392 dL_law_786 ?_
    refine lv_iload hx hb dL_law_787 (lv_at hl 0 rfl) ?_
    refine lv_i2l hx hb dL_law_789 rfl ?_
    refine g_lcmp0 hx hb dL_law_790 (hval h0) ?_
    refine lv_if_eq (tgt := 796) hx hb dL_law_791 (by decide) (fun _ => ?_) (fun z => absurd rfl z)
    refine lv_goto (tgt := 2497) hx hb dL_law_796 (by decide) ?_
    exact kk K1 _ _ _ hM hS (lv_sub hl [2, 3, 4, 5, 6, 7] rfl)
set_option maxHeartbeats 1500000 in
set_option maxRecDepth 100000 in
theorem arm_11 {l : Launch} (hfl : l.stackTraces = false) {Γ : Gm} {p : Program} {e : Env} {R : Room} {s : State} {m : MethodId} {args : Array Value} {below : List Frame} {meth : Method} {c : Code} {H : Heap} {locs : List Loc} {cells slots : Nat} {Q : State → Prop} {K : Nat → Nat → Nat} {M : Mem} {ls : Array Slot} {a0 n i : Nat} {f : Nat → Int32}
    (C : Cx Γ p l s m args meth c cL_law 9 RL) (hRm : RmL R) (hin : InA s a0 n f) (ha0 : a0 < gB Γ) (hi6 : i + 6 ≤ n) (hn : n ≤ 3072) (hM : HM Γ K M H) (hS : va_S (gFree Γ) s.heap H locs) (hl : lv_has ls 9 (LV K a0 i)) (w : Wf M) (n7 : mN M 7 = 1) (h39 : mN M 39 = 1) (h40 : mN M 40 = 1)
    (rk : Nat → Nat) (hrk : ∀ t u, mP M 4 13 t = some u → rk u < rk t) (h39b : mN (M) 39 = 1) (M1 M2 : Mem) (hM1 : M1 = if rMergedInto M (f (i + 1)) = 0 then sJ (M) 39 0 0 ((mT M 4 0 (rtM M (rk (ix (f (i + 1)))) (ix (f (i + 1))))).toInt64) else M) (hM2 : M2 = if rMergedInto M (f (i + 1)) = 0 then sT M1 7 19 0 0 else sT M1 7 19 0 (thI (rMergedInto M (f (i + 1)))))
    (r : RC M M1)  (h71 : 0 < mN M1 7) (h72 : 0 < mN M2 7) (h392 : 0 < mN M2 39) (hr9 : rMergedInto M (f (i + 1)) < 100) (hthr : mT M2 7 19 0 = nI (rMergedInto M (f (i + 1)))) (hval : rMergedInto M (f (i + 1)) = 0 → mJ M2 39 0 0 = ((if rMergedInto M (f (i + 1)) = 0 then nI (rtM M (rk (ix (f (i + 1)))) (ix (f (i + 1)))) else 0)).toInt64)
    (hf : cells + 2 ≤ R.cells ∧ slots + 12 ≤ R.slots) (hf0 : cells + 2 + 0 ≤ R.cells ∧ slots + 12 + 0 ≤ R.slots) (kk : ∀ (K1 : Nat → Nat → Nat) (H1 : Heap) (locs1 : List Loc) (ls1 : Array Slot), HM Γ K1 M2 H1 → va_S (gFree Γ) s.heap H1 locs1 → lv_has ls1 9 (LV K1 a0 i) → W p l e R s m args below meth c H1 locs1 (cells + 2) (slots + 12) Q (F0 m 2497 ls1 [])) :
    W p l e R s m args below meth c H locs cells slots Q (F0 m 799 ls []) := by
  have hx := C.1
  have hb := C.2.1
  have e6 := wn6 w
  refine lv_aload_n hx hb dL_law_799 rfl (lv_at hl 1 rfl) ?_
  refine lv_aload_n hx hb dL_law_800 rfl (lv_at hl 0 rfl) ?_
  refine lv_iload hx hb dL_law_801 (lv_at hl 5 rfl) ?_
  refine lv_iconst (v := 1) hx hb dL_law_803 (by decide) ?_
  refine lv_iadd hx hb dL_law_804 ?_
  refine g_inp (j := 1) C hin ha0 hS (nI_add i 1) (by omega) hn dL_law_805 ?_
  refine lv_aload_n hx hb dL_law_806 rfl (lv_at hl 3 rfl) ?_
  refine g_callHL C hS (fun _ h => h) hM hl (fun _ h => h) (h_mergedInto hfl Γ _ _ (f (i + 1)) w rk hrk h39 h39b) kL_mergedInto t_930 dL_law_807 rfl rfl (Nat.le_of_ble_eq_true rfl) (by decide) hRm hf (fun v9 K1 M9 H locs hp hM hS _ _ => ?_)
  obtain ⟨rfl, hKK, hM9⟩ := hp
  obtain rfl : M1 = M9 := (hM9.trans hM1.symm).symm
  replace hl : lv_has ls 9 (LV K1 a0 i) := by rw [show LV K1 a0 i = LV K a0 i from by simp only [LV, hKK 6 0 e6, hKK 7 0 (show 0 < mN M 7 by omega), hKK 39 0 (show 0 < mN M 39 by omega), hKK 40 0 (show 0 < mN M 40 by omega)]]; exact hl
  dsimp only [Option.toList, List.cons_append, List.nil_append]
  refine lv_istore (lv' := [(6, _), (0, _), (1, _), (2, _), (3, _), (4, _), (5, _)]) hx hb dL_law_810 hl (by decide) rfl (fun ls hl => ?_)
  refine lv_aload_n hx hb dL_law_812 rfl (lv_at hl 3 rfl) ?_
  refine lv_aload_n hx hb dL_law_813 rfl (lv_at hl 1 rfl) ?_
  refine lv_iload hx hb dL_law_814 (lv_at hl 6 rfl) ?_
  refine lv_iconst (v := 1) hx hb dL_law_816 (by decide) ?_
  refine lv_iadd hx hb dL_law_817 ?_
  refine g_inp (j := 1) C hin ha0 hS (nI_add i 1) (by omega) hn dL_law_818 ?_
  refine g_cVL C hS (fun _ h => h) hM hl (fun _ h => h) (m_mergedInto hfl Γ _ _ (f (i + 1)) M w r rk hrk) kX7_mergedInto t_1494 (HM.recv C hM clo_7 h71) dL_law_819 rfl rfl (Nat.le_of_ble_eq_true rfl) (by decide) hRm hf0 (fun H locs hM hS => ?_)
  replace hM : HM Γ K1 M2 H := by rw [hM2]; exact hM
  refine lv_istore (lv' := [(7, _), (6, _), (0, _), (1, _), (2, _), (3, _), (4, _), (5, _)]) hx hb dL_law_822 hl (by decide) rfl (fun ls hl => ?_)
  refine lv_aload_n hx hb dL_law_824 rfl (lv_at hl 4 rfl) ?_
  refine g_cVL C hS (fun _ h => h) hM hl (fun _ h => h.elim) (m_thrown hfl Γ _ _ h72) kX7_thrown t_1391 (HM.recv C hM clo_7 h72) dL_law_825 rfl rfl (Nat.le_of_ble_eq_true rfl) (by decide) hRm hf0 (fun H locs hM hS => ?_)
  refine lv_iload hx hb dL_law_828 (lv_at hl 1 rfl) ?_
  refine lv_icmp_eq (tgt := 835) hx hb dL_law_830 (by decide) (fun _ => ?_) (fun z => absurd hthr z)
  refine lv_iload hx hb dL_law_835 (lv_at hl 1 rfl) ?_
  refine lv_if_ne (tgt := 852) hx hb dL_law_837 (by decide) (fun c9 => ?_) (fun c9 => ?_)
  · refine lv_goto (tgt := 2497) hx hb dL_law_852 (by decide) ?_
    exact kk K1 _ _ _ hM hS (lv_sub hl [2, 3, 4, 5, 6, 7] rfl)
  · have h0 : rMergedInto M (f (i + 1)) = 0 := nI_zero hr9 c9
    refine lv_aload_n hx hb dL_law_840 rfl (lv_at hl 5 rfl) ?_
    refine lv_iconst (v := 0) hx hb dL_law_841 (by decide) ?_
    refine g_lald C hM h392 dL_law_842 ?_
    refine lv_iload hx hb dL_law_843 (lv_at hl 0 rfl) ?_
    refine lv_i2l hx hb dL_law_845 rfl ?_
    refine g_lcmp0 hx hb dL_law_846 (hval h0) ?_
    refine lv_if_eq (tgt := 852) hx hb dL_law_847 (by decide) (fun _ => ?_) (fun z => absurd rfl z)
    refine lv_goto (tgt := 2497) hx hb dL_law_852 (by decide) ?_
    exact kk K1 _ _ _ hM hS (lv_sub hl [2, 3, 4, 5, 6, 7] rfl)
set_option maxHeartbeats 1500000 in
set_option maxRecDepth 100000 in
theorem arm_12 {l : Launch} (hfl : l.stackTraces = false) {Γ : Gm} {p : Program} {e : Env} {R : Room} {s : State} {m : MethodId} {args : Array Value} {below : List Frame} {meth : Method} {c : Code} {H : Heap} {locs : List Loc} {cells slots : Nat} {Q : State → Prop} {K : Nat → Nat → Nat} {M : Mem} {ls : Array Slot} {a0 n i : Nat} {f : Nat → Int32}
    (C : Cx Γ p l s m args meth c cL_law 9 RL) (hRm : RmL R) (hin : InA s a0 n f) (ha0 : a0 < gB Γ) (hi6 : i + 6 ≤ n) (hn : n ≤ 3072) (hM : HM Γ K M H) (hS : va_S (gFree Γ) s.heap H locs) (hl : lv_has ls 9 (LV K a0 i)) (w : Wf M) (n7 : mN M 7 = 1) (h39 : mN M 39 = 1) (h40 : mN M 40 = 1)
    (h39b : mN (stopM M (ix (f (i + 1))) (f (i + 2))) 39 = 1) (M1 M2 : Mem) (hM1 : M1 = if rSetTopic M (f (i + 1)) (f (i + 2)) = 0 then sJ (stopM M (ix (f (i + 1))) (f (i + 2))) 39 0 0 ((mT M 4 4 (ix (f (i + 1)))).toInt64) else M) (hM2 : M2 = if rSetTopic M (f (i + 1)) (f (i + 2)) = 0 then stoR M (sT M1 7 19 0 0) (ix (f (i + 1))) (f (i + 2)) else sT M1 7 19 0 (thI (rSetTopic M (f (i + 1)) (f (i + 2)))))
    (r : RC M M1)  (h71 : 0 < mN M1 7) (h72 : 0 < mN M2 7) (h392 : 0 < mN M2 39) (hr9 : rSetTopic M (f (i + 1)) (f (i + 2)) < 100) (hthr : mT M2 7 19 0 = nI (rSetTopic M (f (i + 1)) (f (i + 2)))) (hval : rSetTopic M (f (i + 1)) (f (i + 2)) = 0 → mJ M2 39 0 0 = ((if rSetTopic M (f (i + 1)) (f (i + 2)) = 0 then mT M 4 4 (ix (f (i + 1))) else 0)).toInt64)
    (hf : cells + 3 ≤ R.cells ∧ slots + 140 ≤ R.slots) (hf0 : cells + 3 + 0 ≤ R.cells ∧ slots + 140 + 0 ≤ R.slots) (kk : ∀ (K1 : Nat → Nat → Nat) (H1 : Heap) (locs1 : List Loc) (ls1 : Array Slot), HM Γ K1 M2 H1 → va_S (gFree Γ) s.heap H1 locs1 → lv_has ls1 9 (LV K1 a0 i) → W p l e R s m args below meth c H1 locs1 (cells + 3) (slots + 140) Q (F0 m 2497 ls1 [])) :
    W p l e R s m args below meth c H locs cells slots Q (F0 m 855 ls []) := by
  have hx := C.1
  have hb := C.2.1
  have e6 := wn6 w
  refine lv_aload_n hx hb dL_law_855 rfl (lv_at hl 1 rfl) ?_
  refine lv_aload_n hx hb dL_law_856 rfl (lv_at hl 0 rfl) ?_
  refine lv_iload hx hb dL_law_857 (lv_at hl 5 rfl) ?_
  refine lv_iconst (v := 1) hx hb dL_law_859 (by decide) ?_
  refine lv_iadd hx hb dL_law_860 ?_
  refine g_inp (j := 1) C hin ha0 hS (nI_add i 1) (by omega) hn dL_law_861 ?_
  refine lv_aload_n hx hb dL_law_862 rfl (lv_at hl 0 rfl) ?_
  refine lv_iload hx hb dL_law_863 (lv_at hl 5 rfl) ?_
  refine lv_iconst (v := 2) hx hb dL_law_865 (by decide) ?_
  refine lv_iadd hx hb dL_law_866 ?_
  refine g_inp (j := 2) C hin ha0 hS (nI_add i 2) (by omega) hn dL_law_867 ?_
  refine lv_aload_n hx hb dL_law_868 rfl (lv_at hl 3 rfl) ?_
  refine g_callHL C hS (fun _ h => h) hM hl (fun _ h => h) (h_setTopic hfl Γ _ _ (f (i + 1)) (f (i + 2)) w h39 h39b) kL_setTopic t_938 dL_law_869 rfl rfl (Nat.le_of_ble_eq_true rfl) (by decide) hRm hf (fun v9 K1 M9 H locs hp hM hS _ _ => ?_)
  obtain ⟨rfl, hKK, hM9⟩ := hp
  obtain rfl : M1 = M9 := (hM9.trans hM1.symm).symm
  replace hl : lv_has ls 9 (LV K1 a0 i) := by rw [show LV K1 a0 i = LV K a0 i from by simp only [LV, hKK 6 0 e6, hKK 7 0 (show 0 < mN M 7 by omega), hKK 39 0 (show 0 < mN M 39 by omega), hKK 40 0 (show 0 < mN M 40 by omega)]]; exact hl
  dsimp only [Option.toList, List.cons_append, List.nil_append]
  refine lv_istore (lv' := [(6, _), (0, _), (1, _), (2, _), (3, _), (4, _), (5, _)]) hx hb dL_law_872 hl (by decide) rfl (fun ls hl => ?_)
  refine lv_aload_n hx hb dL_law_874 rfl (lv_at hl 3 rfl) ?_
  refine lv_aload_n hx hb dL_law_875 rfl (lv_at hl 1 rfl) ?_
  refine lv_iload hx hb dL_law_876 (lv_at hl 6 rfl) ?_
  refine lv_iconst (v := 1) hx hb dL_law_878 (by decide) ?_
  refine lv_iadd hx hb dL_law_879 ?_
  refine g_inp (j := 1) C hin ha0 hS (nI_add i 1) (by omega) hn dL_law_880 ?_
  refine lv_aload_n hx hb dL_law_881 rfl (lv_at hl 1 rfl) ?_
  refine lv_iload hx hb dL_law_882 (lv_at hl 6 rfl) ?_
  refine lv_iconst (v := 2) hx hb dL_law_884 (by decide) ?_
  refine lv_iadd hx hb dL_law_885 ?_
  refine g_inp (j := 2) C hin ha0 hS (nI_add i 2) (by omega) hn dL_law_886 ?_
  refine g_cVL C hS (fun _ h => h) hM hl (fun _ h => h) (m_setTopic hfl Γ _ _ (f (i + 1)) (f (i + 2)) M w r ) kX7_setTopic t_1498 (HM.recv C hM clo_7 h71) dL_law_887 rfl rfl (Nat.le_of_ble_eq_true rfl) (by decide) hRm hf0 (fun H locs hM hS => ?_)
  replace hM : HM Γ K1 M2 H := by rw [hM2]; exact hM
  refine lv_istore (lv' := [(7, _), (6, _), (0, _), (1, _), (2, _), (3, _), (4, _), (5, _)]) hx hb dL_law_890 hl (by decide) rfl (fun ls hl => ?_)
  refine lv_aload_n hx hb dL_law_892 rfl (lv_at hl 4 rfl) ?_
  refine g_cVL C hS (fun _ h => h) hM hl (fun _ h => h.elim) (m_thrown hfl Γ _ _ h72) kX7_thrown t_1391 (HM.recv C hM clo_7 h72) dL_law_893 rfl rfl (Nat.le_of_ble_eq_true rfl) (by decide) hRm hf0 (fun H locs hM hS => ?_)
  refine lv_iload hx hb dL_law_896 (lv_at hl 1 rfl) ?_
  refine lv_icmp_eq (tgt := 903) hx hb dL_law_898 (by decide) (fun _ => ?_) (fun z => absurd hthr z)
  refine lv_iload hx hb dL_law_903 (lv_at hl 1 rfl) ?_
  refine lv_if_ne (tgt := 920) hx hb dL_law_905 (by decide) (fun c9 => ?_) (fun c9 => ?_)
  · refine lv_goto (tgt := 2497) hx hb dL_law_920 (by decide) ?_
    exact kk K1 _ _ _ hM hS (lv_sub hl [2, 3, 4, 5, 6, 7] rfl)
  · have h0 : rSetTopic M (f (i + 1)) (f (i + 2)) = 0 := nI_zero hr9 c9
    refine lv_aload_n hx hb dL_law_908 rfl (lv_at hl 5 rfl) ?_
    refine lv_iconst (v := 0) hx hb dL_law_909 (by decide) ?_
    refine g_lald C hM h392 dL_law_910 ?_
    refine lv_iload hx hb dL_law_911 (lv_at hl 0 rfl) ?_
    refine lv_i2l hx hb dL_law_913 rfl ?_
    refine g_lcmp0 hx hb dL_law_914 (hval h0) ?_
    refine lv_if_eq (tgt := 920) hx hb dL_law_915 (by decide) (fun _ => ?_) (fun z => absurd rfl z)
    refine lv_goto (tgt := 2497) hx hb dL_law_920 (by decide) ?_
    exact kk K1 _ _ _ hM hS (lv_sub hl [2, 3, 4, 5, 6, 7] rfl)
set_option maxHeartbeats 1500000 in
set_option maxRecDepth 100000 in
theorem arm_13 {l : Launch} (hfl : l.stackTraces = false) {Γ : Gm} {p : Program} {e : Env} {R : Room} {s : State} {m : MethodId} {args : Array Value} {below : List Frame} {meth : Method} {c : Code} {H : Heap} {locs : List Loc} {cells slots : Nat} {Q : State → Prop} {K : Nat → Nat → Nat} {M : Mem} {ls : Array Slot} {a0 n i : Nat} {f : Nat → Int32}
    (C : Cx Γ p l s m args meth c cL_law 9 RL) (hRm : RmL R) (hin : InA s a0 n f) (ha0 : a0 < gB Γ) (hi6 : i + 6 ≤ n) (hn : n ≤ 3072) (hM : HM Γ K M H) (hS : va_S (gFree Γ) s.heap H locs) (hl : lv_has ls 9 (LV K a0 i)) (w : Wf M) (n7 : mN M 7 = 1) (h39 : mN M 39 = 1) (h40 : mN M 40 = 1)
    (h39b : mN (M) 39 = 1) (M1 M2 : Mem) (hM1 : M1 = if rClock M (f (i + 1)) = 0 then sJ (M) 39 0 0 ((mT M 4 7 (ix (f (i + 1)))).toInt64) else M) (hM2 : M2 = if rClock M (f (i + 1)) = 0 then sT M1 7 19 0 0 else sT M1 7 19 0 (thI (rClock M (f (i + 1)))))
    (r : RC M M1)  (h71 : 0 < mN M1 7) (h72 : 0 < mN M2 7) (h392 : 0 < mN M2 39) (hr9 : rClock M (f (i + 1)) < 100) (hthr : mT M2 7 19 0 = nI (rClock M (f (i + 1)))) (hval : rClock M (f (i + 1)) = 0 → mJ M2 39 0 0 = ((if rClock M (f (i + 1)) = 0 then mT M 4 7 (ix (f (i + 1))) else 0)).toInt64)
    (hf : cells + 2 ≤ R.cells ∧ slots + 12 ≤ R.slots) (hf0 : cells + 2 + 0 ≤ R.cells ∧ slots + 12 + 0 ≤ R.slots) (kk : ∀ (K1 : Nat → Nat → Nat) (H1 : Heap) (locs1 : List Loc) (ls1 : Array Slot), HM Γ K1 M2 H1 → va_S (gFree Γ) s.heap H1 locs1 → lv_has ls1 9 (LV K1 a0 i) → W p l e R s m args below meth c H1 locs1 (cells + 2) (slots + 12) Q (F0 m 2497 ls1 [])) :
    W p l e R s m args below meth c H locs cells slots Q (F0 m 923 ls []) := by
  have hx := C.1
  have hb := C.2.1
  have e6 := wn6 w
  refine lv_aload_n hx hb dL_law_923 rfl (lv_at hl 1 rfl) ?_
  refine lv_aload_n hx hb dL_law_924 rfl (lv_at hl 0 rfl) ?_
  refine lv_iload hx hb dL_law_925 (lv_at hl 5 rfl) ?_
  refine lv_iconst (v := 1) hx hb dL_law_927 (by decide) ?_
  refine lv_iadd hx hb dL_law_928 ?_
  refine g_inp (j := 1) C hin ha0 hS (nI_add i 1) (by omega) hn dL_law_929 ?_
  refine lv_aload_n hx hb dL_law_930 rfl (lv_at hl 3 rfl) ?_
  refine g_callHL C hS (fun _ h => h) hM hl (fun _ h => h) (h_clock hfl Γ _ _ (f (i + 1)) w h39 h39b) kL_clock t_959 dL_law_931 rfl rfl (Nat.le_of_ble_eq_true rfl) (by decide) hRm hf (fun v9 K1 M9 H locs hp hM hS _ _ => ?_)
  obtain ⟨rfl, hKK, hM9⟩ := hp
  obtain rfl : M1 = M9 := (hM9.trans hM1.symm).symm
  replace hl : lv_has ls 9 (LV K1 a0 i) := by rw [show LV K1 a0 i = LV K a0 i from by simp only [LV, hKK 6 0 e6, hKK 7 0 (show 0 < mN M 7 by omega), hKK 39 0 (show 0 < mN M 39 by omega), hKK 40 0 (show 0 < mN M 40 by omega)]]; exact hl
  dsimp only [Option.toList, List.cons_append, List.nil_append]
  refine lv_istore (lv' := [(6, _), (0, _), (1, _), (2, _), (3, _), (4, _), (5, _)]) hx hb dL_law_934 hl (by decide) rfl (fun ls hl => ?_)
  refine lv_aload_n hx hb dL_law_936 rfl (lv_at hl 3 rfl) ?_
  refine lv_aload_n hx hb dL_law_937 rfl (lv_at hl 1 rfl) ?_
  refine lv_iload hx hb dL_law_938 (lv_at hl 6 rfl) ?_
  refine lv_iconst (v := 1) hx hb dL_law_940 (by decide) ?_
  refine lv_iadd hx hb dL_law_941 ?_
  refine g_inp (j := 1) C hin ha0 hS (nI_add i 1) (by omega) hn dL_law_942 ?_
  refine g_cVL C hS (fun _ h => h) hM hl (fun _ h => h) (m_clock hfl Γ _ _ (f (i + 1)) M w r ) kX7_clock t_1506 (HM.recv C hM clo_7 h71) dL_law_943 rfl rfl (Nat.le_of_ble_eq_true rfl) (by decide) hRm hf0 (fun H locs hM hS => ?_)
  replace hM : HM Γ K1 M2 H := by rw [hM2]; exact hM
  refine lv_istore (lv' := [(7, _), (6, _), (0, _), (1, _), (2, _), (3, _), (4, _), (5, _)]) hx hb dL_law_946 hl (by decide) rfl (fun ls hl => ?_)
  refine lv_aload_n hx hb dL_law_948 rfl (lv_at hl 4 rfl) ?_
  refine g_cVL C hS (fun _ h => h) hM hl (fun _ h => h.elim) (m_thrown hfl Γ _ _ h72) kX7_thrown t_1391 (HM.recv C hM clo_7 h72) dL_law_949 rfl rfl (Nat.le_of_ble_eq_true rfl) (by decide) hRm hf0 (fun H locs hM hS => ?_)
  refine lv_iload hx hb dL_law_952 (lv_at hl 1 rfl) ?_
  refine lv_icmp_eq (tgt := 959) hx hb dL_law_954 (by decide) (fun _ => ?_) (fun z => absurd hthr z)
  refine lv_iload hx hb dL_law_959 (lv_at hl 1 rfl) ?_
  refine lv_if_ne (tgt := 976) hx hb dL_law_961 (by decide) (fun c9 => ?_) (fun c9 => ?_)
  · refine lv_goto (tgt := 2497) hx hb dL_law_976 (by decide) ?_
    exact kk K1 _ _ _ hM hS (lv_sub hl [2, 3, 4, 5, 6, 7] rfl)
  · have h0 : rClock M (f (i + 1)) = 0 := nI_zero hr9 c9
    refine lv_aload_n hx hb dL_law_964 rfl (lv_at hl 5 rfl) ?_
    refine lv_iconst (v := 0) hx hb dL_law_965 (by decide) ?_
    refine g_lald C hM h392 dL_law_966 ?_
    refine lv_iload hx hb dL_law_967 (lv_at hl 0 rfl) ?_
    refine lv_i2l hx hb dL_law_969 rfl ?_
    refine g_lcmp0 hx hb dL_law_970 (hval h0) ?_
    refine lv_if_eq (tgt := 976) hx hb dL_law_971 (by decide) (fun _ => ?_) (fun z => absurd rfl z)
    refine lv_goto (tgt := 2497) hx hb dL_law_976 (by decide) ?_
    exact kk K1 _ _ _ hM hS (lv_sub hl [2, 3, 4, 5, 6, 7] rfl)
set_option maxHeartbeats 1500000 in
set_option maxRecDepth 100000 in
theorem arm_14 {l : Launch} (hfl : l.stackTraces = false) {Γ : Gm} {p : Program} {e : Env} {R : Room} {s : State} {m : MethodId} {args : Array Value} {below : List Frame} {meth : Method} {c : Code} {H : Heap} {locs : List Loc} {cells slots : Nat} {Q : State → Prop} {K : Nat → Nat → Nat} {M : Mem} {ls : Array Slot} {a0 n i : Nat} {f : Nat → Int32}
    (C : Cx Γ p l s m args meth c cL_law 9 RL) (hRm : RmL R) (hin : InA s a0 n f) (ha0 : a0 < gB Γ) (hi6 : i + 6 ≤ n) (hn : n ≤ 3072) (hM : HM Γ K M H) (hS : va_S (gFree Γ) s.heap H locs) (hl : lv_has ls 9 (LV K a0 i)) (w : Wf M) (n7 : mN M 7 = 1) (h39 : mN M 39 = 1) (h40 : mN M 40 = 1)
    (h39b : mN (M) 39 = 1) (M1 M2 : Mem) (hM1 : M1 = if rLeftOf M (f (i + 1)) = 0 then sJ (M) 39 0 0 ((leftM M (ix (f (i + 1)))).toInt64) else M) (hM2 : M2 = if rLeftOf M (f (i + 1)) = 0 then sT M1 7 19 0 0 else sT M1 7 19 0 (thI (rLeftOf M (f (i + 1)))))
    (r : RC M M1)  (h71 : 0 < mN M1 7) (h72 : 0 < mN M2 7) (h392 : 0 < mN M2 39) (hr9 : rLeftOf M (f (i + 1)) < 100) (hthr : mT M2 7 19 0 = nI (rLeftOf M (f (i + 1)))) (hval : rLeftOf M (f (i + 1)) = 0 → mJ M2 39 0 0 = ((if rLeftOf M (f (i + 1)) = 0 then leftM M (ix (f (i + 1))) else 0)).toInt64)
    (hf : cells + 2 ≤ R.cells ∧ slots + 12 ≤ R.slots) (hf0 : cells + 2 + 0 ≤ R.cells ∧ slots + 12 + 0 ≤ R.slots) (kk : ∀ (K1 : Nat → Nat → Nat) (H1 : Heap) (locs1 : List Loc) (ls1 : Array Slot), HM Γ K1 M2 H1 → va_S (gFree Γ) s.heap H1 locs1 → lv_has ls1 9 (LV K1 a0 i) → W p l e R s m args below meth c H1 locs1 (cells + 2) (slots + 12) Q (F0 m 2497 ls1 [])) :
    W p l e R s m args below meth c H locs cells slots Q (F0 m 979 ls []) := by
  have hx := C.1
  have hb := C.2.1
  have e6 := wn6 w
  refine lv_aload_n hx hb dL_law_979 rfl (lv_at hl 1 rfl) ?_
  refine lv_aload_n hx hb dL_law_980 rfl (lv_at hl 0 rfl) ?_
  refine lv_iload hx hb dL_law_981 (lv_at hl 5 rfl) ?_
  refine lv_iconst (v := 1) hx hb dL_law_983 (by decide) ?_
  refine lv_iadd hx hb dL_law_984 ?_
  refine g_inp (j := 1) C hin ha0 hS (nI_add i 1) (by omega) hn dL_law_985 ?_
  refine lv_aload_n hx hb dL_law_986 rfl (lv_at hl 3 rfl) ?_
  refine g_callHL C hS (fun _ h => h) hM hl (fun _ h => h) (h_leftOf hfl Γ _ _ (f (i + 1)) w h39 h39b) kL_leftOf t_966 dL_law_987 rfl rfl (Nat.le_of_ble_eq_true rfl) (by decide) hRm hf (fun v9 K1 M9 H locs hp hM hS _ _ => ?_)
  obtain ⟨rfl, hKK, hM9⟩ := hp
  obtain rfl : M1 = M9 := (hM9.trans hM1.symm).symm
  replace hl : lv_has ls 9 (LV K1 a0 i) := by rw [show LV K1 a0 i = LV K a0 i from by simp only [LV, hKK 6 0 e6, hKK 7 0 (show 0 < mN M 7 by omega), hKK 39 0 (show 0 < mN M 39 by omega), hKK 40 0 (show 0 < mN M 40 by omega)]]; exact hl
  dsimp only [Option.toList, List.cons_append, List.nil_append]
  refine lv_istore (lv' := [(6, _), (0, _), (1, _), (2, _), (3, _), (4, _), (5, _)]) hx hb dL_law_990 hl (by decide) rfl (fun ls hl => ?_)
  refine lv_aload_n hx hb dL_law_992 rfl (lv_at hl 3 rfl) ?_
  refine lv_aload_n hx hb dL_law_993 rfl (lv_at hl 1 rfl) ?_
  refine lv_iload hx hb dL_law_994 (lv_at hl 6 rfl) ?_
  refine lv_iconst (v := 1) hx hb dL_law_996 (by decide) ?_
  refine lv_iadd hx hb dL_law_997 ?_
  refine g_inp (j := 1) C hin ha0 hS (nI_add i 1) (by omega) hn dL_law_998 ?_
  refine g_cVL C hS (fun _ h => h) hM hl (fun _ h => h) (m_leftOf hfl Γ _ _ (f (i + 1)) M w r ) kX7_leftOf t_1514 (HM.recv C hM clo_7 h71) dL_law_999 rfl rfl (Nat.le_of_ble_eq_true rfl) (by decide) hRm hf0 (fun H locs hM hS => ?_)
  replace hM : HM Γ K1 M2 H := by rw [hM2]; exact hM
  refine lv_istore (lv' := [(7, _), (6, _), (0, _), (1, _), (2, _), (3, _), (4, _), (5, _)]) hx hb dL_law_1002 hl (by decide) rfl (fun ls hl => ?_)
  refine lv_aload_n hx hb dL_law_1004 rfl (lv_at hl 4 rfl) ?_
  refine g_cVL C hS (fun _ h => h) hM hl (fun _ h => h.elim) (m_thrown hfl Γ _ _ h72) kX7_thrown t_1391 (HM.recv C hM clo_7 h72) dL_law_1005 rfl rfl (Nat.le_of_ble_eq_true rfl) (by decide) hRm hf0 (fun H locs hM hS => ?_)
  refine lv_iload hx hb dL_law_1008 (lv_at hl 1 rfl) ?_
  refine lv_icmp_eq (tgt := 1015) hx hb dL_law_1010 (by decide) (fun _ => ?_) (fun z => absurd hthr z)
  refine lv_iload hx hb dL_law_1015 (lv_at hl 1 rfl) ?_
  refine lv_if_ne (tgt := 1032) hx hb dL_law_1017 (by decide) (fun c9 => ?_) (fun c9 => ?_)
  · refine lv_goto (tgt := 2497) hx hb dL_law_1032 (by decide) ?_
    exact kk K1 _ _ _ hM hS (lv_sub hl [2, 3, 4, 5, 6, 7] rfl)
  · have h0 : rLeftOf M (f (i + 1)) = 0 := nI_zero hr9 c9
    refine lv_aload_n hx hb dL_law_1020 rfl (lv_at hl 5 rfl) ?_
    refine lv_iconst (v := 0) hx hb dL_law_1021 (by decide) ?_
    refine g_lald C hM h392 dL_law_1022 ?_
    refine lv_iload hx hb dL_law_1023 (lv_at hl 0 rfl) ?_
    refine lv_i2l hx hb dL_law_1025 rfl ?_
    refine g_lcmp0 hx hb dL_law_1026 (hval h0) ?_
    refine lv_if_eq (tgt := 1032) hx hb dL_law_1027 (by decide) (fun _ => ?_) (fun z => absurd rfl z)
    refine lv_goto (tgt := 2497) hx hb dL_law_1032 (by decide) ?_
    exact kk K1 _ _ _ hM hS (lv_sub hl [2, 3, 4, 5, 6, 7] rfl)
set_option maxHeartbeats 1500000 in
set_option maxRecDepth 100000 in
theorem arm_15 {l : Launch} (hfl : l.stackTraces = false) {Γ : Gm} {p : Program} {e : Env} {R : Room} {s : State} {m : MethodId} {args : Array Value} {below : List Frame} {meth : Method} {c : Code} {H : Heap} {locs : List Loc} {cells slots : Nat} {Q : State → Prop} {K : Nat → Nat → Nat} {M : Mem} {ls : Array Slot} {a0 n i : Nat} {f : Nat → Int32}
    (C : Cx Γ p l s m args meth c cL_law 9 RL) (hRm : RmL R) (hin : InA s a0 n f) (ha0 : a0 < gB Γ) (hi6 : i + 6 ≤ n) (hn : n ≤ 3072) (hM : HM Γ K M H) (hS : va_S (gFree Γ) s.heap H locs) (hl : lv_has ls 9 (LV K a0 i)) (w : Wf M) (n7 : mN M 7 = 1) (h39 : mN M 39 = 1) (h40 : mN M 40 = 1)
    (h39b : mN (M) 39 = 1) (M1 M2 : Mem) (hM1 : M1 = if rIsBreached M (f (i + 1)) = 0 then sJ (M) 39 0 0 ((if (ohM M (ix (f (i + 1))) && !decide (mT M 4 8 (ix (f (i + 1))) = 0)) = true then 1 else 0)) else M) (hM2 : M2 = if rIsBreached M (f (i + 1)) = 0 then sT M1 7 19 0 0 else sT M1 7 19 0 (thI (rIsBreached M (f (i + 1)))))
    (r : RC M M1)  (h71 : 0 < mN M1 7) (h72 : 0 < mN M2 7) (h392 : 0 < mN M2 39) (hr9 : rIsBreached M (f (i + 1)) < 100) (hthr : mT M2 7 19 0 = nI (rIsBreached M (f (i + 1)))) (hval : rIsBreached M (f (i + 1)) = 0 → mJ M2 39 0 0 = if (if rIsBreached M (f (i + 1)) = 0 then bI (ohM M (ix (f (i + 1))) && !decide (mT M 4 8 (ix (f (i + 1))) = 0)) else 0) = 0 then 0 else 1)
    (hf : cells + 2 ≤ R.cells ∧ slots + 12 ≤ R.slots) (hf0 : cells + 2 + 0 ≤ R.cells ∧ slots + 12 + 0 ≤ R.slots) (kk : ∀ (K1 : Nat → Nat → Nat) (H1 : Heap) (locs1 : List Loc) (ls1 : Array Slot), HM Γ K1 M2 H1 → va_S (gFree Γ) s.heap H1 locs1 → lv_has ls1 9 (LV K1 a0 i) → W p l e R s m args below meth c H1 locs1 (cells + 2) (slots + 12) Q (F0 m 2497 ls1 [])) :
    W p l e R s m args below meth c H locs cells slots Q (F0 m 1035 ls []) := by
  have hx := C.1
  have hb := C.2.1
  have e6 := wn6 w
  refine lv_aload_n hx hb dL_law_1035 rfl (lv_at hl 1 rfl) ?_
  refine lv_aload_n hx hb dL_law_1036 rfl (lv_at hl 0 rfl) ?_
  refine lv_iload hx hb dL_law_1037 (lv_at hl 5 rfl) ?_
  refine lv_iconst (v := 1) hx hb dL_law_1039 (by decide) ?_
  refine lv_iadd hx hb dL_law_1040 ?_
  refine g_inp (j := 1) C hin ha0 hS (nI_add i 1) (by omega) hn dL_law_1041 ?_
  refine lv_aload_n hx hb dL_law_1042 rfl (lv_at hl 3 rfl) ?_
  refine g_callHL C hS (fun _ h => h) hM hl (fun _ h => h) (h_isBreached hfl Γ _ _ (f (i + 1)) w h39 h39b) kL_isBreached t_974 dL_law_1043 rfl rfl (Nat.le_of_ble_eq_true rfl) (by decide) hRm hf (fun v9 K1 M9 H locs hp hM hS _ _ => ?_)
  obtain ⟨rfl, hKK, hM9⟩ := hp
  obtain rfl : M1 = M9 := (hM9.trans hM1.symm).symm
  replace hl : lv_has ls 9 (LV K1 a0 i) := by rw [show LV K1 a0 i = LV K a0 i from by simp only [LV, hKK 6 0 e6, hKK 7 0 (show 0 < mN M 7 by omega), hKK 39 0 (show 0 < mN M 39 by omega), hKK 40 0 (show 0 < mN M 40 by omega)]]; exact hl
  dsimp only [Option.toList, List.cons_append, List.nil_append]
  refine lv_istore (lv' := [(6, _), (0, _), (1, _), (2, _), (3, _), (4, _), (5, _)]) hx hb dL_law_1046 hl (by decide) rfl (fun ls hl => ?_)
  refine lv_aload_n hx hb dL_law_1048 rfl (lv_at hl 3 rfl) ?_
  refine lv_aload_n hx hb dL_law_1049 rfl (lv_at hl 1 rfl) ?_
  refine lv_iload hx hb dL_law_1050 (lv_at hl 6 rfl) ?_
  refine lv_iconst (v := 1) hx hb dL_law_1052 (by decide) ?_
  refine lv_iadd hx hb dL_law_1053 ?_
  refine g_inp (j := 1) C hin ha0 hS (nI_add i 1) (by omega) hn dL_law_1054 ?_
  refine g_cVL C hS (fun _ h => h) hM hl (fun _ h => h) (m_isBreached hfl Γ _ _ (f (i + 1)) M w r ) kX7_isBreached t_1518 (HM.recv C hM clo_7 h71) dL_law_1055 rfl rfl (Nat.le_of_ble_eq_true rfl) (by decide) hRm hf0 (fun H locs hM hS => ?_)
  replace hM : HM Γ K1 M2 H := by rw [hM2]; exact hM
  refine lv_istore (lv' := [(7, _), (6, _), (0, _), (1, _), (2, _), (3, _), (4, _), (5, _)]) hx hb dL_law_1058 hl (by decide) rfl (fun ls hl => ?_)
  refine lv_aload_n hx hb dL_law_1060 rfl (lv_at hl 4 rfl) ?_
  refine g_cVL C hS (fun _ h => h) hM hl (fun _ h => h.elim) (m_thrown hfl Γ _ _ h72) kX7_thrown t_1391 (HM.recv C hM clo_7 h72) dL_law_1061 rfl rfl (Nat.le_of_ble_eq_true rfl) (by decide) hRm hf0 (fun H locs hM hS => ?_)
  refine lv_iload hx hb dL_law_1064 (lv_at hl 1 rfl) ?_
  refine lv_icmp_eq (tgt := 1071) hx hb dL_law_1066 (by decide) (fun _ => ?_) (fun z => absurd hthr z)
  refine lv_iload hx hb dL_law_1071 (lv_at hl 1 rfl) ?_
  refine lv_if_ne (tgt := 1095) hx hb dL_law_1073 (by decide) (fun c9 => ?_) (fun c9 => ?_)
  · refine lv_goto (tgt := 2497) hx hb dL_law_1095 (by decide) ?_
    exact kk K1 _ _ _ hM hS (lv_sub hl [2, 3, 4, 5, 6, 7] rfl)
  · have h0 : rIsBreached M (f (i + 1)) = 0 := nI_zero hr9 c9
    refine lv_aload_n hx hb dL_law_1076 rfl (lv_at hl 5 rfl) ?_
    refine lv_iconst (v := 0) hx hb dL_law_1077 (by decide) ?_
    refine g_lald C hM h392 dL_law_1078 ?_
    refine lv_iload hx hb dL_law_1079 (lv_at hl 0 rfl) ?_
    refine lv_if_eq (tgt := 1088) hx hb dL_law_1081 (by decide) (fun c8 => ?_) (fun c8 => ?_)
    · refine lv_lconst (v := 0) hx hb dL_law_1088 (by decide) ?_
      refine g_lcmp0 hx hb dL_law_1089 ((hval h0).trans (if_pos c8)) ?_
      refine lv_if_eq (tgt := 1095) hx hb dL_law_1090 (by decide) (fun _ => ?_) (fun z => absurd rfl z)
      refine lv_goto (tgt := 2497) hx hb dL_law_1095 (by decide) ?_
      exact kk K1 _ _ _ hM hS (lv_sub hl [2, 3, 4, 5, 6, 7] rfl)
    · refine lv_lconst (v := 1) hx hb dL_law_1084 (by decide) ?_
      refine lv_goto (tgt := 1089) hx hb dL_law_1085 (by decide) ?_
      refine g_lcmp0 hx hb dL_law_1089 ((hval h0).trans (if_neg c8)) ?_
      refine lv_if_eq (tgt := 1095) hx hb dL_law_1090 (by decide) (fun _ => ?_) (fun z => absurd rfl z)
      refine lv_goto (tgt := 2497) hx hb dL_law_1095 (by decide) ?_
      exact kk K1 _ _ _ hM hS (lv_sub hl [2, 3, 4, 5, 6, 7] rfl)
set_option maxHeartbeats 1500000 in
set_option maxRecDepth 100000 in
theorem arm_16 {l : Launch} (hfl : l.stackTraces = false) {Γ : Gm} {p : Program} {e : Env} {R : Room} {s : State} {m : MethodId} {args : Array Value} {below : List Frame} {meth : Method} {c : Code} {H : Heap} {locs : List Loc} {cells slots : Nat} {Q : State → Prop} {K : Nat → Nat → Nat} {M : Mem} {ls : Array Slot} {a0 n i : Nat} {f : Nat → Int32}
    (C : Cx Γ p l s m args meth c cL_law 9 RL) (hRm : RmL R) (hin : InA s a0 n f) (ha0 : a0 < gB Γ) (hi6 : i + 6 ≤ n) (hn : n ≤ 3072) (hM : HM Γ K M H) (hS : va_S (gFree Γ) s.heap H locs) (hl : lv_has ls 9 (LV K a0 i)) (w : Wf M) (n7 : mN M 7 = 1) (h39 : mN M 39 = 1) (h40 : mN M 40 = 1)
    (vp : VP M) (h39b : mN (agM M (f (i + 1))) 39 = 1) (M1 M2 : Mem) (hM1 : M1 = if rAddAgent M (f (i + 1)) = 0 then sJ (agM M (f (i + 1))) 39 0 0 ((nI (mN M 0 + 1) - 1).toInt64) else M) (hM2 : M2 = if rAddAgentM M (f (i + 1)) = 0 then sT (sT (sT M1 7 19 0 0) 36 (mN M 0) 0 (f (i + 1))) 7 23 0 (nI (mN M 0) + 1) else sT M1 7 19 0 (thI (rAddAgentM M (f (i + 1)))))
    (r : RC M M1)  (h71 : 0 < mN M1 7) (h72 : 0 < mN M2 7) (h392 : 0 < mN M2 39) (hr9 : rAddAgent M (f (i + 1)) < 100) (hthr : mT M2 7 19 0 = nI (rAddAgent M (f (i + 1)))) (hval : rAddAgent M (f (i + 1)) = 0 → mJ M2 39 0 0 = ((if rAddAgentM M (f (i + 1)) = 0 then nI (mN M 0) + 1 - 1 else 0)).toInt64)
    (hf : cells + 3 ≤ R.cells ∧ slots + 140 ≤ R.slots) (hf0 : cells + 3 + 0 ≤ R.cells ∧ slots + 140 + 0 ≤ R.slots) (kk : ∀ (K1 : Nat → Nat → Nat) (H1 : Heap) (locs1 : List Loc) (ls1 : Array Slot), HM Γ K1 M2 H1 → va_S (gFree Γ) s.heap H1 locs1 → lv_has ls1 9 (LV K1 a0 i) → W p l e R s m args below meth c H1 locs1 (cells + 3) (slots + 140) Q (F0 m 2497 ls1 [])) :
    W p l e R s m args below meth c H locs cells slots Q (F0 m 1098 ls []) := by
  have hx := C.1
  have hb := C.2.1
  have e6 := wn6 w
  refine lv_aload_n hx hb dL_law_1098 rfl (lv_at hl 1 rfl) ?_
  refine lv_aload_n hx hb dL_law_1099 rfl (lv_at hl 0 rfl) ?_
  refine lv_iload hx hb dL_law_1100 (lv_at hl 5 rfl) ?_
  refine lv_iconst (v := 1) hx hb dL_law_1102 (by decide) ?_
  refine lv_iadd hx hb dL_law_1103 ?_
  refine g_inp (j := 1) C hin ha0 hS (nI_add i 1) (by omega) hn dL_law_1104 ?_
  refine lv_aload_n hx hb dL_law_1105 rfl (lv_at hl 3 rfl) ?_
  refine g_callHL C hS (fun _ h => h) hM hl (fun _ h => h) (h_addAgent hfl Γ _ _ (f (i + 1)) w vp h39 h39b) kL_addAgent t_981 dL_law_1106 rfl rfl (Nat.le_of_ble_eq_true rfl) (by decide) hRm hf (fun v9 K1 M9 H locs hp hM hS _ _ => ?_)
  obtain ⟨rfl, hKK, hM9⟩ := hp
  obtain rfl : M1 = M9 := (hM9.trans hM1.symm).symm
  replace hl : lv_has ls 9 (LV K1 a0 i) := by rw [show LV K1 a0 i = LV K a0 i from by simp only [LV, hKK 6 0 e6, hKK 7 0 (show 0 < mN M 7 by omega), hKK 39 0 (show 0 < mN M 39 by omega), hKK 40 0 (show 0 < mN M 40 by omega)]]; exact hl
  dsimp only [Option.toList, List.cons_append, List.nil_append]
  refine lv_istore (lv' := [(6, _), (0, _), (1, _), (2, _), (3, _), (4, _), (5, _)]) hx hb dL_law_1109 hl (by decide) rfl (fun ls hl => ?_)
  refine lv_aload_n hx hb dL_law_1111 rfl (lv_at hl 3 rfl) ?_
  refine lv_aload_n hx hb dL_law_1112 rfl (lv_at hl 1 rfl) ?_
  refine lv_iload hx hb dL_law_1113 (lv_at hl 6 rfl) ?_
  refine lv_iconst (v := 1) hx hb dL_law_1115 (by decide) ?_
  refine lv_iadd hx hb dL_law_1116 ?_
  refine g_inp (j := 1) C hin ha0 hS (nI_add i 1) (by omega) hn dL_law_1117 ?_
  refine g_cVL C hS (fun _ h => h) hM hl (fun _ h => h) (m_addAgent hfl Γ _ _ (f (i + 1)) M w r ) kX7_addAgent t_1522 (HM.recv C hM clo_7 h71) dL_law_1118 rfl rfl (Nat.le_of_ble_eq_true rfl) (by decide) hRm hf0 (fun H locs hM hS => ?_)
  replace hM : HM Γ K1 M2 H := by rw [hM2]; exact hM
  refine lv_istore (lv' := [(7, _), (6, _), (0, _), (1, _), (2, _), (3, _), (4, _), (5, _)]) hx hb dL_law_1121 hl (by decide) rfl (fun ls hl => ?_)
  refine lv_aload_n hx hb dL_law_1123 rfl (lv_at hl 4 rfl) ?_
  refine g_cVL C hS (fun _ h => h) hM hl (fun _ h => h.elim) (m_thrown hfl Γ _ _ h72) kX7_thrown t_1391 (HM.recv C hM clo_7 h72) dL_law_1124 rfl rfl (Nat.le_of_ble_eq_true rfl) (by decide) hRm hf0 (fun H locs hM hS => ?_)
  refine lv_iload hx hb dL_law_1127 (lv_at hl 1 rfl) ?_
  refine lv_icmp_eq (tgt := 1134) hx hb dL_law_1129 (by decide) (fun _ => ?_) (fun z => absurd hthr z)
  refine lv_iload hx hb dL_law_1134 (lv_at hl 1 rfl) ?_
  refine lv_if_ne (tgt := 1151) hx hb dL_law_1136 (by decide) (fun c9 => ?_) (fun c9 => ?_)
  · refine lv_goto (tgt := 2497) hx hb dL_law_1151 (by decide) ?_
    exact kk K1 _ _ _ hM hS (lv_sub hl [2, 3, 4, 5, 6, 7] rfl)
  · have h0 : rAddAgent M (f (i + 1)) = 0 := nI_zero hr9 c9
    refine lv_aload_n hx hb dL_law_1139 rfl (lv_at hl 5 rfl) ?_
    refine lv_iconst (v := 0) hx hb dL_law_1140 (by decide) ?_
    refine g_lald C hM h392 dL_law_1141 ?_
    refine lv_iload hx hb dL_law_1142 (lv_at hl 0 rfl) ?_
    refine lv_i2l hx hb dL_law_1144 rfl ?_
    refine g_lcmp0 hx hb dL_law_1145 (hval h0) ?_
    refine lv_if_eq (tgt := 1151) hx hb dL_law_1146 (by decide) (fun _ => ?_) (fun z => absurd rfl z)
    refine lv_goto (tgt := 2497) hx hb dL_law_1151 (by decide) ?_
    exact kk K1 _ _ _ hM hS (lv_sub hl [2, 3, 4, 5, 6, 7] rfl)
set_option maxHeartbeats 1500000 in
set_option maxRecDepth 100000 in
theorem arm_17 {l : Launch} (hfl : l.stackTraces = false) {Γ : Gm} {p : Program} {e : Env} {R : Room} {s : State} {m : MethodId} {args : Array Value} {below : List Frame} {meth : Method} {c : Code} {H : Heap} {locs : List Loc} {cells slots : Nat} {Q : State → Prop} {K : Nat → Nat → Nat} {M : Mem} {ls : Array Slot} {a0 n i : Nat} {f : Nat → Int32}
    (C : Cx Γ p l s m args meth c cL_law 9 RL) (hRm : RmL R) (hin : InA s a0 n f) (ha0 : a0 < gB Γ) (hi6 : i + 6 ≤ n) (hn : n ≤ 3072) (hM : HM Γ K M H) (hS : va_S (gFree Γ) s.heap H locs) (hl : lv_has ls 9 (LV K a0 i)) (w : Wf M) (n7 : mN M 7 = 1) (h39 : mN M 39 = 1) (h40 : mN M 40 = 1)
    (h39b : mN (sT M 0 1 (ix (f (i + 1))) (mT M 0 1 (ix (f (i + 1))) ||| (1 <<< ((f (i + 2)) &&& 31)))) 39 = 1) (M1 M2 : Mem) (hM1 : M1 = if rLearn M (f (i + 1)) (f (i + 2)) = 0 then sJ (sT M 0 1 (ix (f (i + 1))) (mT M 0 1 (ix (f (i + 1))) ||| (1 <<< ((f (i + 2)) &&& 31)))) 39 0 0 ((popC (mT M 0 1 (ix (f (i + 1))) ||| (1 <<< ((f (i + 2)) &&& 31)))).toInt64) else M) (hM2 : M2 = if rLearn M (f (i + 1)) (f (i + 2)) = 0 then sT (sT M1 7 19 0 0) 36 (ix (f (i + 1))) 0 (mT M 0 1 (ix (f (i + 1))) ||| 1 <<< ((f (i + 2)) &&& 31)) else sT M1 7 19 0 (thI (rLearn M (f (i + 1)) (f (i + 2)))))
    (r : RC M M1)  (h71 : 0 < mN M1 7) (h72 : 0 < mN M2 7) (h392 : 0 < mN M2 39) (hr9 : rLearn M (f (i + 1)) (f (i + 2)) < 100) (hthr : mT M2 7 19 0 = nI (rLearn M (f (i + 1)) (f (i + 2)))) (hval : rLearn M (f (i + 1)) (f (i + 2)) = 0 → mJ M2 39 0 0 = ((if rLearn M (f (i + 1)) (f (i + 2)) = 0 then btN (mT M 0 1 (ix (f (i + 1))) ||| 1 <<< ((f (i + 2)) &&& 31)) 10 else 0)).toInt64)
    (hf : cells + 3 ≤ R.cells ∧ slots + 20 ≤ R.slots) (hf0 : cells + 3 + 0 ≤ R.cells ∧ slots + 20 + 0 ≤ R.slots) (kk : ∀ (K1 : Nat → Nat → Nat) (H1 : Heap) (locs1 : List Loc) (ls1 : Array Slot), HM Γ K1 M2 H1 → va_S (gFree Γ) s.heap H1 locs1 → lv_has ls1 9 (LV K1 a0 i) → W p l e R s m args below meth c H1 locs1 (cells + 3) (slots + 20) Q (F0 m 2497 ls1 [])) :
    W p l e R s m args below meth c H locs cells slots Q (F0 m 1154 ls []) := by
  have hx := C.1
  have hb := C.2.1
  have e6 := wn6 w
  refine lv_aload_n hx hb dL_law_1154 rfl (lv_at hl 1 rfl) ?_
  refine lv_aload_n hx hb dL_law_1155 rfl (lv_at hl 0 rfl) ?_
  refine lv_iload hx hb dL_law_1156 (lv_at hl 5 rfl) ?_
  refine lv_iconst (v := 1) hx hb dL_law_1158 (by decide) ?_
  refine lv_iadd hx hb dL_law_1159 ?_
  refine g_inp (j := 1) C hin ha0 hS (nI_add i 1) (by omega) hn dL_law_1160 ?_
  refine lv_aload_n hx hb dL_law_1161 rfl (lv_at hl 0 rfl) ?_
  refine lv_iload hx hb dL_law_1162 (lv_at hl 5 rfl) ?_
  refine lv_iconst (v := 2) hx hb dL_law_1164 (by decide) ?_
  refine lv_iadd hx hb dL_law_1165 ?_
  refine g_inp (j := 2) C hin ha0 hS (nI_add i 2) (by omega) hn dL_law_1166 ?_
  refine lv_aload_n hx hb dL_law_1167 rfl (lv_at hl 3 rfl) ?_
  refine g_callHL C hS (fun _ h => h) hM hl (fun _ h => h) (h_learn hfl Γ _ _ (f (i + 1)) (f (i + 2)) w h39 h39b) kL_learn t_1012 dL_law_1168 rfl rfl (Nat.le_of_ble_eq_true rfl) (by decide) hRm hf (fun v9 K1 M9 H locs hp hM hS _ _ => ?_)
  obtain ⟨rfl, hKK, hM9⟩ := hp
  obtain rfl : M1 = M9 := (hM9.trans hM1.symm).symm
  replace hl : lv_has ls 9 (LV K1 a0 i) := by rw [show LV K1 a0 i = LV K a0 i from by simp only [LV, hKK 6 0 e6, hKK 7 0 (show 0 < mN M 7 by omega), hKK 39 0 (show 0 < mN M 39 by omega), hKK 40 0 (show 0 < mN M 40 by omega)]]; exact hl
  dsimp only [Option.toList, List.cons_append, List.nil_append]
  refine lv_istore (lv' := [(6, _), (0, _), (1, _), (2, _), (3, _), (4, _), (5, _)]) hx hb dL_law_1171 hl (by decide) rfl (fun ls hl => ?_)
  refine lv_aload_n hx hb dL_law_1173 rfl (lv_at hl 3 rfl) ?_
  refine lv_aload_n hx hb dL_law_1174 rfl (lv_at hl 1 rfl) ?_
  refine lv_iload hx hb dL_law_1175 (lv_at hl 6 rfl) ?_
  refine lv_iconst (v := 1) hx hb dL_law_1177 (by decide) ?_
  refine lv_iadd hx hb dL_law_1178 ?_
  refine g_inp (j := 1) C hin ha0 hS (nI_add i 1) (by omega) hn dL_law_1179 ?_
  refine lv_aload_n hx hb dL_law_1180 rfl (lv_at hl 1 rfl) ?_
  refine lv_iload hx hb dL_law_1181 (lv_at hl 6 rfl) ?_
  refine lv_iconst (v := 2) hx hb dL_law_1183 (by decide) ?_
  refine lv_iadd hx hb dL_law_1184 ?_
  refine g_inp (j := 2) C hin ha0 hS (nI_add i 2) (by omega) hn dL_law_1185 ?_
  refine g_cVL C hS (fun _ h => h) hM hl (fun _ h => h) (m_learn hfl Γ _ _ (f (i + 1)) (f (i + 2)) M w r ) kX7_learn t_1526 (HM.recv C hM clo_7 h71) dL_law_1186 rfl rfl (Nat.le_of_ble_eq_true rfl) (by decide) hRm hf0 (fun H locs hM hS => ?_)
  replace hM : HM Γ K1 M2 H := by rw [hM2]; exact hM
  refine lv_istore (lv' := [(7, _), (6, _), (0, _), (1, _), (2, _), (3, _), (4, _), (5, _)]) hx hb dL_law_1189 hl (by decide) rfl (fun ls hl => ?_)
  refine lv_aload_n hx hb dL_law_1191 rfl (lv_at hl 4 rfl) ?_
  refine g_cVL C hS (fun _ h => h) hM hl (fun _ h => h.elim) (m_thrown hfl Γ _ _ h72) kX7_thrown t_1391 (HM.recv C hM clo_7 h72) dL_law_1192 rfl rfl (Nat.le_of_ble_eq_true rfl) (by decide) hRm hf0 (fun H locs hM hS => ?_)
  refine lv_iload hx hb dL_law_1195 (lv_at hl 1 rfl) ?_
  refine lv_icmp_eq (tgt := 1202) hx hb dL_law_1197 (by decide) (fun _ => ?_) (fun z => absurd hthr z)
  refine lv_iload hx hb dL_law_1202 (lv_at hl 1 rfl) ?_
  refine lv_if_ne (tgt := 1219) hx hb dL_law_1204 (by decide) (fun c9 => ?_) (fun c9 => ?_)
  · refine lv_goto (tgt := 2497) hx hb dL_law_1219 (by decide) ?_
    exact kk K1 _ _ _ hM hS (lv_sub hl [2, 3, 4, 5, 6, 7] rfl)
  · have h0 : rLearn M (f (i + 1)) (f (i + 2)) = 0 := nI_zero hr9 c9
    refine lv_aload_n hx hb dL_law_1207 rfl (lv_at hl 5 rfl) ?_
    refine lv_iconst (v := 0) hx hb dL_law_1208 (by decide) ?_
    refine g_lald C hM h392 dL_law_1209 ?_
    refine lv_iload hx hb dL_law_1210 (lv_at hl 0 rfl) ?_
    refine lv_i2l hx hb dL_law_1212 rfl ?_
    refine g_lcmp0 hx hb dL_law_1213 (hval h0) ?_
    refine lv_if_eq (tgt := 1219) hx hb dL_law_1214 (by decide) (fun _ => ?_) (fun z => absurd rfl z)
    refine lv_goto (tgt := 2497) hx hb dL_law_1219 (by decide) ?_
    exact kk K1 _ _ _ hM hS (lv_sub hl [2, 3, 4, 5, 6, 7] rfl)
set_option maxHeartbeats 1500000 in
set_option maxRecDepth 100000 in
theorem arm_18 {l : Launch} (hfl : l.stackTraces = false) {Γ : Gm} {p : Program} {e : Env} {R : Room} {s : State} {m : MethodId} {args : Array Value} {below : List Frame} {meth : Method} {c : Code} {H : Heap} {locs : List Loc} {cells slots : Nat} {Q : State → Prop} {K : Nat → Nat → Nat} {M : Mem} {ls : Array Slot} {a0 n i : Nat} {f : Nat → Int32}
    (C : Cx Γ p l s m args meth c cL_law 9 RL) (hRm : RmL R) (hin : InA s a0 n f) (ha0 : a0 < gB Γ) (hi6 : i + 6 ≤ n) (hn : n ≤ 3072) (hM : HM Γ K M H) (hS : va_S (gFree Γ) s.heap H locs) (hl : lv_has ls 9 (LV K a0 i)) (w : Wf M) (n7 : mN M 7 = 1) (h39 : mN M 39 = 1) (h40 : mN M 40 = 1)
    (hQ : QW M) (hbo : narrow .boolean (.int (mT M 0 2 (ix (f (i + 1))))) = .int (mT M 0 2 (ix (f (i + 1))))) (h39b : mN (sosM M (ix (f (i + 1))) (!decide (f (i + 2) = 0))) 39 = 1) (M1 M2 : Mem) (hM1 : M1 = if rSetOnShift M (f (i + 1)) (!decide (f (i + 2) = 0)) = 0 then sJ (sosM M (ix (f (i + 1))) (!decide (f (i + 2) = 0))) 39 0 0 ((if mT M 0 2 (ix (f (i + 1))) = 0 then 0 else 1)) else M) (hM2 : M2 = if rSetOnShift M (f (i + 1)) (!decide (f (i + 2) = 0)) = 0 then sosR M M1 (f (i + 1)) (!decide (f (i + 2) = 0)) else sT M1 7 19 0 (thI (rSetOnShift M (f (i + 1)) (!decide (f (i + 2) = 0)))))
    (r : RC M M1) (hbom : inN (f (i + 1)) (mN M 0) = true → narrow .boolean (.int (mT M 0 2 (ix (f (i + 1))))) = .int (mT M 0 2 (ix (f (i + 1))))) (h71 : 0 < mN M1 7) (h72 : 0 < mN M2 7) (h392 : 0 < mN M2 39) (hr9 : rSetOnShift M (f (i + 1)) (!decide (f (i + 2) = 0)) < 100) (hthr : mT M2 7 19 0 = nI (rSetOnShift M (f (i + 1)) (!decide (f (i + 2) = 0)))) (hval : rSetOnShift M (f (i + 1)) (!decide (f (i + 2) = 0)) = 0 → mJ M2 39 0 0 = if (if rSetOnShift M (f (i + 1)) (!decide (f (i + 2) = 0)) = 0 then mT M 0 2 (ix (f (i + 1))) else 0) = 0 then 0 else 1)
    (hf : cells + 42 ≤ R.cells ∧ slots + 4820 ≤ R.slots) (hf0 : cells + 42 + 0 ≤ R.cells ∧ slots + 4820 + 0 ≤ R.slots) (kk : ∀ (K1 : Nat → Nat → Nat) (H1 : Heap) (locs1 : List Loc) (ls1 : Array Slot), HM Γ K1 M2 H1 → va_S (gFree Γ) s.heap H1 locs1 → lv_has ls1 9 (LV K1 a0 i) → W p l e R s m args below meth c H1 locs1 (cells + 42) (slots + 4820) Q (F0 m 2497 ls1 [])) :
    W p l e R s m args below meth c H locs cells slots Q (F0 m 1222 ls []) := by
  have hx := C.1
  have hb := C.2.1
  have e6 := wn6 w
  refine lv_aload_n hx hb dL_law_1222 rfl (lv_at hl 1 rfl) ?_
  refine lv_aload_n hx hb dL_law_1223 rfl (lv_at hl 0 rfl) ?_
  refine lv_iload hx hb dL_law_1224 (lv_at hl 5 rfl) ?_
  refine lv_iconst (v := 1) hx hb dL_law_1226 (by decide) ?_
  refine lv_iadd hx hb dL_law_1227 ?_
  refine g_inp (j := 1) C hin ha0 hS (nI_add i 1) (by omega) hn dL_law_1228 ?_
  refine lv_aload_n hx hb dL_law_1229 rfl (lv_at hl 0 rfl) ?_
  refine lv_iload hx hb dL_law_1230 (lv_at hl 5 rfl) ?_
  refine lv_iconst (v := 2) hx hb dL_law_1232 (by decide) ?_
  refine lv_iadd hx hb dL_law_1233 ?_
  refine g_inp (j := 2) C hin ha0 hS (nI_add i 2) (by omega) hn dL_law_1234 ?_
  refine g_tobool hx hb dL_law_1235 dL_law_1238 dL_law_1239 dL_law_1242 (by decide) (by decide) ?_
  refine lv_aload_n hx hb dL_law_1243 rfl (lv_at hl 3 rfl) ?_
  refine g_callHL C hS (fun _ h => h) hM hl (fun _ h => h) (h_setOnShift hfl Γ _ _ (f (i + 1)) (!decide (f (i + 2) = 0)) w hQ hbo h39 h39b) kL_setOnShift t_1047 dL_law_1244 rfl rfl (Nat.le_of_ble_eq_true rfl) (by decide) hRm hf (fun v9 K1 M9 H locs hp hM hS _ _ => ?_)
  obtain ⟨rfl, hKK, hM9⟩ := hp
  obtain rfl : M1 = M9 := (hM9.trans hM1.symm).symm
  replace hl : lv_has ls 9 (LV K1 a0 i) := by rw [show LV K1 a0 i = LV K a0 i from by simp only [LV, hKK 6 0 e6, hKK 7 0 (show 0 < mN M 7 by omega), hKK 39 0 (show 0 < mN M 39 by omega), hKK 40 0 (show 0 < mN M 40 by omega)]]; exact hl
  dsimp only [Option.toList, List.cons_append, List.nil_append]
  refine lv_istore (lv' := [(6, _), (0, _), (1, _), (2, _), (3, _), (4, _), (5, _)]) hx hb dL_law_1247 hl (by decide) rfl (fun ls hl => ?_)
  refine lv_aload_n hx hb dL_law_1249 rfl (lv_at hl 3 rfl) ?_
  refine lv_aload_n hx hb dL_law_1250 rfl (lv_at hl 1 rfl) ?_
  refine lv_iload hx hb dL_law_1251 (lv_at hl 6 rfl) ?_
  refine lv_iconst (v := 1) hx hb dL_law_1253 (by decide) ?_
  refine lv_iadd hx hb dL_law_1254 ?_
  refine g_inp (j := 1) C hin ha0 hS (nI_add i 1) (by omega) hn dL_law_1255 ?_
  refine lv_aload_n hx hb dL_law_1256 rfl (lv_at hl 1 rfl) ?_
  refine lv_iload hx hb dL_law_1257 (lv_at hl 6 rfl) ?_
  refine lv_iconst (v := 2) hx hb dL_law_1259 (by decide) ?_
  refine lv_iadd hx hb dL_law_1260 ?_
  refine g_inp (j := 2) C hin ha0 hS (nI_add i 2) (by omega) hn dL_law_1261 ?_
  refine g_tobool hx hb dL_law_1262 dL_law_1265 dL_law_1266 dL_law_1269 (by decide) (by decide) ?_
  refine g_cVL C hS (fun _ h => h) hM hl (fun _ h => h) (m_setOnShift hfl Γ _ _ (f (i + 1)) (!decide (f (i + 2) = 0)) M w r hbom) kX7_setOnShift t_1537 (HM.recv C hM clo_7 h71) dL_law_1270 rfl rfl (Nat.le_of_ble_eq_true rfl) (by decide) hRm hf0 (fun H locs hM hS => ?_)
  replace hM : HM Γ K1 M2 H := by rw [hM2]; exact hM
  refine lv_istore (lv' := [(7, _), (6, _), (0, _), (1, _), (2, _), (3, _), (4, _), (5, _)]) hx hb dL_law_1273 hl (by decide) rfl (fun ls hl => ?_)
  refine lv_aload_n hx hb dL_law_1275 rfl (lv_at hl 4 rfl) ?_
  refine g_cVL C hS (fun _ h => h) hM hl (fun _ h => h.elim) (m_thrown hfl Γ _ _ h72) kX7_thrown t_1391 (HM.recv C hM clo_7 h72) dL_law_1276 rfl rfl (Nat.le_of_ble_eq_true rfl) (by decide) hRm hf0 (fun H locs hM hS => ?_)
  refine lv_iload hx hb dL_law_1279 (lv_at hl 1 rfl) ?_
  refine lv_icmp_eq (tgt := 1286) hx hb dL_law_1281 (by decide) (fun _ => ?_) (fun z => absurd hthr z)
  refine lv_iload hx hb dL_law_1286 (lv_at hl 1 rfl) ?_
  refine lv_if_ne (tgt := 1310) hx hb dL_law_1288 (by decide) (fun c9 => ?_) (fun c9 => ?_)
  · refine lv_goto (tgt := 2497) hx hb dL_law_1310 (by decide) ?_
    exact kk K1 _ _ _ hM hS (lv_sub hl [2, 3, 4, 5, 6, 7] rfl)
  · have h0 : rSetOnShift M (f (i + 1)) (!decide (f (i + 2) = 0)) = 0 := nI_zero hr9 c9
    refine lv_aload_n hx hb dL_law_1291 rfl (lv_at hl 5 rfl) ?_
    refine lv_iconst (v := 0) hx hb dL_law_1292 (by decide) ?_
    refine g_lald C hM h392 dL_law_1293 ?_
    refine lv_iload hx hb dL_law_1294 (lv_at hl 0 rfl) ?_
    refine lv_if_eq (tgt := 1303) hx hb dL_law_1296 (by decide) (fun c8 => ?_) (fun c8 => ?_)
    · refine lv_lconst (v := 0) hx hb dL_law_1303 (by decide) ?_
      refine g_lcmp0 hx hb dL_law_1304 ((hval h0).trans (if_pos c8)) ?_
      refine lv_if_eq (tgt := 1310) hx hb dL_law_1305 (by decide) (fun _ => ?_) (fun z => absurd rfl z)
      refine lv_goto (tgt := 2497) hx hb dL_law_1310 (by decide) ?_
      exact kk K1 _ _ _ hM hS (lv_sub hl [2, 3, 4, 5, 6, 7] rfl)
    · refine lv_lconst (v := 1) hx hb dL_law_1299 (by decide) ?_
      refine lv_goto (tgt := 1304) hx hb dL_law_1300 (by decide) ?_
      refine g_lcmp0 hx hb dL_law_1304 ((hval h0).trans (if_neg c8)) ?_
      refine lv_if_eq (tgt := 1310) hx hb dL_law_1305 (by decide) (fun _ => ?_) (fun z => absurd rfl z)
      refine lv_goto (tgt := 2497) hx hb dL_law_1310 (by decide) ?_
      exact kk K1 _ _ _ hM hS (lv_sub hl [2, 3, 4, 5, 6, 7] rfl)
set_option maxHeartbeats 1500000 in
set_option maxRecDepth 100000 in
theorem arm_19 {l : Launch} (hfl : l.stackTraces = false) {Γ : Gm} {p : Program} {e : Env} {R : Room} {s : State} {m : MethodId} {args : Array Value} {below : List Frame} {meth : Method} {c : Code} {H : Heap} {locs : List Loc} {cells slots : Nat} {Q : State → Prop} {K : Nat → Nat → Nat} {M : Mem} {ls : Array Slot} {a0 n i : Nat} {f : Nat → Int32}
    (C : Cx Γ p l s m args meth c cL_law 9 RL) (hRm : RmL R) (hin : InA s a0 n f) (ha0 : a0 < gB Γ) (hi6 : i + 6 ≤ n) (hn : n ≤ 3072) (hM : HM Γ K M H) (hS : va_S (gFree Γ) s.heap H locs) (hl : lv_has ls 9 (LV K a0 i)) (w : Wf M) (n7 : mN M 7 = 1) (h39 : mN M 39 = 1) (h40 : mN M 40 = 1)
    (h39b : mN (M) 39 = 1) (M1 M2 : Mem) (hM1 : M1 = if rHeld M (f (i + 1)) = 0 then sJ (M) 39 0 0 ((mT M 0 3 (ix (f (i + 1)))).toInt64) else M) (hM2 : M2 = if rHeld M (f (i + 1)) = 0 then sT M1 7 19 0 0 else sT M1 7 19 0 (thI (rHeld M (f (i + 1)))))
    (r : RC M M1)  (h71 : 0 < mN M1 7) (h72 : 0 < mN M2 7) (h392 : 0 < mN M2 39) (hr9 : rHeld M (f (i + 1)) < 100) (hthr : mT M2 7 19 0 = nI (rHeld M (f (i + 1)))) (hval : rHeld M (f (i + 1)) = 0 → mJ M2 39 0 0 = ((if rHeld M (f (i + 1)) = 0 then heN M (ix (f (i + 1))) (mN M 4) else 0)).toInt64)
    (hf : cells + 2 ≤ R.cells ∧ slots + 12 ≤ R.slots) (hf0 : cells + 2 + 0 ≤ R.cells ∧ slots + 12 + 0 ≤ R.slots) (kk : ∀ (K1 : Nat → Nat → Nat) (H1 : Heap) (locs1 : List Loc) (ls1 : Array Slot), HM Γ K1 M2 H1 → va_S (gFree Γ) s.heap H1 locs1 → lv_has ls1 9 (LV K1 a0 i) → W p l e R s m args below meth c H1 locs1 (cells + 2) (slots + 12) Q (F0 m 2497 ls1 [])) :
    W p l e R s m args below meth c H locs cells slots Q (F0 m 1313 ls []) := by
  have hx := C.1
  have hb := C.2.1
  have e6 := wn6 w
  refine lv_aload_n hx hb dL_law_1313 rfl (lv_at hl 1 rfl) ?_
  refine lv_aload_n hx hb dL_law_1314 rfl (lv_at hl 0 rfl) ?_
  refine lv_iload hx hb dL_law_1315 (lv_at hl 5 rfl) ?_
  refine lv_iconst (v := 1) hx hb dL_law_1317 (by decide) ?_
  refine lv_iadd hx hb dL_law_1318 ?_
  refine g_inp (j := 1) C hin ha0 hS (nI_add i 1) (by omega) hn dL_law_1319 ?_
  refine lv_aload_n hx hb dL_law_1320 rfl (lv_at hl 3 rfl) ?_
  refine g_callHL C hS (fun _ h => h) hM hl (fun _ h => h) (h_held hfl Γ _ _ (f (i + 1)) w h39 h39b) kL_held t_1058 dL_law_1321 rfl rfl (Nat.le_of_ble_eq_true rfl) (by decide) hRm hf (fun v9 K1 M9 H locs hp hM hS _ _ => ?_)
  obtain ⟨rfl, hKK, hM9⟩ := hp
  obtain rfl : M1 = M9 := (hM9.trans hM1.symm).symm
  replace hl : lv_has ls 9 (LV K1 a0 i) := by rw [show LV K1 a0 i = LV K a0 i from by simp only [LV, hKK 6 0 e6, hKK 7 0 (show 0 < mN M 7 by omega), hKK 39 0 (show 0 < mN M 39 by omega), hKK 40 0 (show 0 < mN M 40 by omega)]]; exact hl
  dsimp only [Option.toList, List.cons_append, List.nil_append]
  refine lv_istore (lv' := [(6, _), (0, _), (1, _), (2, _), (3, _), (4, _), (5, _)]) hx hb dL_law_1324 hl (by decide) rfl (fun ls hl => ?_)
  refine lv_aload_n hx hb dL_law_1326 rfl (lv_at hl 3 rfl) ?_
  refine lv_aload_n hx hb dL_law_1327 rfl (lv_at hl 1 rfl) ?_
  refine lv_iload hx hb dL_law_1328 (lv_at hl 6 rfl) ?_
  refine lv_iconst (v := 1) hx hb dL_law_1330 (by decide) ?_
  refine lv_iadd hx hb dL_law_1331 ?_
  refine g_inp (j := 1) C hin ha0 hS (nI_add i 1) (by omega) hn dL_law_1332 ?_
  refine g_cVL C hS (fun _ h => h) hM hl (fun _ h => h) (m_held hfl Γ _ _ (f (i + 1)) M w r ) kX7_held t_1541 (HM.recv C hM clo_7 h71) dL_law_1333 rfl rfl (Nat.le_of_ble_eq_true rfl) (by decide) hRm hf0 (fun H locs hM hS => ?_)
  replace hM : HM Γ K1 M2 H := by rw [hM2]; exact hM
  refine lv_istore (lv' := [(7, _), (6, _), (0, _), (1, _), (2, _), (3, _), (4, _), (5, _)]) hx hb dL_law_1336 hl (by decide) rfl (fun ls hl => ?_)
  refine lv_aload_n hx hb dL_law_1338 rfl (lv_at hl 4 rfl) ?_
  refine g_cVL C hS (fun _ h => h) hM hl (fun _ h => h.elim) (m_thrown hfl Γ _ _ h72) kX7_thrown t_1391 (HM.recv C hM clo_7 h72) dL_law_1339 rfl rfl (Nat.le_of_ble_eq_true rfl) (by decide) hRm hf0 (fun H locs hM hS => ?_)
  refine lv_iload hx hb dL_law_1342 (lv_at hl 1 rfl) ?_
  refine lv_icmp_eq (tgt := 1349) hx hb dL_law_1344 (by decide) (fun _ => ?_) (fun z => absurd hthr z)
  refine lv_iload hx hb dL_law_1349 (lv_at hl 1 rfl) ?_
  refine lv_if_ne (tgt := 1366) hx hb dL_law_1351 (by decide) (fun c9 => ?_) (fun c9 => ?_)
  · refine lv_goto (tgt := 2497) hx hb dL_law_1366 (by decide) ?_
    exact kk K1 _ _ _ hM hS (lv_sub hl [2, 3, 4, 5, 6, 7] rfl)
  · have h0 : rHeld M (f (i + 1)) = 0 := nI_zero hr9 c9
    refine lv_aload_n hx hb dL_law_1354 rfl (lv_at hl 5 rfl) ?_
    refine lv_iconst (v := 0) hx hb dL_law_1355 (by decide) ?_
    refine g_lald C hM h392 dL_law_1356 ?_
    refine lv_iload hx hb dL_law_1357 (lv_at hl 0 rfl) ?_
    refine lv_i2l hx hb dL_law_1359 rfl ?_
    refine g_lcmp0 hx hb dL_law_1360 (hval h0) ?_
    refine lv_if_eq (tgt := 1366) hx hb dL_law_1361 (by decide) (fun _ => ?_) (fun z => absurd rfl z)
    refine lv_goto (tgt := 2497) hx hb dL_law_1366 (by decide) ?_
    exact kk K1 _ _ _ hM hS (lv_sub hl [2, 3, 4, 5, 6, 7] rfl)
set_option maxHeartbeats 1500000 in
set_option maxRecDepth 100000 in
theorem arm_20 {l : Launch} (hfl : l.stackTraces = false) {Γ : Gm} {p : Program} {e : Env} {R : Room} {s : State} {m : MethodId} {args : Array Value} {below : List Frame} {meth : Method} {c : Code} {H : Heap} {locs : List Loc} {cells slots : Nat} {Q : State → Prop} {K : Nat → Nat → Nat} {M : Mem} {ls : Array Slot} {a0 n i : Nat} {f : Nat → Int32}
    (C : Cx Γ p l s m args meth c cL_law 9 RL) (hRm : RmL R) (hin : InA s a0 n f) (ha0 : a0 < gB Γ) (hi6 : i + 6 ≤ n) (hn : n ≤ 3072) (hM : HM Γ K M H) (hS : va_S (gFree Γ) s.heap H locs) (hl : lv_has ls 9 (LV K a0 i)) (w : Wf M) (n7 : mN M 7 = 1) (h39 : mN M 39 = 1) (h40 : mN M 40 = 1)
    (h39b : mN (M) 39 = 1) (M1 M2 : Mem) (hM1 : M1 = if rAgentOf M (f (i + 1)) = 0 then sJ (M) 39 0 0 ((mT M 0 0 ((mP M 4 9 (ix (f (i + 1)))).getD 0)).toInt64) else M) (hM2 : M2 = if rAgentOf M (f (i + 1)) = 0 then sT M1 7 19 0 0 else sT M1 7 19 0 (thI (rAgentOf M (f (i + 1)))))
    (r : RC M M1)  (h71 : 0 < mN M1 7) (h72 : 0 < mN M2 7) (h392 : 0 < mN M2 39) (hr9 : rAgentOf M (f (i + 1)) < 100) (hthr : mT M2 7 19 0 = nI (rAgentOf M (f (i + 1)))) (hval : rAgentOf M (f (i + 1)) = 0 → mJ M2 39 0 0 = ((if rAgentOf M (f (i + 1)) = 0 then oI (mP M 4 9 (ix (f (i + 1)))) else 0)).toInt64)
    (hf : cells + 2 ≤ R.cells ∧ slots + 12 ≤ R.slots) (hf0 : cells + 2 + 0 ≤ R.cells ∧ slots + 12 + 0 ≤ R.slots) (kk : ∀ (K1 : Nat → Nat → Nat) (H1 : Heap) (locs1 : List Loc) (ls1 : Array Slot), HM Γ K1 M2 H1 → va_S (gFree Γ) s.heap H1 locs1 → lv_has ls1 9 (LV K1 a0 i) → W p l e R s m args below meth c H1 locs1 (cells + 2) (slots + 12) Q (F0 m 2497 ls1 [])) :
    W p l e R s m args below meth c H locs cells slots Q (F0 m 1369 ls []) := by
  have hx := C.1
  have hb := C.2.1
  have e6 := wn6 w
  refine lv_aload_n hx hb dL_law_1369 rfl (lv_at hl 1 rfl) ?_
  refine lv_aload_n hx hb dL_law_1370 rfl (lv_at hl 0 rfl) ?_
  refine lv_iload hx hb dL_law_1371 (lv_at hl 5 rfl) ?_
  refine lv_iconst (v := 1) hx hb dL_law_1373 (by decide) ?_
  refine lv_iadd hx hb dL_law_1374 ?_
  refine g_inp (j := 1) C hin ha0 hS (nI_add i 1) (by omega) hn dL_law_1375 ?_
  refine lv_aload_n hx hb dL_law_1376 rfl (lv_at hl 3 rfl) ?_
  refine g_callHL C hS (fun _ h => h) hM hl (fun _ h => h) (h_agentOf hfl Γ _ _ (f (i + 1)) w h39 h39b) kL_agentOf t_1065 dL_law_1377 rfl rfl (Nat.le_of_ble_eq_true rfl) (by decide) hRm hf (fun v9 K1 M9 H locs hp hM hS _ _ => ?_)
  obtain ⟨rfl, hKK, hM9⟩ := hp
  obtain rfl : M1 = M9 := (hM9.trans hM1.symm).symm
  replace hl : lv_has ls 9 (LV K1 a0 i) := by rw [show LV K1 a0 i = LV K a0 i from by simp only [LV, hKK 6 0 e6, hKK 7 0 (show 0 < mN M 7 by omega), hKK 39 0 (show 0 < mN M 39 by omega), hKK 40 0 (show 0 < mN M 40 by omega)]]; exact hl
  dsimp only [Option.toList, List.cons_append, List.nil_append]
  refine lv_istore (lv' := [(6, _), (0, _), (1, _), (2, _), (3, _), (4, _), (5, _)]) hx hb dL_law_1380 hl (by decide) rfl (fun ls hl => ?_)
  refine lv_aload_n hx hb dL_law_1382 rfl (lv_at hl 3 rfl) ?_
  refine lv_aload_n hx hb dL_law_1383 rfl (lv_at hl 1 rfl) ?_
  refine lv_iload hx hb dL_law_1384 (lv_at hl 6 rfl) ?_
  refine lv_iconst (v := 1) hx hb dL_law_1386 (by decide) ?_
  refine lv_iadd hx hb dL_law_1387 ?_
  refine g_inp (j := 1) C hin ha0 hS (nI_add i 1) (by omega) hn dL_law_1388 ?_
  refine g_cVL C hS (fun _ h => h) hM hl (fun _ h => h) (m_agentOf hfl Γ _ _ (f (i + 1)) M w r ) kX7_agentOf t_1549 (HM.recv C hM clo_7 h71) dL_law_1389 rfl rfl (Nat.le_of_ble_eq_true rfl) (by decide) hRm hf0 (fun H locs hM hS => ?_)
  replace hM : HM Γ K1 M2 H := by rw [hM2]; exact hM
  refine lv_istore (lv' := [(7, _), (6, _), (0, _), (1, _), (2, _), (3, _), (4, _), (5, _)]) hx hb dL_law_1392 hl (by decide) rfl (fun ls hl => ?_)
  refine lv_aload_n hx hb dL_law_1394 rfl (lv_at hl 4 rfl) ?_
  refine g_cVL C hS (fun _ h => h) hM hl (fun _ h => h.elim) (m_thrown hfl Γ _ _ h72) kX7_thrown t_1391 (HM.recv C hM clo_7 h72) dL_law_1395 rfl rfl (Nat.le_of_ble_eq_true rfl) (by decide) hRm hf0 (fun H locs hM hS => ?_)
  refine lv_iload hx hb dL_law_1398 (lv_at hl 1 rfl) ?_
  refine lv_icmp_eq (tgt := 1405) hx hb dL_law_1400 (by decide) (fun _ => ?_) (fun z => absurd hthr z)
  refine lv_iload hx hb dL_law_1405 (lv_at hl 1 rfl) ?_
  refine lv_if_ne (tgt := 1422) hx hb dL_law_1407 (by decide) (fun c9 => ?_) (fun c9 => ?_)
  · refine lv_goto (tgt := 2497) hx hb dL_law_1422 (by decide) ?_
    exact kk K1 _ _ _ hM hS (lv_sub hl [2, 3, 4, 5, 6, 7] rfl)
  · have h0 : rAgentOf M (f (i + 1)) = 0 := nI_zero hr9 c9
    refine lv_aload_n hx hb dL_law_1410 rfl (lv_at hl 5 rfl) ?_
    refine lv_iconst (v := 0) hx hb dL_law_1411 (by decide) ?_
    refine g_lald C hM h392 dL_law_1412 ?_
    refine lv_iload hx hb dL_law_1413 (lv_at hl 0 rfl) ?_
    refine lv_i2l hx hb dL_law_1415 rfl ?_
    refine g_lcmp0 hx hb dL_law_1416 (hval h0) ?_
    refine lv_if_eq (tgt := 1422) hx hb dL_law_1417 (by decide) (fun _ => ?_) (fun z => absurd rfl z)
    refine lv_goto (tgt := 2497) hx hb dL_law_1422 (by decide) ?_
    exact kk K1 _ _ _ hM hS (lv_sub hl [2, 3, 4, 5, 6, 7] rfl)
set_option maxHeartbeats 1500000 in
set_option maxRecDepth 100000 in
theorem arm_21 {l : Launch} (hfl : l.stackTraces = false) {Γ : Gm} {p : Program} {e : Env} {R : Room} {s : State} {m : MethodId} {args : Array Value} {below : List Frame} {meth : Method} {c : Code} {H : Heap} {locs : List Loc} {cells slots : Nat} {Q : State → Prop} {K : Nat → Nat → Nat} {M : Mem} {ls : Array Slot} {a0 n i : Nat} {f : Nat → Int32}
    (C : Cx Γ p l s m args meth c cL_law 9 RL) (hRm : RmL R) (hin : InA s a0 n f) (ha0 : a0 < gB Γ) (hi6 : i + 6 ≤ n) (hn : n ≤ 3072) (hM : HM Γ K M H) (hS : va_S (gFree Γ) s.heap H locs) (hl : lv_has ls 9 (LV K a0 i)) (w : Wf M) (n7 : mN M 7 = 1) (h39 : mN M 39 = 1) (h40 : mN M 40 = 1)
    (h39b : mN (M) 39 = 1) (M1 M2 : Mem) (hM1 : M1 = if rNextFor M (f (i + 1)) = 0 then sJ (M) 39 0 0 ((mT M 4 0 ((nqN M (ix (f (i + 1))) 6).getD 0)).toInt64) else M) (hM2 : M2 = if rNextM M (f (i + 1)) = 0 then sT M1 7 19 0 0 else sT M1 7 19 0 (thI (rNextM M (f (i + 1)))))
    (r : RC M M1)  (h71 : 0 < mN M1 7) (h72 : 0 < mN M2 7) (h392 : 0 < mN M2 39) (hr9 : rNextFor M (f (i + 1)) < 100) (hthr : mT M2 7 19 0 = nI (rNextFor M (f (i + 1)))) (hval : rNextFor M (f (i + 1)) = 0 → mJ M2 39 0 0 = ((if rNextM M (f (i + 1)) = 0 then oI (mnN M (ix (f (i + 1))) (mN M 4)) else 0)).toInt64)
    (hf : cells + 2 ≤ R.cells ∧ slots + 12 ≤ R.slots) (hf0 : cells + 2 + 0 ≤ R.cells ∧ slots + 12 + 0 ≤ R.slots) (kk : ∀ (K1 : Nat → Nat → Nat) (H1 : Heap) (locs1 : List Loc) (ls1 : Array Slot), HM Γ K1 M2 H1 → va_S (gFree Γ) s.heap H1 locs1 → lv_has ls1 9 (LV K1 a0 i) → W p l e R s m args below meth c H1 locs1 (cells + 2) (slots + 12) Q (F0 m 2497 ls1 [])) :
    W p l e R s m args below meth c H locs cells slots Q (F0 m 1425 ls []) := by
  have hx := C.1
  have hb := C.2.1
  have e6 := wn6 w
  refine lv_aload_n hx hb dL_law_1425 rfl (lv_at hl 1 rfl) ?_
  refine lv_aload_n hx hb dL_law_1426 rfl (lv_at hl 0 rfl) ?_
  refine lv_iload hx hb dL_law_1427 (lv_at hl 5 rfl) ?_
  refine lv_iconst (v := 1) hx hb dL_law_1429 (by decide) ?_
  refine lv_iadd hx hb dL_law_1430 ?_
  refine g_inp (j := 1) C hin ha0 hS (nI_add i 1) (by omega) hn dL_law_1431 ?_
  refine lv_aload_n hx hb dL_law_1432 rfl (lv_at hl 3 rfl) ?_
  refine g_callHL C hS (fun _ h => h) hM hl (fun _ h => h) (h_nextFor hfl Γ _ _ (f (i + 1)) w h39 h39b) kL_nextFor t_1073 dL_law_1433 rfl rfl (Nat.le_of_ble_eq_true rfl) (by decide) hRm hf (fun v9 K1 M9 H locs hp hM hS _ _ => ?_)
  obtain ⟨rfl, hKK, hM9⟩ := hp
  obtain rfl : M1 = M9 := (hM9.trans hM1.symm).symm
  replace hl : lv_has ls 9 (LV K1 a0 i) := by rw [show LV K1 a0 i = LV K a0 i from by simp only [LV, hKK 6 0 e6, hKK 7 0 (show 0 < mN M 7 by omega), hKK 39 0 (show 0 < mN M 39 by omega), hKK 40 0 (show 0 < mN M 40 by omega)]]; exact hl
  dsimp only [Option.toList, List.cons_append, List.nil_append]
  refine lv_istore (lv' := [(6, _), (0, _), (1, _), (2, _), (3, _), (4, _), (5, _)]) hx hb dL_law_1436 hl (by decide) rfl (fun ls hl => ?_)
  refine lv_aload_n hx hb dL_law_1438 rfl (lv_at hl 3 rfl) ?_
  refine lv_aload_n hx hb dL_law_1439 rfl (lv_at hl 1 rfl) ?_
  refine lv_iload hx hb dL_law_1440 (lv_at hl 6 rfl) ?_
  refine lv_iconst (v := 1) hx hb dL_law_1442 (by decide) ?_
  refine lv_iadd hx hb dL_law_1443 ?_
  refine g_inp (j := 1) C hin ha0 hS (nI_add i 1) (by omega) hn dL_law_1444 ?_
  refine g_cVL C hS (fun _ h => h) hM hl (fun _ h => h) (m_nextFor hfl Γ _ _ (f (i + 1)) M w r ) kX7_nextFor t_1553 (HM.recv C hM clo_7 h71) dL_law_1445 rfl rfl (Nat.le_of_ble_eq_true rfl) (by decide) hRm hf0 (fun H locs hM hS => ?_)
  replace hM : HM Γ K1 M2 H := by rw [hM2]; exact hM
  refine lv_istore (lv' := [(7, _), (6, _), (0, _), (1, _), (2, _), (3, _), (4, _), (5, _)]) hx hb dL_law_1448 hl (by decide) rfl (fun ls hl => ?_)
  refine lv_aload_n hx hb dL_law_1450 rfl (lv_at hl 4 rfl) ?_
  refine g_cVL C hS (fun _ h => h) hM hl (fun _ h => h.elim) (m_thrown hfl Γ _ _ h72) kX7_thrown t_1391 (HM.recv C hM clo_7 h72) dL_law_1451 rfl rfl (Nat.le_of_ble_eq_true rfl) (by decide) hRm hf0 (fun H locs hM hS => ?_)
  refine lv_iload hx hb dL_law_1454 (lv_at hl 1 rfl) ?_
  refine lv_icmp_eq (tgt := 1461) hx hb dL_law_1456 (by decide) (fun _ => ?_) (fun z => absurd hthr z)
  refine lv_iload hx hb dL_law_1461 (lv_at hl 1 rfl) ?_
  refine lv_if_ne (tgt := 1478) hx hb dL_law_1463 (by decide) (fun c9 => ?_) (fun c9 => ?_)
  · refine lv_goto (tgt := 2497) hx hb dL_law_1478 (by decide) ?_
    exact kk K1 _ _ _ hM hS (lv_sub hl [2, 3, 4, 5, 6, 7] rfl)
  · have h0 : rNextFor M (f (i + 1)) = 0 := nI_zero hr9 c9
    refine lv_aload_n hx hb dL_law_1466 rfl (lv_at hl 5 rfl) ?_
    refine lv_iconst (v := 0) hx hb dL_law_1467 (by decide) ?_
    refine g_lald C hM h392 dL_law_1468 ?_
    refine lv_iload hx hb dL_law_1469 (lv_at hl 0 rfl) ?_
    refine lv_i2l hx hb dL_law_1471 rfl ?_
    refine g_lcmp0 hx hb dL_law_1472 (hval h0) ?_
    refine lv_if_eq (tgt := 1478) hx hb dL_law_1473 (by decide) (fun _ => ?_) (fun z => absurd rfl z)
    refine lv_goto (tgt := 2497) hx hb dL_law_1478 (by decide) ?_
    exact kk K1 _ _ _ hM hS (lv_sub hl [2, 3, 4, 5, 6, 7] rfl)
set_option maxHeartbeats 1500000 in
set_option maxRecDepth 100000 in
theorem arm_22 {l : Launch} (hfl : l.stackTraces = false) {Γ : Gm} {p : Program} {e : Env} {R : Room} {s : State} {m : MethodId} {args : Array Value} {below : List Frame} {meth : Method} {c : Code} {H : Heap} {locs : List Loc} {cells slots : Nat} {Q : State → Prop} {K : Nat → Nat → Nat} {M : Mem} {ls : Array Slot} {a0 n i : Nat} {f : Nat → Int32}
    (C : Cx Γ p l s m args meth c cL_law 9 RL) (hRm : RmL R) (hin : InA s a0 n f) (ha0 : a0 < gB Γ) (hi6 : i + 6 ≤ n) (hn : n ≤ 3072) (hM : HM Γ K M H) (hS : va_S (gFree Γ) s.heap H locs) (hl : lv_has ls 9 (LV K a0 i)) (w : Wf M) (n7 : mN M 7 = 1) (h39 : mN M 39 = 1) (h40 : mN M 40 = 1)
    (h39b : mN (M) 39 = 1) (M1 M2 : Mem) (hM1 : M1 = if rNextByTickets M (f (i + 1)) = 0 then sJ (M) 39 0 0 ((mT M 4 0 ((ntN M (ix (f (i + 1))) (mN M 4)).getD 0)).toInt64) else M) (hM2 : M2 = if rNextM M (f (i + 1)) = 0 then sT M1 7 19 0 0 else sT M1 7 19 0 (thI (rNextM M (f (i + 1)))))
    (r : RC M M1)  (h71 : 0 < mN M1 7) (h72 : 0 < mN M2 7) (h392 : 0 < mN M2 39) (hr9 : rNextByTickets M (f (i + 1)) < 100) (hthr : mT M2 7 19 0 = nI (rNextByTickets M (f (i + 1)))) (hval : rNextByTickets M (f (i + 1)) = 0 → mJ M2 39 0 0 = ((if rNextM M (f (i + 1)) = 0 then oI (mnN M (ix (f (i + 1))) (mN M 4)) else 0)).toInt64)
    (hf : cells + 2 ≤ R.cells ∧ slots + 12 ≤ R.slots) (hf0 : cells + 2 + 0 ≤ R.cells ∧ slots + 12 + 0 ≤ R.slots) (kk : ∀ (K1 : Nat → Nat → Nat) (H1 : Heap) (locs1 : List Loc) (ls1 : Array Slot), HM Γ K1 M2 H1 → va_S (gFree Γ) s.heap H1 locs1 → lv_has ls1 9 (LV K1 a0 i) → W p l e R s m args below meth c H1 locs1 (cells + 2) (slots + 12) Q (F0 m 2497 ls1 [])) :
    W p l e R s m args below meth c H locs cells slots Q (F0 m 1481 ls []) := by
  have hx := C.1
  have hb := C.2.1
  have e6 := wn6 w
  refine lv_aload_n hx hb dL_law_1481 rfl (lv_at hl 1 rfl) ?_
  refine lv_aload_n hx hb dL_law_1482 rfl (lv_at hl 0 rfl) ?_
  refine lv_iload hx hb dL_law_1483 (lv_at hl 5 rfl) ?_
  refine lv_iconst (v := 1) hx hb dL_law_1485 (by decide) ?_
  refine lv_iadd hx hb dL_law_1486 ?_
  refine g_inp (j := 1) C hin ha0 hS (nI_add i 1) (by omega) hn dL_law_1487 ?_
  refine lv_aload_n hx hb dL_law_1488 rfl (lv_at hl 3 rfl) ?_
  refine g_callHL C hS (fun _ h => h) hM hl (fun _ h => h) (h_nextByTickets hfl Γ _ _ (f (i + 1)) w h39 h39b) kL_nextByTickets t_1081 dL_law_1489 rfl rfl (Nat.le_of_ble_eq_true rfl) (by decide) hRm hf (fun v9 K1 M9 H locs hp hM hS _ _ => ?_)
  obtain ⟨rfl, hKK, hM9⟩ := hp
  obtain rfl : M1 = M9 := (hM9.trans hM1.symm).symm
  replace hl : lv_has ls 9 (LV K1 a0 i) := by rw [show LV K1 a0 i = LV K a0 i from by simp only [LV, hKK 6 0 e6, hKK 7 0 (show 0 < mN M 7 by omega), hKK 39 0 (show 0 < mN M 39 by omega), hKK 40 0 (show 0 < mN M 40 by omega)]]; exact hl
  dsimp only [Option.toList, List.cons_append, List.nil_append]
  refine lv_istore (lv' := [(6, _), (0, _), (1, _), (2, _), (3, _), (4, _), (5, _)]) hx hb dL_law_1492 hl (by decide) rfl (fun ls hl => ?_)
  refine lv_aload_n hx hb dL_law_1494 rfl (lv_at hl 3 rfl) ?_
  refine lv_aload_n hx hb dL_law_1495 rfl (lv_at hl 1 rfl) ?_
  refine lv_iload hx hb dL_law_1496 (lv_at hl 6 rfl) ?_
  refine lv_iconst (v := 1) hx hb dL_law_1498 (by decide) ?_
  refine lv_iadd hx hb dL_law_1499 ?_
  refine g_inp (j := 1) C hin ha0 hS (nI_add i 1) (by omega) hn dL_law_1500 ?_
  refine g_cVL C hS (fun _ h => h) hM hl (fun _ h => h) (m_nextByTickets hfl Γ _ _ (f (i + 1)) M w r ) kX7_nextByTickets t_1573 (HM.recv C hM clo_7 h71) dL_law_1501 rfl rfl (Nat.le_of_ble_eq_true rfl) (by decide) hRm hf0 (fun H locs hM hS => ?_)
  replace hM : HM Γ K1 M2 H := by rw [hM2]; exact hM
  refine lv_istore (lv' := [(7, _), (6, _), (0, _), (1, _), (2, _), (3, _), (4, _), (5, _)]) hx hb dL_law_1504 hl (by decide) rfl (fun ls hl => ?_)
  refine lv_aload_n hx hb dL_law_1506 rfl (lv_at hl 4 rfl) ?_
  refine g_cVL C hS (fun _ h => h) hM hl (fun _ h => h.elim) (m_thrown hfl Γ _ _ h72) kX7_thrown t_1391 (HM.recv C hM clo_7 h72) dL_law_1507 rfl rfl (Nat.le_of_ble_eq_true rfl) (by decide) hRm hf0 (fun H locs hM hS => ?_)
  refine lv_iload hx hb dL_law_1510 (lv_at hl 1 rfl) ?_
  refine lv_icmp_eq (tgt := 1517) hx hb dL_law_1512 (by decide) (fun _ => ?_) (fun z => absurd hthr z)
  refine lv_iload hx hb dL_law_1517 (lv_at hl 1 rfl) ?_
  refine lv_if_ne (tgt := 1534) hx hb dL_law_1519 (by decide) (fun c9 => ?_) (fun c9 => ?_)
  · refine lv_goto (tgt := 2497) hx hb dL_law_1534 (by decide) ?_
    exact kk K1 _ _ _ hM hS (lv_sub hl [2, 3, 4, 5, 6, 7] rfl)
  · have h0 : rNextByTickets M (f (i + 1)) = 0 := nI_zero hr9 c9
    refine lv_aload_n hx hb dL_law_1522 rfl (lv_at hl 5 rfl) ?_
    refine lv_iconst (v := 0) hx hb dL_law_1523 (by decide) ?_
    refine g_lald C hM h392 dL_law_1524 ?_
    refine lv_iload hx hb dL_law_1525 (lv_at hl 0 rfl) ?_
    refine lv_i2l hx hb dL_law_1527 rfl ?_
    refine g_lcmp0 hx hb dL_law_1528 (hval h0) ?_
    refine lv_if_eq (tgt := 1534) hx hb dL_law_1529 (by decide) (fun _ => ?_) (fun z => absurd rfl z)
    refine lv_goto (tgt := 2497) hx hb dL_law_1534 (by decide) ?_
    exact kk K1 _ _ _ hM hS (lv_sub hl [2, 3, 4, 5, 6, 7] rfl)
set_option maxHeartbeats 1500000 in
set_option maxRecDepth 100000 in
theorem arm_23 {l : Launch} (hfl : l.stackTraces = false) {Γ : Gm} {p : Program} {e : Env} {R : Room} {s : State} {m : MethodId} {args : Array Value} {below : List Frame} {meth : Method} {c : Code} {H : Heap} {locs : List Loc} {cells slots : Nat} {Q : State → Prop} {K : Nat → Nat → Nat} {M : Mem} {ls : Array Slot} {a0 n i : Nat} {f : Nat → Int32}
    (C : Cx Γ p l s m args meth c cL_law 9 RL) (hRm : RmL R) (hin : InA s a0 n f) (ha0 : a0 < gB Γ) (hi6 : i + 6 ≤ n) (hn : n ≤ 3072) (hM : HM Γ K M H) (hS : va_S (gFree Γ) s.heap H locs) (hl : lv_has ls 9 (LV K a0 i)) (w : Wf M) (n7 : mN M 7 = 1) (h39 : mN M 39 = 1) (h40 : mN M 40 = 1)
    (h39b : mN (M) 39 = 1) (M1 M2 : Mem) (hM1 : M1 = if rWaiting M (f (i + 1)) = 0 then sJ (M) 39 0 0 ((wtN M (ix (f (i + 1))) 6).toInt64) else M) (hM2 : M2 = if rWaiting M (f (i + 1)) = 0 then sT M1 7 19 0 0 else sT M1 7 19 0 (thI (rWaiting M (f (i + 1)))))
    (r : RC M M1)  (h71 : 0 < mN M1 7) (h72 : 0 < mN M2 7) (h392 : 0 < mN M2 39) (hr9 : rWaiting M (f (i + 1)) < 100) (hthr : mT M2 7 19 0 = nI (rWaiting M (f (i + 1)))) (hval : rWaiting M (f (i + 1)) = 0 → mJ M2 39 0 0 = ((if rWaiting M (f (i + 1)) = 0 then fcN M (ix (f (i + 1))) (mN M 4) else 0)).toInt64)
    (hf : cells + 2 ≤ R.cells ∧ slots + 12 ≤ R.slots) (hf0 : cells + 2 + 0 ≤ R.cells ∧ slots + 12 + 0 ≤ R.slots) (kk : ∀ (K1 : Nat → Nat → Nat) (H1 : Heap) (locs1 : List Loc) (ls1 : Array Slot), HM Γ K1 M2 H1 → va_S (gFree Γ) s.heap H1 locs1 → lv_has ls1 9 (LV K1 a0 i) → W p l e R s m args below meth c H1 locs1 (cells + 2) (slots + 12) Q (F0 m 2497 ls1 [])) :
    W p l e R s m args below meth c H locs cells slots Q (F0 m 1537 ls []) := by
  have hx := C.1
  have hb := C.2.1
  have e6 := wn6 w
  refine lv_aload_n hx hb dL_law_1537 rfl (lv_at hl 1 rfl) ?_
  refine lv_aload_n hx hb dL_law_1538 rfl (lv_at hl 0 rfl) ?_
  refine lv_iload hx hb dL_law_1539 (lv_at hl 5 rfl) ?_
  refine lv_iconst (v := 1) hx hb dL_law_1541 (by decide) ?_
  refine lv_iadd hx hb dL_law_1542 ?_
  refine g_inp (j := 1) C hin ha0 hS (nI_add i 1) (by omega) hn dL_law_1543 ?_
  refine lv_aload_n hx hb dL_law_1544 rfl (lv_at hl 3 rfl) ?_
  refine g_callHL C hS (fun _ h => h) hM hl (fun _ h => h) (h_waiting hfl Γ _ _ (f (i + 1)) w h39 h39b) kL_waiting t_1088 dL_law_1545 rfl rfl (Nat.le_of_ble_eq_true rfl) (by decide) hRm hf (fun v9 K1 M9 H locs hp hM hS _ _ => ?_)
  obtain ⟨rfl, hKK, hM9⟩ := hp
  obtain rfl : M1 = M9 := (hM9.trans hM1.symm).symm
  replace hl : lv_has ls 9 (LV K1 a0 i) := by rw [show LV K1 a0 i = LV K a0 i from by simp only [LV, hKK 6 0 e6, hKK 7 0 (show 0 < mN M 7 by omega), hKK 39 0 (show 0 < mN M 39 by omega), hKK 40 0 (show 0 < mN M 40 by omega)]]; exact hl
  dsimp only [Option.toList, List.cons_append, List.nil_append]
  refine lv_istore (lv' := [(6, _), (0, _), (1, _), (2, _), (3, _), (4, _), (5, _)]) hx hb dL_law_1548 hl (by decide) rfl (fun ls hl => ?_)
  refine lv_aload_n hx hb dL_law_1550 rfl (lv_at hl 3 rfl) ?_
  refine lv_aload_n hx hb dL_law_1551 rfl (lv_at hl 1 rfl) ?_
  refine lv_iload hx hb dL_law_1552 (lv_at hl 6 rfl) ?_
  refine lv_iconst (v := 1) hx hb dL_law_1554 (by decide) ?_
  refine lv_iadd hx hb dL_law_1555 ?_
  refine g_inp (j := 1) C hin ha0 hS (nI_add i 1) (by omega) hn dL_law_1556 ?_
  refine g_cVL C hS (fun _ h => h) hM hl (fun _ h => h) (m_waiting hfl Γ _ _ (f (i + 1)) M w r ) kX7_waiting t_1578 (HM.recv C hM clo_7 h71) dL_law_1557 rfl rfl (Nat.le_of_ble_eq_true rfl) (by decide) hRm hf0 (fun H locs hM hS => ?_)
  replace hM : HM Γ K1 M2 H := by rw [hM2]; exact hM
  refine lv_istore (lv' := [(7, _), (6, _), (0, _), (1, _), (2, _), (3, _), (4, _), (5, _)]) hx hb dL_law_1560 hl (by decide) rfl (fun ls hl => ?_)
  refine lv_aload_n hx hb dL_law_1562 rfl (lv_at hl 4 rfl) ?_
  refine g_cVL C hS (fun _ h => h) hM hl (fun _ h => h.elim) (m_thrown hfl Γ _ _ h72) kX7_thrown t_1391 (HM.recv C hM clo_7 h72) dL_law_1563 rfl rfl (Nat.le_of_ble_eq_true rfl) (by decide) hRm hf0 (fun H locs hM hS => ?_)
  refine lv_iload hx hb dL_law_1566 (lv_at hl 1 rfl) ?_
  refine lv_icmp_eq (tgt := 1573) hx hb dL_law_1568 (by decide) (fun _ => ?_) (fun z => absurd hthr z)
  refine lv_iload hx hb dL_law_1573 (lv_at hl 1 rfl) ?_
  refine lv_if_ne (tgt := 1590) hx hb dL_law_1575 (by decide) (fun c9 => ?_) (fun c9 => ?_)
  · refine lv_goto (tgt := 2497) hx hb dL_law_1590 (by decide) ?_
    exact kk K1 _ _ _ hM hS (lv_sub hl [2, 3, 4, 5, 6, 7] rfl)
  · have h0 : rWaiting M (f (i + 1)) = 0 := nI_zero hr9 c9
    refine lv_aload_n hx hb dL_law_1578 rfl (lv_at hl 5 rfl) ?_
    refine lv_iconst (v := 0) hx hb dL_law_1579 (by decide) ?_
    refine g_lald C hM h392 dL_law_1580 ?_
    refine lv_iload hx hb dL_law_1581 (lv_at hl 0 rfl) ?_
    refine lv_i2l hx hb dL_law_1583 rfl ?_
    refine g_lcmp0 hx hb dL_law_1584 (hval h0) ?_
    refine lv_if_eq (tgt := 1590) hx hb dL_law_1585 (by decide) (fun _ => ?_) (fun z => absurd rfl z)
    refine lv_goto (tgt := 2497) hx hb dL_law_1590 (by decide) ?_
    exact kk K1 _ _ _ hM hS (lv_sub hl [2, 3, 4, 5, 6, 7] rfl)
set_option maxHeartbeats 1500000 in
set_option maxRecDepth 100000 in
theorem arm_24 {l : Launch} (hfl : l.stackTraces = false) {Γ : Gm} {p : Program} {e : Env} {R : Room} {s : State} {m : MethodId} {args : Array Value} {below : List Frame} {meth : Method} {c : Code} {H : Heap} {locs : List Loc} {cells slots : Nat} {Q : State → Prop} {K : Nat → Nat → Nat} {M : Mem} {ls : Array Slot} {a0 n i : Nat} {f : Nat → Int32}
    (C : Cx Γ p l s m args meth c cL_law 9 RL) (hRm : RmL R) (hin : InA s a0 n f) (ha0 : a0 < gB Γ) (hi6 : i + 6 ≤ n) (hn : n ≤ 3072) (hM : HM Γ K M H) (hS : va_S (gFree Γ) s.heap H locs) (hl : lv_has ls 9 (LV K a0 i)) (w : Wf M) (n7 : mN M 7 = 1) (h39 : mN M 39 = 1) (h40 : mN M 40 = 1)
    (h39b : mN (takeM M (ix (f (i + 1))) ((nqN M (ix (f (i + 1))) 6).getD 0)) 39 = 1) (M1 M2 : Mem) (hM1 : M1 = if rTake M (f (i + 1)) = 0 then sJ (takeM M (ix (f (i + 1))) ((nqN M (ix (f (i + 1))) 6).getD 0)) 39 0 0 ((mT (takeM M (ix (f (i + 1))) ((nqN M (ix (f (i + 1))) 6).getD 0)) 4 0 ((nqN M (ix (f (i + 1))) 6).getD 0)).toInt64) else M) (hM2 : M2 = if rTakeM M (f (i + 1)) = 0 then sT (sT M1 7 19 0 0) 28 ((mnN M (ix (f (i + 1))) (mN M 4)).getD 0) 0 (f (i + 1)) else sT M1 7 19 0 (thI (rTakeM M (f (i + 1)))))
    (r : RC M M1)  (h71 : 0 < mN M1 7) (h72 : 0 < mN M2 7) (h392 : 0 < mN M2 39) (hr9 : rTake M (f (i + 1)) < 100) (hthr : mT M2 7 19 0 = nI (rTake M (f (i + 1)))) (hval : rTake M (f (i + 1)) = 0 → mJ M2 39 0 0 = ((if rTakeM M (f (i + 1)) = 0 then oI (mnN M (ix (f (i + 1))) (mN M 4)) else 0)).toInt64)
    (hf : cells + 2 ≤ R.cells ∧ slots + 12 ≤ R.slots) (hf0 : cells + 2 + 0 ≤ R.cells ∧ slots + 12 + 0 ≤ R.slots) (kk : ∀ (K1 : Nat → Nat → Nat) (H1 : Heap) (locs1 : List Loc) (ls1 : Array Slot), HM Γ K1 M2 H1 → va_S (gFree Γ) s.heap H1 locs1 → lv_has ls1 9 (LV K1 a0 i) → W p l e R s m args below meth c H1 locs1 (cells + 2) (slots + 12) Q (F0 m 2497 ls1 [])) :
    W p l e R s m args below meth c H locs cells slots Q (F0 m 1593 ls []) := by
  have hx := C.1
  have hb := C.2.1
  have e6 := wn6 w
  refine lv_aload_n hx hb dL_law_1593 rfl (lv_at hl 1 rfl) ?_
  refine lv_aload_n hx hb dL_law_1594 rfl (lv_at hl 0 rfl) ?_
  refine lv_iload hx hb dL_law_1595 (lv_at hl 5 rfl) ?_
  refine lv_iconst (v := 1) hx hb dL_law_1597 (by decide) ?_
  refine lv_iadd hx hb dL_law_1598 ?_
  refine g_inp (j := 1) C hin ha0 hS (nI_add i 1) (by omega) hn dL_law_1599 ?_
  refine lv_aload_n hx hb dL_law_1600 rfl (lv_at hl 3 rfl) ?_
  refine g_callHL C hS (fun _ h => h) hM hl (fun _ h => h) (h_take hfl Γ _ _ (f (i + 1)) w h39 h39b) kL_take t_1099 dL_law_1601 rfl rfl (Nat.le_of_ble_eq_true rfl) (by decide) hRm hf (fun v9 K1 M9 H locs hp hM hS _ _ => ?_)
  obtain ⟨rfl, hKK, hM9⟩ := hp
  obtain rfl : M1 = M9 := (hM9.trans hM1.symm).symm
  replace hl : lv_has ls 9 (LV K1 a0 i) := by rw [show LV K1 a0 i = LV K a0 i from by simp only [LV, hKK 6 0 e6, hKK 7 0 (show 0 < mN M 7 by omega), hKK 39 0 (show 0 < mN M 39 by omega), hKK 40 0 (show 0 < mN M 40 by omega)]]; exact hl
  dsimp only [Option.toList, List.cons_append, List.nil_append]
  refine lv_istore (lv' := [(6, _), (0, _), (1, _), (2, _), (3, _), (4, _), (5, _)]) hx hb dL_law_1604 hl (by decide) rfl (fun ls hl => ?_)
  refine lv_aload_n hx hb dL_law_1606 rfl (lv_at hl 3 rfl) ?_
  refine lv_aload_n hx hb dL_law_1607 rfl (lv_at hl 1 rfl) ?_
  refine lv_iload hx hb dL_law_1608 (lv_at hl 6 rfl) ?_
  refine lv_iconst (v := 1) hx hb dL_law_1610 (by decide) ?_
  refine lv_iadd hx hb dL_law_1611 ?_
  refine g_inp (j := 1) C hin ha0 hS (nI_add i 1) (by omega) hn dL_law_1612 ?_
  refine g_cVL C hS (fun _ h => h) hM hl (fun _ h => h) (m_take hfl Γ _ _ (f (i + 1)) M w r ) kX7_take t_1582 (HM.recv C hM clo_7 h71) dL_law_1613 rfl rfl (Nat.le_of_ble_eq_true rfl) (by decide) hRm hf0 (fun H locs hM hS => ?_)
  replace hM : HM Γ K1 M2 H := by rw [hM2]; exact hM
  refine lv_istore (lv' := [(7, _), (6, _), (0, _), (1, _), (2, _), (3, _), (4, _), (5, _)]) hx hb dL_law_1616 hl (by decide) rfl (fun ls hl => ?_)
  refine lv_aload_n hx hb dL_law_1618 rfl (lv_at hl 4 rfl) ?_
  refine g_cVL C hS (fun _ h => h) hM hl (fun _ h => h.elim) (m_thrown hfl Γ _ _ h72) kX7_thrown t_1391 (HM.recv C hM clo_7 h72) dL_law_1619 rfl rfl (Nat.le_of_ble_eq_true rfl) (by decide) hRm hf0 (fun H locs hM hS => ?_)
  refine lv_iload hx hb dL_law_1622 (lv_at hl 1 rfl) ?_
  refine lv_icmp_eq (tgt := 1629) hx hb dL_law_1624 (by decide) (fun _ => ?_) (fun z => absurd hthr z)
  refine lv_iload hx hb dL_law_1629 (lv_at hl 1 rfl) ?_
  refine lv_if_ne (tgt := 1646) hx hb dL_law_1631 (by decide) (fun c9 => ?_) (fun c9 => ?_)
  · refine lv_goto (tgt := 2497) hx hb dL_law_1646 (by decide) ?_
    exact kk K1 _ _ _ hM hS (lv_sub hl [2, 3, 4, 5, 6, 7] rfl)
  · have h0 : rTake M (f (i + 1)) = 0 := nI_zero hr9 c9
    refine lv_aload_n hx hb dL_law_1634 rfl (lv_at hl 5 rfl) ?_
    refine lv_iconst (v := 0) hx hb dL_law_1635 (by decide) ?_
    refine g_lald C hM h392 dL_law_1636 ?_
    refine lv_iload hx hb dL_law_1637 (lv_at hl 0 rfl) ?_
    refine lv_i2l hx hb dL_law_1639 rfl ?_
    refine g_lcmp0 hx hb dL_law_1640 (hval h0) ?_
    refine lv_if_eq (tgt := 1646) hx hb dL_law_1641 (by decide) (fun _ => ?_) (fun z => absurd rfl z)
    refine lv_goto (tgt := 2497) hx hb dL_law_1646 (by decide) ?_
    exact kk K1 _ _ _ hM hS (lv_sub hl [2, 3, 4, 5, 6, 7] rfl)
set_option maxHeartbeats 1500000 in
set_option maxRecDepth 100000 in
theorem arm_25 {l : Launch} (hfl : l.stackTraces = false) {Γ : Gm} {p : Program} {e : Env} {R : Room} {s : State} {m : MethodId} {args : Array Value} {below : List Frame} {meth : Method} {c : Code} {H : Heap} {locs : List Loc} {cells slots : Nat} {Q : State → Prop} {K : Nat → Nat → Nat} {M : Mem} {ls : Array Slot} {a0 n i : Nat} {f : Nat → Int32}
    (C : Cx Γ p l s m args meth c cL_law 9 RL) (hRm : RmL R) (hin : InA s a0 n f) (ha0 : a0 < gB Γ) (hi6 : i + 6 ≤ n) (hn : n ≤ 3072) (hM : HM Γ K M H) (hS : va_S (gFree Γ) s.heap H locs) (hl : lv_has ls 9 (LV K a0 i)) (w : Wf M) (n7 : mN M 7 = 1) (h39 : mN M 39 = 1) (h40 : mN M 40 = 1)
    (h39b : mN (hovM M (ix (f (i + 1))) (ix (f (i + 2)))) 39 = 1) (M1 M2 : Mem) (hM1 : M1 = if rHandOver M (f (i + 1)) (f (i + 2)) = 0 then sJ (hovM M (ix (f (i + 1))) (ix (f (i + 2)))) 39 0 0 ((mT (hovM M (ix (f (i + 1))) (ix (f (i + 2)))) 4 10 (ix (f (i + 1)))).toInt64) else M) (hM2 : M2 = if rHandM M (f (i + 1)) (f (i + 2)) = 0 then sT (sT (sT M1 7 19 0 0) 28 (ix (f (i + 1))) 0 (f (i + 2))) 29 (ix (f (i + 1))) 0 (mT M 4 10 (ix (f (i + 1))) + 1) else sT M1 7 19 0 (thI (rHandM M (f (i + 1)) (f (i + 2)))))
    (r : RC M M1)  (h71 : 0 < mN M1 7) (h72 : 0 < mN M2 7) (h392 : 0 < mN M2 39) (hr9 : rHandOver M (f (i + 1)) (f (i + 2)) < 100) (hthr : mT M2 7 19 0 = nI (rHandOver M (f (i + 1)) (f (i + 2)))) (hval : rHandOver M (f (i + 1)) (f (i + 2)) = 0 → mJ M2 39 0 0 = ((if rHandM M (f (i + 1)) (f (i + 2)) = 0 then mT M 4 10 (ix (f (i + 1))) + 1 else 0)).toInt64)
    (hf : cells + 3 ≤ R.cells ∧ slots + 20 ≤ R.slots) (hf0 : cells + 3 + 0 ≤ R.cells ∧ slots + 20 + 0 ≤ R.slots) (kk : ∀ (K1 : Nat → Nat → Nat) (H1 : Heap) (locs1 : List Loc) (ls1 : Array Slot), HM Γ K1 M2 H1 → va_S (gFree Γ) s.heap H1 locs1 → lv_has ls1 9 (LV K1 a0 i) → W p l e R s m args below meth c H1 locs1 (cells + 3) (slots + 20) Q (F0 m 2497 ls1 [])) :
    W p l e R s m args below meth c H locs cells slots Q (F0 m 1649 ls []) := by
  have hx := C.1
  have hb := C.2.1
  have e6 := wn6 w
  refine lv_aload_n hx hb dL_law_1649 rfl (lv_at hl 1 rfl) ?_
  refine lv_aload_n hx hb dL_law_1650 rfl (lv_at hl 0 rfl) ?_
  refine lv_iload hx hb dL_law_1651 (lv_at hl 5 rfl) ?_
  refine lv_iconst (v := 1) hx hb dL_law_1653 (by decide) ?_
  refine lv_iadd hx hb dL_law_1654 ?_
  refine g_inp (j := 1) C hin ha0 hS (nI_add i 1) (by omega) hn dL_law_1655 ?_
  refine lv_aload_n hx hb dL_law_1656 rfl (lv_at hl 0 rfl) ?_
  refine lv_iload hx hb dL_law_1657 (lv_at hl 5 rfl) ?_
  refine lv_iconst (v := 2) hx hb dL_law_1659 (by decide) ?_
  refine lv_iadd hx hb dL_law_1660 ?_
  refine g_inp (j := 2) C hin ha0 hS (nI_add i 2) (by omega) hn dL_law_1661 ?_
  refine lv_aload_n hx hb dL_law_1662 rfl (lv_at hl 3 rfl) ?_
  refine g_callHL C hS (fun _ h => h) hM hl (fun _ h => h) (h_handOver hfl Γ _ _ (f (i + 1)) (f (i + 2)) w h39 h39b) kL_handOver t_1111 dL_law_1663 rfl rfl (Nat.le_of_ble_eq_true rfl) (by decide) hRm hf (fun v9 K1 M9 H locs hp hM hS _ _ => ?_)
  obtain ⟨rfl, hKK, hM9⟩ := hp
  obtain rfl : M1 = M9 := (hM9.trans hM1.symm).symm
  replace hl : lv_has ls 9 (LV K1 a0 i) := by rw [show LV K1 a0 i = LV K a0 i from by simp only [LV, hKK 6 0 e6, hKK 7 0 (show 0 < mN M 7 by omega), hKK 39 0 (show 0 < mN M 39 by omega), hKK 40 0 (show 0 < mN M 40 by omega)]]; exact hl
  dsimp only [Option.toList, List.cons_append, List.nil_append]
  refine lv_istore (lv' := [(6, _), (0, _), (1, _), (2, _), (3, _), (4, _), (5, _)]) hx hb dL_law_1666 hl (by decide) rfl (fun ls hl => ?_)
  refine lv_aload_n hx hb dL_law_1668 rfl (lv_at hl 3 rfl) ?_
  refine lv_aload_n hx hb dL_law_1669 rfl (lv_at hl 1 rfl) ?_
  refine lv_iload hx hb dL_law_1670 (lv_at hl 6 rfl) ?_
  refine lv_iconst (v := 1) hx hb dL_law_1672 (by decide) ?_
  refine lv_iadd hx hb dL_law_1673 ?_
  refine g_inp (j := 1) C hin ha0 hS (nI_add i 1) (by omega) hn dL_law_1674 ?_
  refine lv_aload_n hx hb dL_law_1675 rfl (lv_at hl 1 rfl) ?_
  refine lv_iload hx hb dL_law_1676 (lv_at hl 6 rfl) ?_
  refine lv_iconst (v := 2) hx hb dL_law_1678 (by decide) ?_
  refine lv_iadd hx hb dL_law_1679 ?_
  refine g_inp (j := 2) C hin ha0 hS (nI_add i 2) (by omega) hn dL_law_1680 ?_
  refine g_cVL C hS (fun _ h => h) hM hl (fun _ h => h) (m_handOver hfl Γ _ _ (f (i + 1)) (f (i + 2)) M w r ) kX7_handOver t_1586 (HM.recv C hM clo_7 h71) dL_law_1681 rfl rfl (Nat.le_of_ble_eq_true rfl) (by decide) hRm hf0 (fun H locs hM hS => ?_)
  replace hM : HM Γ K1 M2 H := by rw [hM2]; exact hM
  refine lv_istore (lv' := [(7, _), (6, _), (0, _), (1, _), (2, _), (3, _), (4, _), (5, _)]) hx hb dL_law_1684 hl (by decide) rfl (fun ls hl => ?_)
  refine lv_aload_n hx hb dL_law_1686 rfl (lv_at hl 4 rfl) ?_
  refine g_cVL C hS (fun _ h => h) hM hl (fun _ h => h.elim) (m_thrown hfl Γ _ _ h72) kX7_thrown t_1391 (HM.recv C hM clo_7 h72) dL_law_1687 rfl rfl (Nat.le_of_ble_eq_true rfl) (by decide) hRm hf0 (fun H locs hM hS => ?_)
  refine lv_iload hx hb dL_law_1690 (lv_at hl 1 rfl) ?_
  refine lv_icmp_eq (tgt := 1697) hx hb dL_law_1692 (by decide) (fun _ => ?_) (fun z => absurd hthr z)
  refine lv_iload hx hb dL_law_1697 (lv_at hl 1 rfl) ?_
  refine lv_if_ne (tgt := 1714) hx hb dL_law_1699 (by decide) (fun c9 => ?_) (fun c9 => ?_)
  · refine lv_goto (tgt := 2497) hx hb dL_law_1714 (by decide) ?_
    exact kk K1 _ _ _ hM hS (lv_sub hl [2, 3, 4, 5, 6, 7] rfl)
  · have h0 : rHandOver M (f (i + 1)) (f (i + 2)) = 0 := nI_zero hr9 c9
    refine lv_aload_n hx hb dL_law_1702 rfl (lv_at hl 5 rfl) ?_
    refine lv_iconst (v := 0) hx hb dL_law_1703 (by decide) ?_
    refine g_lald C hM h392 dL_law_1704 ?_
    refine lv_iload hx hb dL_law_1705 (lv_at hl 0 rfl) ?_
    refine lv_i2l hx hb dL_law_1707 rfl ?_
    refine g_lcmp0 hx hb dL_law_1708 (hval h0) ?_
    refine lv_if_eq (tgt := 1714) hx hb dL_law_1709 (by decide) (fun _ => ?_) (fun z => absurd rfl z)
    refine lv_goto (tgt := 2497) hx hb dL_law_1714 (by decide) ?_
    exact kk K1 _ _ _ hM hS (lv_sub hl [2, 3, 4, 5, 6, 7] rfl)
set_option maxHeartbeats 1500000 in
set_option maxRecDepth 100000 in
theorem arm_26 {l : Launch} (hfl : l.stackTraces = false) {Γ : Gm} {p : Program} {e : Env} {R : Room} {s : State} {m : MethodId} {args : Array Value} {below : List Frame} {meth : Method} {c : Code} {H : Heap} {locs : List Loc} {cells slots : Nat} {Q : State → Prop} {K : Nat → Nat → Nat} {M : Mem} {ls : Array Slot} {a0 n i : Nat} {f : Nat → Int32}
    (C : Cx Γ p l s m args meth c cL_law 9 RL) (hRm : RmL R) (hin : InA s a0 n f) (ha0 : a0 < gB Γ) (hi6 : i + 6 ≤ n) (hn : n ≤ 3072) (hM : HM Γ K M H) (hS : va_S (gFree Γ) s.heap H locs) (hl : lv_has ls 9 (LV K a0 i)) (w : Wf M) (n7 : mN M 7 = 1) (h39 : mN M 39 = 1) (h40 : mN M 40 = 1)
    (h39b : mN (gbkM M (ix (f (i + 1)))) 39 = 1) (M1 M2 : Mem) (hM1 : M1 = if rGiveBack M (f (i + 1)) = 0 then sJ (gbkM M (ix (f (i + 1)))) 39 0 0 ((mT (gbkM M (ix (f (i + 1)))) 0 3 ((mP M 4 9 (ix (f (i + 1)))).getD 0)).toInt64) else M) (hM2 : M2 = if rGiveBack M (f (i + 1)) = 0 then sT (sT M1 7 19 0 0) 28 (ix (f (i + 1))) 0 (-1) else sT M1 7 19 0 (thI (rGiveBack M (f (i + 1)))))
    (r : RC M M1)  (h71 : 0 < mN M1 7) (h72 : 0 < mN M2 7) (h392 : 0 < mN M2 39) (hr9 : rGiveBack M (f (i + 1)) < 100) (hthr : mT M2 7 19 0 = nI (rGiveBack M (f (i + 1)))) (hval : rGiveBack M (f (i + 1)) = 0 → mJ M2 39 0 0 = ((if rGiveBack M (f (i + 1)) = 0 then heN (sP M 4 9 (ix (f (i + 1))) none) ((mP M 4 9 (ix (f (i + 1)))).getD 0) (mN M 4) else 0)).toInt64)
    (hf : cells + 2 ≤ R.cells ∧ slots + 130 ≤ R.slots) (hf0 : cells + 2 + 0 ≤ R.cells ∧ slots + 130 + 0 ≤ R.slots) (kk : ∀ (K1 : Nat → Nat → Nat) (H1 : Heap) (locs1 : List Loc) (ls1 : Array Slot), HM Γ K1 M2 H1 → va_S (gFree Γ) s.heap H1 locs1 → lv_has ls1 9 (LV K1 a0 i) → W p l e R s m args below meth c H1 locs1 (cells + 2) (slots + 130) Q (F0 m 2497 ls1 [])) :
    W p l e R s m args below meth c H locs cells slots Q (F0 m 1717 ls []) := by
  have hx := C.1
  have hb := C.2.1
  have e6 := wn6 w
  refine lv_aload_n hx hb dL_law_1717 rfl (lv_at hl 1 rfl) ?_
  refine lv_aload_n hx hb dL_law_1718 rfl (lv_at hl 0 rfl) ?_
  refine lv_iload hx hb dL_law_1719 (lv_at hl 5 rfl) ?_
  refine lv_iconst (v := 1) hx hb dL_law_1721 (by decide) ?_
  refine lv_iadd hx hb dL_law_1722 ?_
  refine g_inp (j := 1) C hin ha0 hS (nI_add i 1) (by omega) hn dL_law_1723 ?_
  refine lv_aload_n hx hb dL_law_1724 rfl (lv_at hl 3 rfl) ?_
  refine g_callHL C hS (fun _ h => h) hM hl (fun _ h => h) (h_giveBack hfl Γ _ _ (f (i + 1)) w h39 h39b) kL_giveBack t_1120 dL_law_1725 rfl rfl (Nat.le_of_ble_eq_true rfl) (by decide) hRm hf (fun v9 K1 M9 H locs hp hM hS _ _ => ?_)
  obtain ⟨rfl, hKK, hM9⟩ := hp
  obtain rfl : M1 = M9 := (hM9.trans hM1.symm).symm
  replace hl : lv_has ls 9 (LV K1 a0 i) := by rw [show LV K1 a0 i = LV K a0 i from by simp only [LV, hKK 6 0 e6, hKK 7 0 (show 0 < mN M 7 by omega), hKK 39 0 (show 0 < mN M 39 by omega), hKK 40 0 (show 0 < mN M 40 by omega)]]; exact hl
  dsimp only [Option.toList, List.cons_append, List.nil_append]
  refine lv_istore (lv' := [(6, _), (0, _), (1, _), (2, _), (3, _), (4, _), (5, _)]) hx hb dL_law_1728 hl (by decide) rfl (fun ls hl => ?_)
  refine lv_aload_n hx hb dL_law_1730 rfl (lv_at hl 3 rfl) ?_
  refine lv_aload_n hx hb dL_law_1731 rfl (lv_at hl 1 rfl) ?_
  refine lv_iload hx hb dL_law_1732 (lv_at hl 6 rfl) ?_
  refine lv_iconst (v := 1) hx hb dL_law_1734 (by decide) ?_
  refine lv_iadd hx hb dL_law_1735 ?_
  refine g_inp (j := 1) C hin ha0 hS (nI_add i 1) (by omega) hn dL_law_1736 ?_
  refine g_cVL C hS (fun _ h => h) hM hl (fun _ h => h) (m_giveBack hfl Γ _ _ (f (i + 1)) M w r ) kX7_giveBack t_1590 (HM.recv C hM clo_7 h71) dL_law_1737 rfl rfl (Nat.le_of_ble_eq_true rfl) (by decide) hRm hf0 (fun H locs hM hS => ?_)
  replace hM : HM Γ K1 M2 H := by rw [hM2]; exact hM
  refine lv_istore (lv' := [(7, _), (6, _), (0, _), (1, _), (2, _), (3, _), (4, _), (5, _)]) hx hb dL_law_1740 hl (by decide) rfl (fun ls hl => ?_)
  refine lv_aload_n hx hb dL_law_1742 rfl (lv_at hl 4 rfl) ?_
  refine g_cVL C hS (fun _ h => h) hM hl (fun _ h => h.elim) (m_thrown hfl Γ _ _ h72) kX7_thrown t_1391 (HM.recv C hM clo_7 h72) dL_law_1743 rfl rfl (Nat.le_of_ble_eq_true rfl) (by decide) hRm hf0 (fun H locs hM hS => ?_)
  refine lv_iload hx hb dL_law_1746 (lv_at hl 1 rfl) ?_
  refine lv_icmp_eq (tgt := 1753) hx hb dL_law_1748 (by decide) (fun _ => ?_) (fun z => absurd hthr z)
  refine lv_iload hx hb dL_law_1753 (lv_at hl 1 rfl) ?_
  refine lv_if_ne (tgt := 1770) hx hb dL_law_1755 (by decide) (fun c9 => ?_) (fun c9 => ?_)
  · refine lv_goto (tgt := 2497) hx hb dL_law_1770 (by decide) ?_
    exact kk K1 _ _ _ hM hS (lv_sub hl [2, 3, 4, 5, 6, 7] rfl)
  · have h0 : rGiveBack M (f (i + 1)) = 0 := nI_zero hr9 c9
    refine lv_aload_n hx hb dL_law_1758 rfl (lv_at hl 5 rfl) ?_
    refine lv_iconst (v := 0) hx hb dL_law_1759 (by decide) ?_
    refine g_lald C hM h392 dL_law_1760 ?_
    refine lv_iload hx hb dL_law_1761 (lv_at hl 0 rfl) ?_
    refine lv_i2l hx hb dL_law_1763 rfl ?_
    refine g_lcmp0 hx hb dL_law_1764 (hval h0) ?_
    refine lv_if_eq (tgt := 1770) hx hb dL_law_1765 (by decide) (fun _ => ?_) (fun z => absurd rfl z)
    refine lv_goto (tgt := 2497) hx hb dL_law_1770 (by decide) ?_
    exact kk K1 _ _ _ hM hS (lv_sub hl [2, 3, 4, 5, 6, 7] rfl)
set_option maxHeartbeats 1500000 in
set_option maxRecDepth 100000 in
theorem arm_27 {l : Launch} (hfl : l.stackTraces = false) {Γ : Gm} {p : Program} {e : Env} {R : Room} {s : State} {m : MethodId} {args : Array Value} {below : List Frame} {meth : Method} {c : Code} {H : Heap} {locs : List Loc} {cells slots : Nat} {Q : State → Prop} {K : Nat → Nat → Nat} {M : Mem} {ls : Array Slot} {a0 n i : Nat} {f : Nat → Int32}
    (C : Cx Γ p l s m args meth c cL_law 9 RL) (hRm : RmL R) (hin : InA s a0 n f) (ha0 : a0 < gB Γ) (hi6 : i + 6 ≤ n) (hn : n ≤ 3072) (hM : HM Γ K M H) (hS : va_S (gFree Γ) s.heap H locs) (hl : lv_has ls 9 (LV K a0 i)) (w : Wf M) (n7 : mN M 7 = 1) (h39 : mN M 39 = 1) (h40 : mN M 40 = 1)
    (h39b : mN (sT (lqM M (ix (f (i + 1)))) 4 6 (ix (f (i + 1))) 104) 39 = 1) (M1 M2 : Mem) (hM1 : M1 = if rHold M (f (i + 1)) = 0 then sJ (sT (lqM M (ix (f (i + 1)))) 4 6 (ix (f (i + 1))) 104) 39 0 0 ((mT (lqM M (ix (f (i + 1)))) 4 7 (ix (f (i + 1)))).toInt64) else M) (hM2 : M2 = if rTurns M (f (i + 1)) 111 = 0 then sT (sT M1 7 19 0 0) 33 (ix (f (i + 1))) 0 104 else sT M1 7 19 0 (thI (rTurns M (f (i + 1)) 111)))
    (r : RC M M1)  (h71 : 0 < mN M1 7) (h72 : 0 < mN M2 7) (h392 : 0 < mN M2 39) (hr9 : rHold M (f (i + 1)) < 100) (hthr : mT M2 7 19 0 = nI (rHold M (f (i + 1)))) (hval : rHold M (f (i + 1)) = 0 → mJ M2 39 0 0 = ((if rTurns M (f (i + 1)) 111 = 0 then mT M 4 7 (ix (f (i + 1))) else 0)).toInt64)
    (hf : cells + 2 ≤ R.cells ∧ slots + 12 ≤ R.slots) (hf0 : cells + 2 + 0 ≤ R.cells ∧ slots + 12 + 0 ≤ R.slots) (kk : ∀ (K1 : Nat → Nat → Nat) (H1 : Heap) (locs1 : List Loc) (ls1 : Array Slot), HM Γ K1 M2 H1 → va_S (gFree Γ) s.heap H1 locs1 → lv_has ls1 9 (LV K1 a0 i) → W p l e R s m args below meth c H1 locs1 (cells + 2) (slots + 12) Q (F0 m 2497 ls1 [])) :
    W p l e R s m args below meth c H locs cells slots Q (F0 m 1773 ls []) := by
  have hx := C.1
  have hb := C.2.1
  have e6 := wn6 w
  refine lv_aload_n hx hb dL_law_1773 rfl (lv_at hl 1 rfl) ?_
  refine lv_aload_n hx hb dL_law_1774 rfl (lv_at hl 0 rfl) ?_
  refine lv_iload hx hb dL_law_1775 (lv_at hl 5 rfl) ?_
  refine lv_iconst (v := 1) hx hb dL_law_1777 (by decide) ?_
  refine lv_iadd hx hb dL_law_1778 ?_
  refine g_inp (j := 1) C hin ha0 hS (nI_add i 1) (by omega) hn dL_law_1779 ?_
  refine lv_aload_n hx hb dL_law_1780 rfl (lv_at hl 3 rfl) ?_
  refine g_callHL C hS (fun _ h => h) hM hl (fun _ h => h) (h_hold hfl Γ _ _ (f (i + 1)) w h39 h39b) kL_hold t_1127 dL_law_1781 rfl rfl (Nat.le_of_ble_eq_true rfl) (by decide) hRm hf (fun v9 K1 M9 H locs hp hM hS _ _ => ?_)
  obtain ⟨rfl, hKK, hM9⟩ := hp
  obtain rfl : M1 = M9 := (hM9.trans hM1.symm).symm
  replace hl : lv_has ls 9 (LV K1 a0 i) := by rw [show LV K1 a0 i = LV K a0 i from by simp only [LV, hKK 6 0 e6, hKK 7 0 (show 0 < mN M 7 by omega), hKK 39 0 (show 0 < mN M 39 by omega), hKK 40 0 (show 0 < mN M 40 by omega)]]; exact hl
  dsimp only [Option.toList, List.cons_append, List.nil_append]
  refine lv_istore (lv' := [(6, _), (0, _), (1, _), (2, _), (3, _), (4, _), (5, _)]) hx hb dL_law_1784 hl (by decide) rfl (fun ls hl => ?_)
  refine lv_aload_n hx hb dL_law_1786 rfl (lv_at hl 3 rfl) ?_
  refine lv_aload_n hx hb dL_law_1787 rfl (lv_at hl 1 rfl) ?_
  refine lv_iload hx hb dL_law_1788 (lv_at hl 6 rfl) ?_
  refine lv_iconst (v := 1) hx hb dL_law_1790 (by decide) ?_
  refine lv_iadd hx hb dL_law_1791 ?_
  refine g_inp (j := 1) C hin ha0 hS (nI_add i 1) (by omega) hn dL_law_1792 ?_
  refine g_cVL C hS (fun _ h => h) hM hl (fun _ h => h) (m_hold hfl Γ _ _ (f (i + 1)) M w r ) kX7_hold t_1594 (HM.recv C hM clo_7 h71) dL_law_1793 rfl rfl (Nat.le_of_ble_eq_true rfl) (by decide) hRm hf0 (fun H locs hM hS => ?_)
  replace hM : HM Γ K1 M2 H := by rw [hM2]; exact hM
  refine lv_istore (lv' := [(7, _), (6, _), (0, _), (1, _), (2, _), (3, _), (4, _), (5, _)]) hx hb dL_law_1796 hl (by decide) rfl (fun ls hl => ?_)
  refine lv_aload_n hx hb dL_law_1798 rfl (lv_at hl 4 rfl) ?_
  refine g_cVL C hS (fun _ h => h) hM hl (fun _ h => h.elim) (m_thrown hfl Γ _ _ h72) kX7_thrown t_1391 (HM.recv C hM clo_7 h72) dL_law_1799 rfl rfl (Nat.le_of_ble_eq_true rfl) (by decide) hRm hf0 (fun H locs hM hS => ?_)
  refine lv_iload hx hb dL_law_1802 (lv_at hl 1 rfl) ?_
  refine lv_icmp_eq (tgt := 1809) hx hb dL_law_1804 (by decide) (fun _ => ?_) (fun z => absurd hthr z)
  refine lv_iload hx hb dL_law_1809 (lv_at hl 1 rfl) ?_
  refine lv_if_ne (tgt := 1826) hx hb dL_law_1811 (by decide) (fun c9 => ?_) (fun c9 => ?_)
  · refine lv_goto (tgt := 2497) hx hb dL_law_1826 (by decide) ?_
    exact kk K1 _ _ _ hM hS (lv_sub hl [2, 3, 4, 5, 6, 7] rfl)
  · have h0 : rHold M (f (i + 1)) = 0 := nI_zero hr9 c9
    refine lv_aload_n hx hb dL_law_1814 rfl (lv_at hl 5 rfl) ?_
    refine lv_iconst (v := 0) hx hb dL_law_1815 (by decide) ?_
    refine g_lald C hM h392 dL_law_1816 ?_
    refine lv_iload hx hb dL_law_1817 (lv_at hl 0 rfl) ?_
    refine lv_i2l hx hb dL_law_1819 rfl ?_
    refine g_lcmp0 hx hb dL_law_1820 (hval h0) ?_
    refine lv_if_eq (tgt := 1826) hx hb dL_law_1821 (by decide) (fun _ => ?_) (fun z => absurd rfl z)
    refine lv_goto (tgt := 2497) hx hb dL_law_1826 (by decide) ?_
    exact kk K1 _ _ _ hM hS (lv_sub hl [2, 3, 4, 5, 6, 7] rfl)
set_option maxHeartbeats 1500000 in
set_option maxRecDepth 100000 in
theorem arm_28 {l : Launch} (hfl : l.stackTraces = false) {Γ : Gm} {p : Program} {e : Env} {R : Room} {s : State} {m : MethodId} {args : Array Value} {below : List Frame} {meth : Method} {c : Code} {H : Heap} {locs : List Loc} {cells slots : Nat} {Q : State → Prop} {K : Nat → Nat → Nat} {M : Mem} {ls : Array Slot} {a0 n i : Nat} {f : Nat → Int32}
    (C : Cx Γ p l s m args meth c cL_law 9 RL) (hRm : RmL R) (hin : InA s a0 n f) (ha0 : a0 < gB Γ) (hi6 : i + 6 ≤ n) (hn : n ≤ 3072) (hM : HM Γ K M H) (hS : va_S (gFree Γ) s.heap H locs) (hl : lv_has ls 9 (LV K a0 i)) (w : Wf M) (n7 : mN M 7 = 1) (h39 : mN M 39 = 1) (h40 : mN M 40 = 1)
    (h39b : mN (jqM (sT M 4 6 (ix (f (i + 1))) 111) (ix (f (i + 1)))) 39 = 1) (M1 M2 : Mem) (hM1 : M1 = if rResume M (f (i + 1)) = 0 then sJ (jqM (sT M 4 6 (ix (f (i + 1))) 111) (ix (f (i + 1)))) 39 0 0 ((mT (jqM (sT M 4 6 (ix (f (i + 1))) 111) (ix (f (i + 1)))) 4 7 (ix (f (i + 1)))).toInt64) else M) (hM2 : M2 = if rTurns M (f (i + 1)) 104 = 0 then sT (sT M1 7 19 0 0) 33 (ix (f (i + 1))) 0 111 else sT M1 7 19 0 (thI (rTurns M (f (i + 1)) 104)))
    (r : RC M M1)  (h71 : 0 < mN M1 7) (h72 : 0 < mN M2 7) (h392 : 0 < mN M2 39) (hr9 : rResume M (f (i + 1)) < 100) (hthr : mT M2 7 19 0 = nI (rResume M (f (i + 1)))) (hval : rResume M (f (i + 1)) = 0 → mJ M2 39 0 0 = ((if rTurns M (f (i + 1)) 104 = 0 then mT M 4 7 (ix (f (i + 1))) else 0)).toInt64)
    (hf : cells + 2 ≤ R.cells ∧ slots + 130 ≤ R.slots) (hf0 : cells + 2 + 0 ≤ R.cells ∧ slots + 130 + 0 ≤ R.slots) (kk : ∀ (K1 : Nat → Nat → Nat) (H1 : Heap) (locs1 : List Loc) (ls1 : Array Slot), HM Γ K1 M2 H1 → va_S (gFree Γ) s.heap H1 locs1 → lv_has ls1 9 (LV K1 a0 i) → W p l e R s m args below meth c H1 locs1 (cells + 2) (slots + 130) Q (F0 m 2497 ls1 [])) :
    W p l e R s m args below meth c H locs cells slots Q (F0 m 1829 ls []) := by
  have hx := C.1
  have hb := C.2.1
  have e6 := wn6 w
  refine lv_aload_n hx hb dL_law_1829 rfl (lv_at hl 1 rfl) ?_
  refine lv_aload_n hx hb dL_law_1830 rfl (lv_at hl 0 rfl) ?_
  refine lv_iload hx hb dL_law_1831 (lv_at hl 5 rfl) ?_
  refine lv_iconst (v := 1) hx hb dL_law_1833 (by decide) ?_
  refine lv_iadd hx hb dL_law_1834 ?_
  refine g_inp (j := 1) C hin ha0 hS (nI_add i 1) (by omega) hn dL_law_1835 ?_
  refine lv_aload_n hx hb dL_law_1836 rfl (lv_at hl 3 rfl) ?_
  refine g_callHL C hS (fun _ h => h) hM hl (fun _ h => h) (h_resume hfl Γ _ _ (f (i + 1)) w h39 h39b) kL_resume t_1135 dL_law_1837 rfl rfl (Nat.le_of_ble_eq_true rfl) (by decide) hRm hf (fun v9 K1 M9 H locs hp hM hS _ _ => ?_)
  obtain ⟨rfl, hKK, hM9⟩ := hp
  obtain rfl : M1 = M9 := (hM9.trans hM1.symm).symm
  replace hl : lv_has ls 9 (LV K1 a0 i) := by rw [show LV K1 a0 i = LV K a0 i from by simp only [LV, hKK 6 0 e6, hKK 7 0 (show 0 < mN M 7 by omega), hKK 39 0 (show 0 < mN M 39 by omega), hKK 40 0 (show 0 < mN M 40 by omega)]]; exact hl
  dsimp only [Option.toList, List.cons_append, List.nil_append]
  refine lv_istore (lv' := [(6, _), (0, _), (1, _), (2, _), (3, _), (4, _), (5, _)]) hx hb dL_law_1840 hl (by decide) rfl (fun ls hl => ?_)
  refine lv_aload_n hx hb dL_law_1842 rfl (lv_at hl 3 rfl) ?_
  refine lv_aload_n hx hb dL_law_1843 rfl (lv_at hl 1 rfl) ?_
  refine lv_iload hx hb dL_law_1844 (lv_at hl 6 rfl) ?_
  refine lv_iconst (v := 1) hx hb dL_law_1846 (by decide) ?_
  refine lv_iadd hx hb dL_law_1847 ?_
  refine g_inp (j := 1) C hin ha0 hS (nI_add i 1) (by omega) hn dL_law_1848 ?_
  refine g_cVL C hS (fun _ h => h) hM hl (fun _ h => h) (m_resume hfl Γ _ _ (f (i + 1)) M w r ) kX7_resume t_1602 (HM.recv C hM clo_7 h71) dL_law_1849 rfl rfl (Nat.le_of_ble_eq_true rfl) (by decide) hRm hf0 (fun H locs hM hS => ?_)
  replace hM : HM Γ K1 M2 H := by rw [hM2]; exact hM
  refine lv_istore (lv' := [(7, _), (6, _), (0, _), (1, _), (2, _), (3, _), (4, _), (5, _)]) hx hb dL_law_1852 hl (by decide) rfl (fun ls hl => ?_)
  refine lv_aload_n hx hb dL_law_1854 rfl (lv_at hl 4 rfl) ?_
  refine g_cVL C hS (fun _ h => h) hM hl (fun _ h => h.elim) (m_thrown hfl Γ _ _ h72) kX7_thrown t_1391 (HM.recv C hM clo_7 h72) dL_law_1855 rfl rfl (Nat.le_of_ble_eq_true rfl) (by decide) hRm hf0 (fun H locs hM hS => ?_)
  refine lv_iload hx hb dL_law_1858 (lv_at hl 1 rfl) ?_
  refine lv_icmp_eq (tgt := 1865) hx hb dL_law_1860 (by decide) (fun _ => ?_) (fun z => absurd hthr z)
  refine lv_iload hx hb dL_law_1865 (lv_at hl 1 rfl) ?_
  refine lv_if_ne (tgt := 1882) hx hb dL_law_1867 (by decide) (fun c9 => ?_) (fun c9 => ?_)
  · refine lv_goto (tgt := 2497) hx hb dL_law_1882 (by decide) ?_
    exact kk K1 _ _ _ hM hS (lv_sub hl [2, 3, 4, 5, 6, 7] rfl)
  · have h0 : rResume M (f (i + 1)) = 0 := nI_zero hr9 c9
    refine lv_aload_n hx hb dL_law_1870 rfl (lv_at hl 5 rfl) ?_
    refine lv_iconst (v := 0) hx hb dL_law_1871 (by decide) ?_
    refine g_lald C hM h392 dL_law_1872 ?_
    refine lv_iload hx hb dL_law_1873 (lv_at hl 0 rfl) ?_
    refine lv_i2l hx hb dL_law_1875 rfl ?_
    refine g_lcmp0 hx hb dL_law_1876 (hval h0) ?_
    refine lv_if_eq (tgt := 1882) hx hb dL_law_1877 (by decide) (fun _ => ?_) (fun z => absurd rfl z)
    refine lv_goto (tgt := 2497) hx hb dL_law_1882 (by decide) ?_
    exact kk K1 _ _ _ hM hS (lv_sub hl [2, 3, 4, 5, 6, 7] rfl)
set_option maxHeartbeats 1500000 in
set_option maxRecDepth 100000 in
theorem arm_29 {l : Launch} (hfl : l.stackTraces = false) {Γ : Gm} {p : Program} {e : Env} {R : Room} {s : State} {m : MethodId} {args : Array Value} {below : List Frame} {meth : Method} {c : Code} {H : Heap} {locs : List Loc} {cells slots : Nat} {Q : State → Prop} {K : Nat → Nat → Nat} {M : Mem} {ls : Array Slot} {a0 n i : Nat} {f : Nat → Int32}
    (C : Cx Γ p l s m args meth c cL_law 9 RL) (hRm : RmL R) (hin : InA s a0 n f) (ha0 : a0 < gB Γ) (hi6 : i + 6 ≤ n) (hn : n ≤ 3072) (hM : HM Γ K M H) (hS : va_S (gFree Γ) s.heap H locs) (hl : lv_has ls 9 (LV K a0 i)) (w : Wf M) (n7 : mN M 7 = 1) (h39 : mN M 39 = 1) (h40 : mN M 40 = 1)
    (h39b : mN (ansP M (ix (f (i + 1))) (if (f (i + 2)) = -1 then none else some (ix (f (i + 2))))) 39 = 1) (M1 M2 : Mem) (hM1 : M1 = if rAnswer M (f (i + 1)) (f (i + 2)) = 0 then sJ (ansP M (ix (f (i + 1))) (if (f (i + 2)) = -1 then none else some (ix (f (i + 2))))) 39 0 0 ((mT (ansP M (ix (f (i + 1))) (if (f (i + 2)) = -1 then none else some (ix (f (i + 2))))) 4 7 (ix (f (i + 1)))).toInt64) else M) (hM2 : M2 = if rAnsM M (f (i + 1)) (f (i + 2)) = 0 then ansR (sT M1 7 19 0 0) (ix (f (i + 1))) (f (i + 2)) else sT M1 7 19 0 (thI (rAnsM M (f (i + 1)) (f (i + 2)))))
    (r : RC M M1)  (h71 : 0 < mN M1 7) (h72 : 0 < mN M2 7) (h392 : 0 < mN M2 39) (hr9 : rAnswer M (f (i + 1)) (f (i + 2)) < 100) (hthr : mT M2 7 19 0 = nI (rAnswer M (f (i + 1)) (f (i + 2)))) (hval : rAnswer M (f (i + 1)) (f (i + 2)) = 0 → mJ M2 39 0 0 = ((if rAnsM M (f (i + 1)) (f (i + 2)) = 0 then mT M 4 7 (ix (f (i + 1))) else 0)).toInt64)
    (hf : cells + 3 ≤ R.cells ∧ slots + 20 ≤ R.slots) (hf0 : cells + 3 + 0 ≤ R.cells ∧ slots + 20 + 0 ≤ R.slots) (kk : ∀ (K1 : Nat → Nat → Nat) (H1 : Heap) (locs1 : List Loc) (ls1 : Array Slot), HM Γ K1 M2 H1 → va_S (gFree Γ) s.heap H1 locs1 → lv_has ls1 9 (LV K1 a0 i) → W p l e R s m args below meth c H1 locs1 (cells + 3) (slots + 20) Q (F0 m 2497 ls1 [])) :
    W p l e R s m args below meth c H locs cells slots Q (F0 m 1885 ls []) := by
  have hx := C.1
  have hb := C.2.1
  have e6 := wn6 w
  refine lv_aload_n hx hb dL_law_1885 rfl (lv_at hl 1 rfl) ?_
  refine lv_aload_n hx hb dL_law_1886 rfl (lv_at hl 0 rfl) ?_
  refine lv_iload hx hb dL_law_1887 (lv_at hl 5 rfl) ?_
  refine lv_iconst (v := 1) hx hb dL_law_1889 (by decide) ?_
  refine lv_iadd hx hb dL_law_1890 ?_
  refine g_inp (j := 1) C hin ha0 hS (nI_add i 1) (by omega) hn dL_law_1891 ?_
  refine lv_aload_n hx hb dL_law_1892 rfl (lv_at hl 0 rfl) ?_
  refine lv_iload hx hb dL_law_1893 (lv_at hl 5 rfl) ?_
  refine lv_iconst (v := 2) hx hb dL_law_1895 (by decide) ?_
  refine lv_iadd hx hb dL_law_1896 ?_
  refine g_inp (j := 2) C hin ha0 hS (nI_add i 2) (by omega) hn dL_law_1897 ?_
  refine lv_aload_n hx hb dL_law_1898 rfl (lv_at hl 3 rfl) ?_
  refine g_callHL C hS (fun _ h => h) hM hl (fun _ h => h) (h_answer hfl Γ _ _ (f (i + 1)) (f (i + 2)) w h39 h39b) kL_answer t_1143 dL_law_1899 rfl rfl (Nat.le_of_ble_eq_true rfl) (by decide) hRm hf (fun v9 K1 M9 H locs hp hM hS _ _ => ?_)
  obtain ⟨rfl, hKK, hM9⟩ := hp
  obtain rfl : M1 = M9 := (hM9.trans hM1.symm).symm
  replace hl : lv_has ls 9 (LV K1 a0 i) := by rw [show LV K1 a0 i = LV K a0 i from by simp only [LV, hKK 6 0 e6, hKK 7 0 (show 0 < mN M 7 by omega), hKK 39 0 (show 0 < mN M 39 by omega), hKK 40 0 (show 0 < mN M 40 by omega)]]; exact hl
  dsimp only [Option.toList, List.cons_append, List.nil_append]
  refine lv_istore (lv' := [(6, _), (0, _), (1, _), (2, _), (3, _), (4, _), (5, _)]) hx hb dL_law_1902 hl (by decide) rfl (fun ls hl => ?_)
  refine lv_aload_n hx hb dL_law_1904 rfl (lv_at hl 3 rfl) ?_
  refine lv_aload_n hx hb dL_law_1905 rfl (lv_at hl 1 rfl) ?_
  refine lv_iload hx hb dL_law_1906 (lv_at hl 6 rfl) ?_
  refine lv_iconst (v := 1) hx hb dL_law_1908 (by decide) ?_
  refine lv_iadd hx hb dL_law_1909 ?_
  refine g_inp (j := 1) C hin ha0 hS (nI_add i 1) (by omega) hn dL_law_1910 ?_
  refine lv_aload_n hx hb dL_law_1911 rfl (lv_at hl 1 rfl) ?_
  refine lv_iload hx hb dL_law_1912 (lv_at hl 6 rfl) ?_
  refine lv_iconst (v := 2) hx hb dL_law_1914 (by decide) ?_
  refine lv_iadd hx hb dL_law_1915 ?_
  refine g_inp (j := 2) C hin ha0 hS (nI_add i 2) (by omega) hn dL_law_1916 ?_
  refine g_cVL C hS (fun _ h => h) hM hl (fun _ h => h) (m_answer hfl Γ _ _ (f (i + 1)) (f (i + 2)) M w r ) kX7_answer t_1606 (HM.recv C hM clo_7 h71) dL_law_1917 rfl rfl (Nat.le_of_ble_eq_true rfl) (by decide) hRm hf0 (fun H locs hM hS => ?_)
  replace hM : HM Γ K1 M2 H := by rw [hM2]; exact hM
  refine lv_istore (lv' := [(7, _), (6, _), (0, _), (1, _), (2, _), (3, _), (4, _), (5, _)]) hx hb dL_law_1920 hl (by decide) rfl (fun ls hl => ?_)
  refine lv_aload_n hx hb dL_law_1922 rfl (lv_at hl 4 rfl) ?_
  refine g_cVL C hS (fun _ h => h) hM hl (fun _ h => h.elim) (m_thrown hfl Γ _ _ h72) kX7_thrown t_1391 (HM.recv C hM clo_7 h72) dL_law_1923 rfl rfl (Nat.le_of_ble_eq_true rfl) (by decide) hRm hf0 (fun H locs hM hS => ?_)
  refine lv_iload hx hb dL_law_1926 (lv_at hl 1 rfl) ?_
  refine lv_icmp_eq (tgt := 1933) hx hb dL_law_1928 (by decide) (fun _ => ?_) (fun z => absurd hthr z)
  refine lv_iload hx hb dL_law_1933 (lv_at hl 1 rfl) ?_
  refine lv_if_ne (tgt := 1950) hx hb dL_law_1935 (by decide) (fun c9 => ?_) (fun c9 => ?_)
  · refine lv_goto (tgt := 2497) hx hb dL_law_1950 (by decide) ?_
    exact kk K1 _ _ _ hM hS (lv_sub hl [2, 3, 4, 5, 6, 7] rfl)
  · have h0 : rAnswer M (f (i + 1)) (f (i + 2)) = 0 := nI_zero hr9 c9
    refine lv_aload_n hx hb dL_law_1938 rfl (lv_at hl 5 rfl) ?_
    refine lv_iconst (v := 0) hx hb dL_law_1939 (by decide) ?_
    refine g_lald C hM h392 dL_law_1940 ?_
    refine lv_iload hx hb dL_law_1941 (lv_at hl 0 rfl) ?_
    refine lv_i2l hx hb dL_law_1943 rfl ?_
    refine g_lcmp0 hx hb dL_law_1944 (hval h0) ?_
    refine lv_if_eq (tgt := 1950) hx hb dL_law_1945 (by decide) (fun _ => ?_) (fun z => absurd rfl z)
    refine lv_goto (tgt := 2497) hx hb dL_law_1950 (by decide) ?_
    exact kk K1 _ _ _ hM hS (lv_sub hl [2, 3, 4, 5, 6, 7] rfl)
set_option maxHeartbeats 1500000 in
set_option maxRecDepth 100000 in
theorem arm_30 {l : Launch} (hfl : l.stackTraces = false) {Γ : Gm} {p : Program} {e : Env} {R : Room} {s : State} {m : MethodId} {args : Array Value} {below : List Frame} {meth : Method} {c : Code} {H : Heap} {locs : List Loc} {cells slots : Nat} {Q : State → Prop} {K : Nat → Nat → Nat} {M : Mem} {ls : Array Slot} {a0 n i : Nat} {f : Nat → Int32}
    (C : Cx Γ p l s m args meth c cL_law 9 RL) (hRm : RmL R) (hin : InA s a0 n f) (ha0 : a0 < gB Γ) (hi6 : i + 6 ≤ n) (hn : n ≤ 3072) (hM : HM Γ K M H) (hS : va_S (gFree Γ) s.heap H locs) (hl : lv_has ls 9 (LV K a0 i)) (w : Wf M) (n7 : mN M 7 = 1) (h39 : mN M 39 = 1) (h40 : mN M 40 = 1)
    (h39b : mN (clsM M (ix (f (i + 1)))) 39 = 1) (M1 M2 : Mem) (hM1 : M1 = if rClose M (f (i + 1)) = 0 then sJ (clsM M (ix (f (i + 1)))) 39 0 0 ((ccN (clsM M (ix (f (i + 1)))) (mN M 4)).toInt64) else M) (hM2 : M2 = if rClose M (f (i + 1)) = 0 then sT (sT (lrnR M (sT M1 7 19 0 0) (ix (f (i + 1))) 1) 33 (ix (f (i + 1))) 0 99) 30 (ix (f (i + 1))) 0 (mT M 6 9 0) else sT M1 7 19 0 (thI (rClose M (f (i + 1)))))
    (r : RC M M1)  (h71 : 0 < mN M1 7) (h72 : 0 < mN M2 7) (h392 : 0 < mN M2 39) (hr9 : rClose M (f (i + 1)) < 100) (hthr : mT M2 7 19 0 = nI (rClose M (f (i + 1)))) (hval : rClose M (f (i + 1)) = 0 → mJ M2 39 0 0 = ((if rClose M (f (i + 1)) = 0 then ccN (sT M 4 6 (ix (f (i + 1))) 99) (mN M 4) else 0)).toInt64)
    (hf : cells + 2 ≤ R.cells ∧ slots + 12 ≤ R.slots) (hf0 : cells + 2 + 0 ≤ R.cells ∧ slots + 12 + 0 ≤ R.slots) (kk : ∀ (K1 : Nat → Nat → Nat) (H1 : Heap) (locs1 : List Loc) (ls1 : Array Slot), HM Γ K1 M2 H1 → va_S (gFree Γ) s.heap H1 locs1 → lv_has ls1 9 (LV K1 a0 i) → W p l e R s m args below meth c H1 locs1 (cells + 2) (slots + 12) Q (F0 m 2497 ls1 [])) :
    W p l e R s m args below meth c H locs cells slots Q (F0 m 1953 ls []) := by
  have hx := C.1
  have hb := C.2.1
  have e6 := wn6 w
  refine lv_aload_n hx hb dL_law_1953 rfl (lv_at hl 1 rfl) ?_
  refine lv_aload_n hx hb dL_law_1954 rfl (lv_at hl 0 rfl) ?_
  refine lv_iload hx hb dL_law_1955 (lv_at hl 5 rfl) ?_
  refine lv_iconst (v := 1) hx hb dL_law_1957 (by decide) ?_
  refine lv_iadd hx hb dL_law_1958 ?_
  refine g_inp (j := 1) C hin ha0 hS (nI_add i 1) (by omega) hn dL_law_1959 ?_
  refine lv_aload_n hx hb dL_law_1960 rfl (lv_at hl 3 rfl) ?_
  refine g_callHL C hS (fun _ h => h) hM hl (fun _ h => h) (h_close hfl Γ _ _ (f (i + 1)) w h39 h39b) kL_close t_1161 dL_law_1961 rfl rfl (Nat.le_of_ble_eq_true rfl) (by decide) hRm hf (fun v9 K1 M9 H locs hp hM hS _ _ => ?_)
  obtain ⟨rfl, hKK, hM9⟩ := hp
  obtain rfl : M1 = M9 := (hM9.trans hM1.symm).symm
  replace hl : lv_has ls 9 (LV K1 a0 i) := by rw [show LV K1 a0 i = LV K a0 i from by simp only [LV, hKK 6 0 e6, hKK 7 0 (show 0 < mN M 7 by omega), hKK 39 0 (show 0 < mN M 39 by omega), hKK 40 0 (show 0 < mN M 40 by omega)]]; exact hl
  dsimp only [Option.toList, List.cons_append, List.nil_append]
  refine lv_istore (lv' := [(6, _), (0, _), (1, _), (2, _), (3, _), (4, _), (5, _)]) hx hb dL_law_1964 hl (by decide) rfl (fun ls hl => ?_)
  refine lv_aload_n hx hb dL_law_1966 rfl (lv_at hl 3 rfl) ?_
  refine lv_aload_n hx hb dL_law_1967 rfl (lv_at hl 1 rfl) ?_
  refine lv_iload hx hb dL_law_1968 (lv_at hl 6 rfl) ?_
  refine lv_iconst (v := 1) hx hb dL_law_1970 (by decide) ?_
  refine lv_iadd hx hb dL_law_1971 ?_
  refine g_inp (j := 1) C hin ha0 hS (nI_add i 1) (by omega) hn dL_law_1972 ?_
  refine g_cVL C hS (fun _ h => h) hM hl (fun _ h => h) (m_close hfl Γ _ _ (f (i + 1)) M w r ) kX7_close t_1610 (HM.recv C hM clo_7 h71) dL_law_1973 rfl rfl (Nat.le_of_ble_eq_true rfl) (by decide) hRm hf0 (fun H locs hM hS => ?_)
  replace hM : HM Γ K1 M2 H := by rw [hM2]; exact hM
  refine lv_istore (lv' := [(7, _), (6, _), (0, _), (1, _), (2, _), (3, _), (4, _), (5, _)]) hx hb dL_law_1976 hl (by decide) rfl (fun ls hl => ?_)
  refine lv_aload_n hx hb dL_law_1978 rfl (lv_at hl 4 rfl) ?_
  refine g_cVL C hS (fun _ h => h) hM hl (fun _ h => h.elim) (m_thrown hfl Γ _ _ h72) kX7_thrown t_1391 (HM.recv C hM clo_7 h72) dL_law_1979 rfl rfl (Nat.le_of_ble_eq_true rfl) (by decide) hRm hf0 (fun H locs hM hS => ?_)
  refine lv_iload hx hb dL_law_1982 (lv_at hl 1 rfl) ?_
  refine lv_icmp_eq (tgt := 1989) hx hb dL_law_1984 (by decide) (fun _ => ?_) (fun z => absurd hthr z)
  refine lv_iload hx hb dL_law_1989 (lv_at hl 1 rfl) ?_
  refine lv_if_ne (tgt := 2006) hx hb dL_law_1991 (by decide) (fun c9 => ?_) (fun c9 => ?_)
  · refine lv_goto (tgt := 2497) hx hb dL_law_2006 (by decide) ?_
    exact kk K1 _ _ _ hM hS (lv_sub hl [2, 3, 4, 5, 6, 7] rfl)
  · have h0 : rClose M (f (i + 1)) = 0 := nI_zero hr9 c9
    refine lv_aload_n hx hb dL_law_1994 rfl (lv_at hl 5 rfl) ?_
    refine lv_iconst (v := 0) hx hb dL_law_1995 (by decide) ?_
    refine g_lald C hM h392 dL_law_1996 ?_
    refine lv_iload hx hb dL_law_1997 (lv_at hl 0 rfl) ?_
    refine lv_i2l hx hb dL_law_1999 rfl ?_
    refine g_lcmp0 hx hb dL_law_2000 (hval h0) ?_
    refine lv_if_eq (tgt := 2006) hx hb dL_law_2001 (by decide) (fun _ => ?_) (fun z => absurd rfl z)
    refine lv_goto (tgt := 2497) hx hb dL_law_2006 (by decide) ?_
    exact kk K1 _ _ _ hM hS (lv_sub hl [2, 3, 4, 5, 6, 7] rfl)
set_option maxHeartbeats 1500000 in
set_option maxRecDepth 100000 in
theorem arm_31 {l : Launch} (hfl : l.stackTraces = false) {Γ : Gm} {p : Program} {e : Env} {R : Room} {s : State} {m : MethodId} {args : Array Value} {below : List Frame} {meth : Method} {c : Code} {H : Heap} {locs : List Loc} {cells slots : Nat} {Q : State → Prop} {K : Nat → Nat → Nat} {M : Mem} {ls : Array Slot} {a0 n i : Nat} {f : Nat → Int32}
    (C : Cx Γ p l s m args meth c cL_law 9 RL) (hRm : RmL R) (hin : InA s a0 n f) (ha0 : a0 < gB Γ) (hi6 : i + 6 ≤ n) (hn : n ≤ 3072) (hM : HM Γ K M H) (hS : va_S (gFree Γ) s.heap H locs) (hl : lv_has ls 9 (LV K a0 i)) (w : Wf M) (n7 : mN M 7 = 1) (h39 : mN M 39 = 1) (h40 : mN M 40 = 1)
    (hlen : ∀ i j, i < mN M 4 → j < mN M 4 → i ≠ j → (mL M 8 i).length + (mL M 8 j).length ≤ 80) (h39b : mN (mrgM M (ix (f (i + 1))) (ix (f (i + 2)))) 39 = 1) (M1 M2 : Mem) (hM1 : M1 = if rMerge M (f (i + 1)) (f (i + 2)) = 0 then sJ (mrgM M (ix (f (i + 1))) (ix (f (i + 2)))) 39 0 0 ((nI (mL (mrgM M (ix (f (i + 1))) (ix (f (i + 2)))) 8 (ix (f (i + 2)))).length).toInt64) else M) (hM2 : M2 = if rMerge M (f (i + 1)) (f (i + 2)) = 0 then mrgR M (sT M1 7 19 0 0) (ix (f (i + 1))) (ix (f (i + 2))) (f (i + 2)) else sT M1 7 19 0 (thI (rMerge M (f (i + 1)) (f (i + 2)))))
    (r : RC M M1)  (h71 : 0 < mN M1 7) (h72 : 0 < mN M2 7) (h392 : 0 < mN M2 39) (hr9 : rMerge M (f (i + 1)) (f (i + 2)) < 100) (hthr : mT M2 7 19 0 = nI (rMerge M (f (i + 1)) (f (i + 2)))) (hval : rMerge M (f (i + 1)) (f (i + 2)) = 0 → mJ M2 39 0 0 = ((if rMerge M (f (i + 1)) (f (i + 2)) = 0 then coG (fun k => if tkM M k = ix (f (i + 1)) then ix (f (i + 2)) else tkM M k) (ix (f (i + 2))) (mN M 2) else 0)).toInt64)
    (hf : cells + 90 ≤ R.cells ∧ slots + 9800 ≤ R.slots) (hf0 : cells + 90 + 0 ≤ R.cells ∧ slots + 9800 + 0 ≤ R.slots) (kk : ∀ (K1 : Nat → Nat → Nat) (H1 : Heap) (locs1 : List Loc) (ls1 : Array Slot), HM Γ K1 M2 H1 → va_S (gFree Γ) s.heap H1 locs1 → lv_has ls1 9 (LV K1 a0 i) → W p l e R s m args below meth c H1 locs1 (cells + 90) (slots + 9800) Q (F0 m 2497 ls1 [])) :
    W p l e R s m args below meth c H locs cells slots Q (F0 m 2009 ls []) := by
  have hx := C.1
  have hb := C.2.1
  have e6 := wn6 w
  refine lv_aload_n hx hb dL_law_2009 rfl (lv_at hl 1 rfl) ?_
  refine lv_aload_n hx hb dL_law_2010 rfl (lv_at hl 0 rfl) ?_
  refine lv_iload hx hb dL_law_2011 (lv_at hl 5 rfl) ?_
  refine lv_iconst (v := 1) hx hb dL_law_2013 (by decide) ?_
  refine lv_iadd hx hb dL_law_2014 ?_
  refine g_inp (j := 1) C hin ha0 hS (nI_add i 1) (by omega) hn dL_law_2015 ?_
  refine lv_aload_n hx hb dL_law_2016 rfl (lv_at hl 0 rfl) ?_
  refine lv_iload hx hb dL_law_2017 (lv_at hl 5 rfl) ?_
  refine lv_iconst (v := 2) hx hb dL_law_2019 (by decide) ?_
  refine lv_iadd hx hb dL_law_2020 ?_
  refine g_inp (j := 2) C hin ha0 hS (nI_add i 2) (by omega) hn dL_law_2021 ?_
  refine lv_aload_n hx hb dL_law_2022 rfl (lv_at hl 3 rfl) ?_
  refine g_callHL C hS (fun _ h => h) hM hl (fun _ h => h) (h_merge hfl Γ _ _ (f (i + 1)) (f (i + 2)) w hlen h39 h39b) kL_merge t_1178 dL_law_2023 rfl rfl (Nat.le_of_ble_eq_true rfl) (by decide) hRm hf (fun v9 K1 M9 H locs hp hM hS _ _ => ?_)
  obtain ⟨rfl, hKK, hM9⟩ := hp
  obtain rfl : M1 = M9 := (hM9.trans hM1.symm).symm
  replace hl : lv_has ls 9 (LV K1 a0 i) := by rw [show LV K1 a0 i = LV K a0 i from by simp only [LV, hKK 6 0 e6, hKK 7 0 (show 0 < mN M 7 by omega), hKK 39 0 (show 0 < mN M 39 by omega), hKK 40 0 (show 0 < mN M 40 by omega)]]; exact hl
  dsimp only [Option.toList, List.cons_append, List.nil_append]
  refine lv_istore (lv' := [(6, _), (0, _), (1, _), (2, _), (3, _), (4, _), (5, _)]) hx hb dL_law_2026 hl (by decide) rfl (fun ls hl => ?_)
  refine lv_aload_n hx hb dL_law_2028 rfl (lv_at hl 3 rfl) ?_
  refine lv_aload_n hx hb dL_law_2029 rfl (lv_at hl 1 rfl) ?_
  refine lv_iload hx hb dL_law_2030 (lv_at hl 6 rfl) ?_
  refine lv_iconst (v := 1) hx hb dL_law_2032 (by decide) ?_
  refine lv_iadd hx hb dL_law_2033 ?_
  refine g_inp (j := 1) C hin ha0 hS (nI_add i 1) (by omega) hn dL_law_2034 ?_
  refine lv_aload_n hx hb dL_law_2035 rfl (lv_at hl 1 rfl) ?_
  refine lv_iload hx hb dL_law_2036 (lv_at hl 6 rfl) ?_
  refine lv_iconst (v := 2) hx hb dL_law_2038 (by decide) ?_
  refine lv_iadd hx hb dL_law_2039 ?_
  refine g_inp (j := 2) C hin ha0 hS (nI_add i 2) (by omega) hn dL_law_2040 ?_
  refine g_cVL C hS (fun _ h => h) hM hl (fun _ h => h) (m_merge hfl Γ _ _ (f (i + 1)) (f (i + 2)) M w r ) kX7_merge t_1614 (HM.recv C hM clo_7 h71) dL_law_2041 rfl rfl (Nat.le_of_ble_eq_true rfl) (by decide) hRm hf0 (fun H locs hM hS => ?_)
  replace hM : HM Γ K1 M2 H := by rw [hM2]; exact hM
  refine lv_istore (lv' := [(7, _), (6, _), (0, _), (1, _), (2, _), (3, _), (4, _), (5, _)]) hx hb dL_law_2044 hl (by decide) rfl (fun ls hl => ?_)
  refine lv_aload_n hx hb dL_law_2046 rfl (lv_at hl 4 rfl) ?_
  refine g_cVL C hS (fun _ h => h) hM hl (fun _ h => h.elim) (m_thrown hfl Γ _ _ h72) kX7_thrown t_1391 (HM.recv C hM clo_7 h72) dL_law_2047 rfl rfl (Nat.le_of_ble_eq_true rfl) (by decide) hRm hf0 (fun H locs hM hS => ?_)
  refine lv_iload hx hb dL_law_2050 (lv_at hl 1 rfl) ?_
  refine lv_icmp_eq (tgt := 2057) hx hb dL_law_2052 (by decide) (fun _ => ?_) (fun z => absurd hthr z)
  refine lv_iload hx hb dL_law_2057 (lv_at hl 1 rfl) ?_
  refine lv_if_ne (tgt := 2074) hx hb dL_law_2059 (by decide) (fun c9 => ?_) (fun c9 => ?_)
  · refine lv_goto (tgt := 2497) hx hb dL_law_2074 (by decide) ?_
    exact kk K1 _ _ _ hM hS (lv_sub hl [2, 3, 4, 5, 6, 7] rfl)
  · have h0 : rMerge M (f (i + 1)) (f (i + 2)) = 0 := nI_zero hr9 c9
    refine lv_aload_n hx hb dL_law_2062 rfl (lv_at hl 5 rfl) ?_
    refine lv_iconst (v := 0) hx hb dL_law_2063 (by decide) ?_
    refine g_lald C hM h392 dL_law_2064 ?_
    refine lv_iload hx hb dL_law_2065 (lv_at hl 0 rfl) ?_
    refine lv_i2l hx hb dL_law_2067 rfl ?_
    refine g_lcmp0 hx hb dL_law_2068 (hval h0) ?_
    refine lv_if_eq (tgt := 2074) hx hb dL_law_2069 (by decide) (fun _ => ?_) (fun z => absurd rfl z)
    refine lv_goto (tgt := 2497) hx hb dL_law_2074 (by decide) ?_
    exact kk K1 _ _ _ hM hS (lv_sub hl [2, 3, 4, 5, 6, 7] rfl)
set_option maxHeartbeats 1500000 in
set_option maxRecDepth 100000 in
theorem arm_32 {l : Launch} (hfl : l.stackTraces = false) {Γ : Gm} {p : Program} {e : Env} {R : Room} {s : State} {m : MethodId} {args : Array Value} {below : List Frame} {meth : Method} {c : Code} {H : Heap} {locs : List Loc} {cells slots : Nat} {Q : State → Prop} {K : Nat → Nat → Nat} {M : Mem} {ls : Array Slot} {a0 n i : Nat} {f : Nat → Int32}
    (C : Cx Γ p l s m args meth c cL_law 9 RL) (hRm : RmL R) (hin : InA s a0 n f) (ha0 : a0 < gB Γ) (hi6 : i + 6 ≤ n) (hn : n ≤ 3072) (hM : HM Γ K M H) (hS : va_S (gFree Γ) s.heap H locs) (hl : lv_has ls 9 (LV K a0 i)) (w : Wf M) (n7 : mN M 7 = 1) (h39 : mN M 39 = 1) (h40 : mN M 40 = 1)
    (vp : VP M) (h39b : mN (awN (prM M (f (i + 1))) (f (i + 1)) (mN M 3) 10) 39 = 1) (M1 M2 : Mem) (hM1 : M1 = if rAddAnswer M (f (i + 1)) = 0 then sJ (awN (prM M (f (i + 1))) (f (i + 1)) (mN M 3) 10) 39 0 0 ((nI (mN M 3)).toInt64) else M) (hM2 : M2 = if rAddAnswerM M (f (i + 1)) = 0 then sT (sT (sT M1 7 19 0 0) 37 (mN M 3) 0 (f (i + 1))) 7 24 0 (nI (mN M 3) + 1) else sT M1 7 19 0 (thI (rAddAnswerM M (f (i + 1)))))
    (r : RC M M1)  (h71 : 0 < mN M1 7) (h72 : 0 < mN M2 7) (h392 : 0 < mN M2 39) (hr9 : rAddAnswer M (f (i + 1)) < 100) (hthr : mT M2 7 19 0 = nI (rAddAnswer M (f (i + 1)))) (hval : rAddAnswer M (f (i + 1)) = 0 → mJ M2 39 0 0 = ((if rAddAnswerM M (f (i + 1)) = 0 then nI (mN M 3) + 1 - 1 else 0)).toInt64)
    (hf : cells + 4 ≤ R.cells ∧ slots + 140 ≤ R.slots) (hf0 : cells + 4 + 0 ≤ R.cells ∧ slots + 140 + 0 ≤ R.slots) (kk : ∀ (K1 : Nat → Nat → Nat) (H1 : Heap) (locs1 : List Loc) (ls1 : Array Slot), HM Γ K1 M2 H1 → va_S (gFree Γ) s.heap H1 locs1 → lv_has ls1 9 (LV K1 a0 i) → W p l e R s m args below meth c H1 locs1 (cells + 4) (slots + 140) Q (F0 m 2497 ls1 [])) :
    W p l e R s m args below meth c H locs cells slots Q (F0 m 2077 ls []) := by
  have hx := C.1
  have hb := C.2.1
  have e6 := wn6 w
  refine lv_aload_n hx hb dL_law_2077 rfl (lv_at hl 1 rfl) ?_
  refine lv_aload_n hx hb dL_law_2078 rfl (lv_at hl 0 rfl) ?_
  refine lv_iload hx hb dL_law_2079 (lv_at hl 5 rfl) ?_
  refine lv_iconst (v := 1) hx hb dL_law_2081 (by decide) ?_
  refine lv_iadd hx hb dL_law_2082 ?_
  refine g_inp (j := 1) C hin ha0 hS (nI_add i 1) (by omega) hn dL_law_2083 ?_
  refine lv_aload_n hx hb dL_law_2084 rfl (lv_at hl 3 rfl) ?_
  refine g_callHL C hS (fun _ h => h) hM hl (fun _ h => h) (h_addAnswer hfl Γ _ _ (f (i + 1)) w vp h39 h39b) kL_addAnswer t_1197 dL_law_2085 rfl rfl (Nat.le_of_ble_eq_true rfl) (by decide) hRm hf (fun v9 K1 M9 H locs hp hM hS _ _ => ?_)
  obtain ⟨rfl, hKK, hM9⟩ := hp
  obtain rfl : M1 = M9 := (hM9.trans hM1.symm).symm
  replace hl : lv_has ls 9 (LV K1 a0 i) := by rw [show LV K1 a0 i = LV K a0 i from by simp only [LV, hKK 6 0 e6, hKK 7 0 (show 0 < mN M 7 by omega), hKK 39 0 (show 0 < mN M 39 by omega), hKK 40 0 (show 0 < mN M 40 by omega)]]; exact hl
  dsimp only [Option.toList, List.cons_append, List.nil_append]
  refine lv_istore (lv' := [(6, _), (0, _), (1, _), (2, _), (3, _), (4, _), (5, _)]) hx hb dL_law_2088 hl (by decide) rfl (fun ls hl => ?_)
  refine lv_aload_n hx hb dL_law_2090 rfl (lv_at hl 3 rfl) ?_
  refine lv_aload_n hx hb dL_law_2091 rfl (lv_at hl 1 rfl) ?_
  refine lv_iload hx hb dL_law_2092 (lv_at hl 6 rfl) ?_
  refine lv_iconst (v := 1) hx hb dL_law_2094 (by decide) ?_
  refine lv_iadd hx hb dL_law_2095 ?_
  refine g_inp (j := 1) C hin ha0 hS (nI_add i 1) (by omega) hn dL_law_2096 ?_
  refine g_cVL C hS (fun _ h => h) hM hl (fun _ h => h) (m_addAnswer hfl Γ _ _ (f (i + 1)) M w r ) kX7_addAnswer t_1618 (HM.recv C hM clo_7 h71) dL_law_2097 rfl rfl (Nat.le_of_ble_eq_true rfl) (by decide) hRm hf0 (fun H locs hM hS => ?_)
  replace hM : HM Γ K1 M2 H := by rw [hM2]; exact hM
  refine lv_istore (lv' := [(7, _), (6, _), (0, _), (1, _), (2, _), (3, _), (4, _), (5, _)]) hx hb dL_law_2100 hl (by decide) rfl (fun ls hl => ?_)
  refine lv_aload_n hx hb dL_law_2102 rfl (lv_at hl 4 rfl) ?_
  refine g_cVL C hS (fun _ h => h) hM hl (fun _ h => h.elim) (m_thrown hfl Γ _ _ h72) kX7_thrown t_1391 (HM.recv C hM clo_7 h72) dL_law_2103 rfl rfl (Nat.le_of_ble_eq_true rfl) (by decide) hRm hf0 (fun H locs hM hS => ?_)
  refine lv_iload hx hb dL_law_2106 (lv_at hl 1 rfl) ?_
  refine lv_icmp_eq (tgt := 2113) hx hb dL_law_2108 (by decide) (fun _ => ?_) (fun z => absurd hthr z)
  refine lv_iload hx hb dL_law_2113 (lv_at hl 1 rfl) ?_
  refine lv_if_ne (tgt := 2130) hx hb dL_law_2115 (by decide) (fun c9 => ?_) (fun c9 => ?_)
  · refine lv_goto (tgt := 2497) hx hb dL_law_2130 (by decide) ?_
    exact kk K1 _ _ _ hM hS (lv_sub hl [2, 3, 4, 5, 6, 7] rfl)
  · have h0 : rAddAnswer M (f (i + 1)) = 0 := nI_zero hr9 c9
    refine lv_aload_n hx hb dL_law_2118 rfl (lv_at hl 5 rfl) ?_
    refine lv_iconst (v := 0) hx hb dL_law_2119 (by decide) ?_
    refine g_lald C hM h392 dL_law_2120 ?_
    refine lv_iload hx hb dL_law_2121 (lv_at hl 0 rfl) ?_
    refine lv_i2l hx hb dL_law_2123 rfl ?_
    refine g_lcmp0 hx hb dL_law_2124 (hval h0) ?_
    refine lv_if_eq (tgt := 2130) hx hb dL_law_2125 (by decide) (fun _ => ?_) (fun z => absurd rfl z)
    refine lv_goto (tgt := 2497) hx hb dL_law_2130 (by decide) ?_
    exact kk K1 _ _ _ hM hS (lv_sub hl [2, 3, 4, 5, 6, 7] rfl)
set_option maxHeartbeats 1500000 in
set_option maxRecDepth 100000 in
theorem arm_33 {l : Launch} (hfl : l.stackTraces = false) {Γ : Gm} {p : Program} {e : Env} {R : Room} {s : State} {m : MethodId} {args : Array Value} {below : List Frame} {meth : Method} {c : Code} {H : Heap} {locs : List Loc} {cells slots : Nat} {Q : State → Prop} {K : Nat → Nat → Nat} {M : Mem} {ls : Array Slot} {a0 n i : Nat} {f : Nat → Int32}
    (C : Cx Γ p l s m args meth c cL_law 9 RL) (hRm : RmL R) (hin : InA s a0 n f) (ha0 : a0 < gB Γ) (hi6 : i + 6 ≤ n) (hn : n ≤ 3072) (hM : HM Γ K M H) (hS : va_S (gFree Γ) s.heap H locs) (hl : lv_has ls 9 (LV K a0 i)) (w : Wf M) (n7 : mN M 7 = 1) (h39 : mN M 39 = 1) (h40 : mN M 40 = 1)
    (h39b : mN (M) 39 = 1) (M1 M2 : Mem) (hM1 : M1 = if rWeight M (f (i + 1)) (f (i + 2)) = 0 then sJ (M) 39 0 0 ((mT M 14 (ix (f (i + 2))) (ix (f (i + 1)))).toInt64) else M) (hM2 : M2 = if rWeight M (f (i + 1)) (f (i + 2)) = 0 then sT M1 7 19 0 0 else sT M1 7 19 0 (thI (rWeight M (f (i + 1)) (f (i + 2)))))
    (r : RC M M1)  (h71 : 0 < mN M1 7) (h72 : 0 < mN M2 7) (h392 : 0 < mN M2 39) (hr9 : rWeight M (f (i + 1)) (f (i + 2)) < 100) (hthr : mT M2 7 19 0 = nI (rWeight M (f (i + 1)) (f (i + 2)))) (hval : rWeight M (f (i + 1)) (f (i + 2)) = 0 → mJ M2 39 0 0 = ((if rWeight M (f (i + 1)) (f (i + 2)) = 0 then mT M 14 (ix (f (i + 2))) (ix (f (i + 1))) else 0)).toInt64)
    (hf : cells + 2 ≤ R.cells ∧ slots + 12 ≤ R.slots) (hf0 : cells + 2 + 0 ≤ R.cells ∧ slots + 12 + 0 ≤ R.slots) (kk : ∀ (K1 : Nat → Nat → Nat) (H1 : Heap) (locs1 : List Loc) (ls1 : Array Slot), HM Γ K1 M2 H1 → va_S (gFree Γ) s.heap H1 locs1 → lv_has ls1 9 (LV K1 a0 i) → W p l e R s m args below meth c H1 locs1 (cells + 2) (slots + 12) Q (F0 m 2497 ls1 [])) :
    W p l e R s m args below meth c H locs cells slots Q (F0 m 2133 ls []) := by
  have hx := C.1
  have hb := C.2.1
  have e6 := wn6 w
  refine lv_aload_n hx hb dL_law_2133 rfl (lv_at hl 1 rfl) ?_
  refine lv_aload_n hx hb dL_law_2134 rfl (lv_at hl 0 rfl) ?_
  refine lv_iload hx hb dL_law_2135 (lv_at hl 5 rfl) ?_
  refine lv_iconst (v := 1) hx hb dL_law_2137 (by decide) ?_
  refine lv_iadd hx hb dL_law_2138 ?_
  refine g_inp (j := 1) C hin ha0 hS (nI_add i 1) (by omega) hn dL_law_2139 ?_
  refine lv_aload_n hx hb dL_law_2140 rfl (lv_at hl 0 rfl) ?_
  refine lv_iload hx hb dL_law_2141 (lv_at hl 5 rfl) ?_
  refine lv_iconst (v := 2) hx hb dL_law_2143 (by decide) ?_
  refine lv_iadd hx hb dL_law_2144 ?_
  refine g_inp (j := 2) C hin ha0 hS (nI_add i 2) (by omega) hn dL_law_2145 ?_
  refine lv_aload_n hx hb dL_law_2146 rfl (lv_at hl 3 rfl) ?_
  refine g_callHL C hS (fun _ h => h) hM hl (fun _ h => h) (h_weight hfl Γ _ _ (f (i + 1)) (f (i + 2)) w h39 h39b) kL_weight t_1220 dL_law_2147 rfl rfl (Nat.le_of_ble_eq_true rfl) (by decide) hRm hf (fun v9 K1 M9 H locs hp hM hS _ _ => ?_)
  obtain ⟨rfl, hKK, hM9⟩ := hp
  obtain rfl : M1 = M9 := (hM9.trans hM1.symm).symm
  replace hl : lv_has ls 9 (LV K1 a0 i) := by rw [show LV K1 a0 i = LV K a0 i from by simp only [LV, hKK 6 0 e6, hKK 7 0 (show 0 < mN M 7 by omega), hKK 39 0 (show 0 < mN M 39 by omega), hKK 40 0 (show 0 < mN M 40 by omega)]]; exact hl
  dsimp only [Option.toList, List.cons_append, List.nil_append]
  refine lv_istore (lv' := [(6, _), (0, _), (1, _), (2, _), (3, _), (4, _), (5, _)]) hx hb dL_law_2150 hl (by decide) rfl (fun ls hl => ?_)
  refine lv_aload_n hx hb dL_law_2152 rfl (lv_at hl 3 rfl) ?_
  refine lv_aload_n hx hb dL_law_2153 rfl (lv_at hl 1 rfl) ?_
  refine lv_iload hx hb dL_law_2154 (lv_at hl 6 rfl) ?_
  refine lv_iconst (v := 1) hx hb dL_law_2156 (by decide) ?_
  refine lv_iadd hx hb dL_law_2157 ?_
  refine g_inp (j := 1) C hin ha0 hS (nI_add i 1) (by omega) hn dL_law_2158 ?_
  refine lv_aload_n hx hb dL_law_2159 rfl (lv_at hl 1 rfl) ?_
  refine lv_iload hx hb dL_law_2160 (lv_at hl 6 rfl) ?_
  refine lv_iconst (v := 2) hx hb dL_law_2162 (by decide) ?_
  refine lv_iadd hx hb dL_law_2163 ?_
  refine g_inp (j := 2) C hin ha0 hS (nI_add i 2) (by omega) hn dL_law_2164 ?_
  refine g_cVL C hS (fun _ h => h) hM hl (fun _ h => h) (m_weight hfl Γ _ _ (f (i + 1)) (f (i + 2)) M w r ) kX7_weight t_1622 (HM.recv C hM clo_7 h71) dL_law_2165 rfl rfl (Nat.le_of_ble_eq_true rfl) (by decide) hRm hf0 (fun H locs hM hS => ?_)
  replace hM : HM Γ K1 M2 H := by rw [hM2]; exact hM
  refine lv_istore (lv' := [(7, _), (6, _), (0, _), (1, _), (2, _), (3, _), (4, _), (5, _)]) hx hb dL_law_2168 hl (by decide) rfl (fun ls hl => ?_)
  refine lv_aload_n hx hb dL_law_2170 rfl (lv_at hl 4 rfl) ?_
  refine g_cVL C hS (fun _ h => h) hM hl (fun _ h => h.elim) (m_thrown hfl Γ _ _ h72) kX7_thrown t_1391 (HM.recv C hM clo_7 h72) dL_law_2171 rfl rfl (Nat.le_of_ble_eq_true rfl) (by decide) hRm hf0 (fun H locs hM hS => ?_)
  refine lv_iload hx hb dL_law_2174 (lv_at hl 1 rfl) ?_
  refine lv_icmp_eq (tgt := 2181) hx hb dL_law_2176 (by decide) (fun _ => ?_) (fun z => absurd hthr z)
  refine lv_iload hx hb dL_law_2181 (lv_at hl 1 rfl) ?_
  refine lv_if_ne (tgt := 2198) hx hb dL_law_2183 (by decide) (fun c9 => ?_) (fun c9 => ?_)
  · refine lv_goto (tgt := 2497) hx hb dL_law_2198 (by decide) ?_
    exact kk K1 _ _ _ hM hS (lv_sub hl [2, 3, 4, 5, 6, 7] rfl)
  · have h0 : rWeight M (f (i + 1)) (f (i + 2)) = 0 := nI_zero hr9 c9
    refine lv_aload_n hx hb dL_law_2186 rfl (lv_at hl 5 rfl) ?_
    refine lv_iconst (v := 0) hx hb dL_law_2187 (by decide) ?_
    refine g_lald C hM h392 dL_law_2188 ?_
    refine lv_iload hx hb dL_law_2189 (lv_at hl 0 rfl) ?_
    refine lv_i2l hx hb dL_law_2191 rfl ?_
    refine g_lcmp0 hx hb dL_law_2192 (hval h0) ?_
    refine lv_if_eq (tgt := 2198) hx hb dL_law_2193 (by decide) (fun _ => ?_) (fun z => absurd rfl z)
    refine lv_goto (tgt := 2497) hx hb dL_law_2198 (by decide) ?_
    exact kk K1 _ _ _ hM hS (lv_sub hl [2, 3, 4, 5, 6, 7] rfl)
set_option maxHeartbeats 1500000 in
set_option maxRecDepth 100000 in
theorem arm_34 {l : Launch} (hfl : l.stackTraces = false) {Γ : Gm} {p : Program} {e : Env} {R : Room} {s : State} {m : MethodId} {args : Array Value} {below : List Frame} {meth : Method} {c : Code} {H : Heap} {locs : List Loc} {cells slots : Nat} {Q : State → Prop} {K : Nat → Nat → Nat} {M : Mem} {ls : Array Slot} {a0 n i : Nat} {f : Nat → Int32}
    (C : Cx Γ p l s m args meth c cL_law 9 RL) (hRm : RmL R) (hin : InA s a0 n f) (ha0 : a0 < gB Γ) (hi6 : i + 6 ≤ n) (hn : n ≤ 3072) (hM : HM Γ K M H) (hS : va_S (gFree Γ) s.heap H locs) (hl : lv_has ls 9 (LV K a0 i)) (w : Wf M) (n7 : mN M 7 = 1) (h39 : mN M 39 = 1) (h40 : mN M 40 = 1)
    (h39b : mN (M) 39 = 1) (M1 M2 : Mem) (hM1 : M1 = if rSuggestion M (f (i + 1)) = 0 then sJ (M) 39 0 0 (((baN M (ix (f (i + 1))) (mN M 3)).1).toInt64) else M) (hM2 : M2 = sugR M M1 (f (i + 1)))
    (r : RC M M1)  (h71 : 0 < mN M1 7) (h72 : 0 < mN M2 7) (h392 : 0 < mN M2 39) (hr9 : rSuggestion M (f (i + 1)) < 100) (hthr : mT M2 7 19 0 = nI (rSuggestion M (f (i + 1)))) (hval : rSuggestion M (f (i + 1)) = 0 → mJ M2 39 0 0 = ((if inN (f (i + 1)) (mN M 4) = true then (smN M M1 (ix (f (i + 1))) (mN M 3)).1 else 0)).toInt64)
    (hf : cells + 3 ≤ R.cells ∧ slots + 20 ≤ R.slots) (hf0 : cells + 3 + 0 ≤ R.cells ∧ slots + 20 + 0 ≤ R.slots) (kk : ∀ (K1 : Nat → Nat → Nat) (H1 : Heap) (locs1 : List Loc) (ls1 : Array Slot), HM Γ K1 M2 H1 → va_S (gFree Γ) s.heap H1 locs1 → lv_has ls1 9 (LV K1 a0 i) → W p l e R s m args below meth c H1 locs1 (cells + 3) (slots + 20) Q (F0 m 2497 ls1 [])) :
    W p l e R s m args below meth c H locs cells slots Q (F0 m 2201 ls []) := by
  have hx := C.1
  have hb := C.2.1
  have e6 := wn6 w
  refine lv_aload_n hx hb dL_law_2201 rfl (lv_at hl 1 rfl) ?_
  refine lv_aload_n hx hb dL_law_2202 rfl (lv_at hl 0 rfl) ?_
  refine lv_iload hx hb dL_law_2203 (lv_at hl 5 rfl) ?_
  refine lv_iconst (v := 1) hx hb dL_law_2205 (by decide) ?_
  refine lv_iadd hx hb dL_law_2206 ?_
  refine g_inp (j := 1) C hin ha0 hS (nI_add i 1) (by omega) hn dL_law_2207 ?_
  refine lv_aload_n hx hb dL_law_2208 rfl (lv_at hl 3 rfl) ?_
  refine g_callHL C hS (fun _ h => h) hM hl (fun _ h => h) (h_suggestion hfl Γ _ _ (f (i + 1)) w h39 h39b) kL_suggestion t_1227 dL_law_2209 rfl rfl (Nat.le_of_ble_eq_true rfl) (by decide) hRm hf (fun v9 K1 M9 H locs hp hM hS _ _ => ?_)
  obtain ⟨rfl, hKK, hM9⟩ := hp
  obtain rfl : M1 = M9 := (hM9.trans hM1.symm).symm
  replace hl : lv_has ls 9 (LV K1 a0 i) := by rw [show LV K1 a0 i = LV K a0 i from by simp only [LV, hKK 6 0 e6, hKK 7 0 (show 0 < mN M 7 by omega), hKK 39 0 (show 0 < mN M 39 by omega), hKK 40 0 (show 0 < mN M 40 by omega)]]; exact hl
  dsimp only [Option.toList, List.cons_append, List.nil_append]
  refine lv_istore (lv' := [(6, _), (0, _), (1, _), (2, _), (3, _), (4, _), (5, _)]) hx hb dL_law_2212 hl (by decide) rfl (fun ls hl => ?_)
  refine lv_aload_n hx hb dL_law_2214 rfl (lv_at hl 3 rfl) ?_
  refine lv_aload_n hx hb dL_law_2215 rfl (lv_at hl 1 rfl) ?_
  refine lv_iload hx hb dL_law_2216 (lv_at hl 6 rfl) ?_
  refine lv_iconst (v := 1) hx hb dL_law_2218 (by decide) ?_
  refine lv_iadd hx hb dL_law_2219 ?_
  refine g_inp (j := 1) C hin ha0 hS (nI_add i 1) (by omega) hn dL_law_2220 ?_
  refine g_cVL C hS (fun _ h => h) hM hl (fun _ h => h) (m_suggestion hfl Γ _ _ (f (i + 1)) M w r ) kX7_suggestion t_1626 (HM.recv C hM clo_7 h71) dL_law_2221 rfl rfl (Nat.le_of_ble_eq_true rfl) (by decide) hRm hf0 (fun H locs hM hS => ?_)
  replace hM : HM Γ K1 M2 H := by rw [hM2]; exact hM
  refine lv_istore (lv' := [(7, _), (6, _), (0, _), (1, _), (2, _), (3, _), (4, _), (5, _)]) hx hb dL_law_2224 hl (by decide) rfl (fun ls hl => ?_)
  refine lv_aload_n hx hb dL_law_2226 rfl (lv_at hl 4 rfl) ?_
  refine g_cVL C hS (fun _ h => h) hM hl (fun _ h => h.elim) (m_thrown hfl Γ _ _ h72) kX7_thrown t_1391 (HM.recv C hM clo_7 h72) dL_law_2227 rfl rfl (Nat.le_of_ble_eq_true rfl) (by decide) hRm hf0 (fun H locs hM hS => ?_)
  refine lv_iload hx hb dL_law_2230 (lv_at hl 1 rfl) ?_
  refine lv_icmp_eq (tgt := 2237) hx hb dL_law_2232 (by decide) (fun _ => ?_) (fun z => absurd hthr z)
  refine lv_iload hx hb dL_law_2237 (lv_at hl 1 rfl) ?_
  refine lv_if_ne (tgt := 2254) hx hb dL_law_2239 (by decide) (fun c9 => ?_) (fun c9 => ?_)
  · refine lv_goto (tgt := 2497) hx hb dL_law_2254 (by decide) ?_
    exact kk K1 _ _ _ hM hS (lv_sub hl [2, 3, 4, 5, 6, 7] rfl)
  · have h0 : rSuggestion M (f (i + 1)) = 0 := nI_zero hr9 c9
    refine lv_aload_n hx hb dL_law_2242 rfl (lv_at hl 5 rfl) ?_
    refine lv_iconst (v := 0) hx hb dL_law_2243 (by decide) ?_
    refine g_lald C hM h392 dL_law_2244 ?_
    refine lv_iload hx hb dL_law_2245 (lv_at hl 0 rfl) ?_
    refine lv_i2l hx hb dL_law_2247 rfl ?_
    refine g_lcmp0 hx hb dL_law_2248 (hval h0) ?_
    refine lv_if_eq (tgt := 2254) hx hb dL_law_2249 (by decide) (fun _ => ?_) (fun z => absurd rfl z)
    refine lv_goto (tgt := 2497) hx hb dL_law_2254 (by decide) ?_
    exact kk K1 _ _ _ hM hS (lv_sub hl [2, 3, 4, 5, 6, 7] rfl)
set_option maxHeartbeats 1500000 in
set_option maxRecDepth 100000 in
theorem arm_35 {l : Launch} (hfl : l.stackTraces = false) {Γ : Gm} {p : Program} {e : Env} {R : Room} {s : State} {m : MethodId} {args : Array Value} {below : List Frame} {meth : Method} {c : Code} {H : Heap} {locs : List Loc} {cells slots : Nat} {Q : State → Prop} {K : Nat → Nat → Nat} {M : Mem} {ls : Array Slot} {a0 n i : Nat} {f : Nat → Int32}
    (C : Cx Γ p l s m args meth c cL_law 9 RL) (hRm : RmL R) (hin : InA s a0 n f) (ha0 : a0 < gB Γ) (hi6 : i + 6 ≤ n) (hn : n ≤ 3072) (hM : HM Γ K M H) (hS : va_S (gFree Γ) s.heap H locs) (hl : lv_has ls 9 (LV K a0 i)) (w : Wf M) (n7 : mN M 7 = 1) (h39 : mN M 39 = 1) (h40 : mN M 40 = 1)
    (h39b : mN (scoM M (mT M 4 5 (ix (f (i + 1))))) 39 = 1) (M1 M2 : Mem) (hM1 : M1 = if rSuggestionByWords M (f (i + 1)) = 0 then sJ (scoM M (mT M 4 5 (ix (f (i + 1))))) 39 0 0 (((bwN (scoM M (mT M 4 5 (ix (f (i + 1))))) (ix (f (i + 1))) (mN M 3)).1).toInt64) else if inN (f (i + 1)) (mN M 4) = true then scoM M (mT M 4 5 (ix (f (i + 1)))) else M) (hM2 : M2 = sugR M M1 (f (i + 1)))
    (r : RC M M1)  (h71 : 0 < mN M1 7) (h72 : 0 < mN M2 7) (h392 : 0 < mN M2 39) (hr9 : rSuggestionByWords M (f (i + 1)) < 100) (hthr : mT M2 7 19 0 = nI (rSuggestionByWords M (f (i + 1)))) (hval : rSuggestionByWords M (f (i + 1)) = 0 → mJ M2 39 0 0 = ((if inN (f (i + 1)) (mN M 4) = true then (smN M M1 (ix (f (i + 1))) (mN M 3)).1 else 0)).toInt64)
    (hf : cells + 3 ≤ R.cells ∧ slots + 20 ≤ R.slots) (hf0 : cells + 3 + 0 ≤ R.cells ∧ slots + 20 + 0 ≤ R.slots) (kk : ∀ (K1 : Nat → Nat → Nat) (H1 : Heap) (locs1 : List Loc) (ls1 : Array Slot), HM Γ K1 M2 H1 → va_S (gFree Γ) s.heap H1 locs1 → lv_has ls1 9 (LV K1 a0 i) → W p l e R s m args below meth c H1 locs1 (cells + 3) (slots + 20) Q (F0 m 2497 ls1 [])) :
    W p l e R s m args below meth c H locs cells slots Q (F0 m 2257 ls []) := by
  have hx := C.1
  have hb := C.2.1
  have e6 := wn6 w
  refine lv_aload_n hx hb dL_law_2257 rfl (lv_at hl 1 rfl) ?_
  refine lv_aload_n hx hb dL_law_2258 rfl (lv_at hl 0 rfl) ?_
  refine lv_iload hx hb dL_law_2259 (lv_at hl 5 rfl) ?_
  refine lv_iconst (v := 1) hx hb dL_law_2261 (by decide) ?_
  refine lv_iadd hx hb dL_law_2262 ?_
  refine g_inp (j := 1) C hin ha0 hS (nI_add i 1) (by omega) hn dL_law_2263 ?_
  refine lv_aload_n hx hb dL_law_2264 rfl (lv_at hl 3 rfl) ?_
  refine g_callHL C hS (fun _ h => h) hM hl (fun _ h => h) (h_suggestionByWords hfl Γ _ _ (f (i + 1)) w h39 h39b) kL_suggestionByWords t_1239 dL_law_2265 rfl rfl (Nat.le_of_ble_eq_true rfl) (by decide) hRm hf (fun v9 K1 M9 H locs hp hM hS _ _ => ?_)
  obtain ⟨rfl, hKK, hM9⟩ := hp
  obtain rfl : M1 = M9 := (hM9.trans hM1.symm).symm
  replace hl : lv_has ls 9 (LV K1 a0 i) := by rw [show LV K1 a0 i = LV K a0 i from by simp only [LV, hKK 6 0 e6, hKK 7 0 (show 0 < mN M 7 by omega), hKK 39 0 (show 0 < mN M 39 by omega), hKK 40 0 (show 0 < mN M 40 by omega)]]; exact hl
  dsimp only [Option.toList, List.cons_append, List.nil_append]
  refine lv_istore (lv' := [(6, _), (0, _), (1, _), (2, _), (3, _), (4, _), (5, _)]) hx hb dL_law_2268 hl (by decide) rfl (fun ls hl => ?_)
  refine lv_aload_n hx hb dL_law_2270 rfl (lv_at hl 3 rfl) ?_
  refine lv_aload_n hx hb dL_law_2271 rfl (lv_at hl 1 rfl) ?_
  refine lv_iload hx hb dL_law_2272 (lv_at hl 6 rfl) ?_
  refine lv_iconst (v := 1) hx hb dL_law_2274 (by decide) ?_
  refine lv_iadd hx hb dL_law_2275 ?_
  refine g_inp (j := 1) C hin ha0 hS (nI_add i 1) (by omega) hn dL_law_2276 ?_
  refine g_cVL C hS (fun _ h => h) hM hl (fun _ h => h) (m_suggestionByWords hfl Γ _ _ (f (i + 1)) M w r ) kX7_suggestionByWords t_1634 (HM.recv C hM clo_7 h71) dL_law_2277 rfl rfl (Nat.le_of_ble_eq_true rfl) (by decide) hRm hf0 (fun H locs hM hS => ?_)
  replace hM : HM Γ K1 M2 H := by rw [hM2]; exact hM
  refine lv_istore (lv' := [(7, _), (6, _), (0, _), (1, _), (2, _), (3, _), (4, _), (5, _)]) hx hb dL_law_2280 hl (by decide) rfl (fun ls hl => ?_)
  refine lv_aload_n hx hb dL_law_2282 rfl (lv_at hl 4 rfl) ?_
  refine g_cVL C hS (fun _ h => h) hM hl (fun _ h => h.elim) (m_thrown hfl Γ _ _ h72) kX7_thrown t_1391 (HM.recv C hM clo_7 h72) dL_law_2283 rfl rfl (Nat.le_of_ble_eq_true rfl) (by decide) hRm hf0 (fun H locs hM hS => ?_)
  refine lv_iload hx hb dL_law_2286 (lv_at hl 1 rfl) ?_
  refine lv_icmp_eq (tgt := 2293) hx hb dL_law_2288 (by decide) (fun _ => ?_) (fun z => absurd hthr z)
  refine lv_iload hx hb dL_law_2293 (lv_at hl 1 rfl) ?_
  refine lv_if_ne (tgt := 2310) hx hb dL_law_2295 (by decide) (fun c9 => ?_) (fun c9 => ?_)
  · refine lv_goto (tgt := 2497) hx hb dL_law_2310 (by decide) ?_
    exact kk K1 _ _ _ hM hS (lv_sub hl [2, 3, 4, 5, 6, 7] rfl)
  · have h0 : rSuggestionByWords M (f (i + 1)) = 0 := nI_zero hr9 c9
    refine lv_aload_n hx hb dL_law_2298 rfl (lv_at hl 5 rfl) ?_
    refine lv_iconst (v := 0) hx hb dL_law_2299 (by decide) ?_
    refine g_lald C hM h392 dL_law_2300 ?_
    refine lv_iload hx hb dL_law_2301 (lv_at hl 0 rfl) ?_
    refine lv_i2l hx hb dL_law_2303 rfl ?_
    refine g_lcmp0 hx hb dL_law_2304 (hval h0) ?_
    refine lv_if_eq (tgt := 2310) hx hb dL_law_2305 (by decide) (fun _ => ?_) (fun z => absurd rfl z)
    refine lv_goto (tgt := 2497) hx hb dL_law_2310 (by decide) ?_
    exact kk K1 _ _ _ hM hS (lv_sub hl [2, 3, 4, 5, 6, 7] rfl)
set_option maxHeartbeats 1500000 in
set_option maxRecDepth 100000 in
theorem arm_36 {l : Launch} (hfl : l.stackTraces = false) {Γ : Gm} {p : Program} {e : Env} {R : Room} {s : State} {m : MethodId} {args : Array Value} {below : List Frame} {meth : Method} {c : Code} {H : Heap} {locs : List Loc} {cells slots : Nat} {Q : State → Prop} {K : Nat → Nat → Nat} {M : Mem} {ls : Array Slot} {a0 n i : Nat} {f : Nat → Int32}
    (C : Cx Γ p l s m args meth c cL_law 9 RL) (hRm : RmL R) (hin : InA s a0 n f) (ha0 : a0 < gB Γ) (hi6 : i + 6 ≤ n) (hn : n ≤ 3072) (hM : HM Γ K M H) (hS : va_S (gFree Γ) s.heap H locs) (hl : lv_has ls 9 (LV K a0 i)) (w : Wf M) (n7 : mN M 7 = 1) (h39 : mN M 39 = 1) (h40 : mN M 40 = 1)
    (r : RC M M)  (hf : cells + 0 ≤ R.cells ∧ slots + 0 ≤ R.slots) (kk : ∀ (K1 : Nat → Nat → Nat) (H1 : Heap) (locs1 : List Loc) (ls1 : Array Slot), HM Γ K1 (sT M 7 19 0 0) H1 → va_S (gFree Γ) s.heap H1 locs1 → lv_has ls1 9 (LV K1 a0 i) → W p l e R s m args below meth c H1 locs1 (cells + 0) (slots + 0) Q (F0 m 2497 ls1 [])) :
    W p l e R s m args below meth c H locs cells slots Q (F0 m 2313 ls []) := by
  have hx := C.1
  have hb := C.2.1
  refine lv_aload_n hx hb dL_law_2313 rfl (lv_at hl 1 rfl) ?_
  refine g_cVL C hS (fun _ h => h) hM hl (fun _ h => h.elim) (c_breaches hfl Γ _ _ w) kX6_breaches t_161 (HM.recv C hM clo_6 (wn6 w)) dL_law_2314 rfl rfl (Nat.le_of_ble_eq_true rfl) (by decide) hRm hf (fun H locs hM hS => ?_)
  refine lv_aload_n hx hb dL_law_2317 rfl (lv_at hl 2 rfl) ?_
  refine g_cVL C hS (fun _ h => h) hM hl (fun _ h => h) (m_breaches hfl Γ _ _ M w r) kX7_breaches t_1639 (HM.recv C hM clo_7 (by omega)) dL_law_2318 rfl rfl (Nat.le_of_ble_eq_true rfl) (by decide) hRm hf (fun H locs hM hS => ?_)
  refine lv_icmp_eq (tgt := 2497) hx hb dL_law_2321 (by decide) (fun _ => ?_) (fun z => absurd rfl z)
  exact kk K _ _ _ hM hS hl
set_option maxHeartbeats 1500000 in
set_option maxRecDepth 100000 in
theorem arm_37 {l : Launch} (hfl : l.stackTraces = false) {Γ : Gm} {p : Program} {e : Env} {R : Room} {s : State} {m : MethodId} {args : Array Value} {below : List Frame} {meth : Method} {c : Code} {H : Heap} {locs : List Loc} {cells slots : Nat} {Q : State → Prop} {K : Nat → Nat → Nat} {M : Mem} {ls : Array Slot} {a0 n i : Nat} {f : Nat → Int32}
    (C : Cx Γ p l s m args meth c cL_law 9 RL) (hRm : RmL R) (hin : InA s a0 n f) (ha0 : a0 < gB Γ) (hi6 : i + 6 ≤ n) (hn : n ≤ 3072) (hM : HM Γ K M H) (hS : va_S (gFree Γ) s.heap H locs) (hl : lv_has ls 9 (LV K a0 i)) (w : Wf M) (n7 : mN M 7 = 1) (h39 : mN M 39 = 1) (h40 : mN M 40 = 1)
    (r : RC M M)  (hf : cells + 0 ≤ R.cells ∧ slots + 0 ≤ R.slots) (kk : ∀ (K1 : Nat → Nat → Nat) (H1 : Heap) (locs1 : List Loc) (ls1 : Array Slot), HM Γ K1 (sT M 7 19 0 0) H1 → va_S (gFree Γ) s.heap H1 locs1 → lv_has ls1 9 (LV K1 a0 i) → W p l e R s m args below meth c H1 locs1 (cells + 0) (slots + 0) Q (F0 m 2497 ls1 [])) :
    W p l e R s m args below meth c H locs cells slots Q (F0 m 2326 ls []) := by
  have hx := C.1
  have hb := C.2.1
  refine lv_aload_n hx hb dL_law_2326 rfl (lv_at hl 1 rfl) ?_
  refine g_cVL C hS (fun _ h => h) hM hl (fun _ h => h.elim) (c_answers hfl Γ _ _ w) kX6_answers t_165 (HM.recv C hM clo_6 (wn6 w)) dL_law_2327 rfl rfl (Nat.le_of_ble_eq_true rfl) (by decide) hRm hf (fun H locs hM hS => ?_)
  refine lv_aload_n hx hb dL_law_2330 rfl (lv_at hl 2 rfl) ?_
  refine g_cVL C hS (fun _ h => h) hM hl (fun _ h => h) (m_answers hfl Γ _ _ M w r) kX7_answers t_1643 (HM.recv C hM clo_7 (by omega)) dL_law_2331 rfl rfl (Nat.le_of_ble_eq_true rfl) (by decide) hRm hf (fun H locs hM hS => ?_)
  refine lv_icmp_eq (tgt := 2497) hx hb dL_law_2334 (by decide) (fun _ => ?_) (fun z => absurd rfl z)
  exact kk K _ _ _ hM hS hl
set_option maxHeartbeats 1500000 in
set_option maxRecDepth 100000 in
theorem arm_38 {l : Launch} (hfl : l.stackTraces = false) {Γ : Gm} {p : Program} {e : Env} {R : Room} {s : State} {m : MethodId} {args : Array Value} {below : List Frame} {meth : Method} {c : Code} {H : Heap} {locs : List Loc} {cells slots : Nat} {Q : State → Prop} {K : Nat → Nat → Nat} {M : Mem} {ls : Array Slot} {a0 n i : Nat} {f : Nat → Int32}
    (C : Cx Γ p l s m args meth c cL_law 9 RL) (hRm : RmL R) (hin : InA s a0 n f) (ha0 : a0 < gB Γ) (hi6 : i + 6 ≤ n) (hn : n ≤ 3072) (hM : HM Γ K M H) (hS : va_S (gFree Γ) s.heap H locs) (hl : lv_has ls 9 (LV K a0 i)) (w : Wf M) (n7 : mN M 7 = 1) (h39 : mN M 39 = 1) (h40 : mN M 40 = 1)
    (r : RC M M)  (hf : cells + 0 ≤ R.cells ∧ slots + 0 ≤ R.slots) (kk : ∀ (K1 : Nat → Nat → Nat) (H1 : Heap) (locs1 : List Loc) (ls1 : Array Slot), HM Γ K1 (sT M 7 19 0 0) H1 → va_S (gFree Γ) s.heap H1 locs1 → lv_has ls1 9 (LV K1 a0 i) → W p l e R s m args below meth c H1 locs1 (cells + 0) (slots + 0) Q (F0 m 2497 ls1 [])) :
    W p l e R s m args below meth c H locs cells slots Q (F0 m 2339 ls []) := by
  have hx := C.1
  have hb := C.2.1
  refine lv_aload_n hx hb dL_law_2339 rfl (lv_at hl 1 rfl) ?_
  refine g_cVL C hS (fun _ h => h) hM hl (fun _ h => h.elim) (c_minutesOpen hfl Γ _ _ w) kX6_minutesOpen t_169 (HM.recv C hM clo_6 (wn6 w)) dL_law_2340 rfl rfl (Nat.le_of_ble_eq_true rfl) (by decide) hRm hf (fun H locs hM hS => ?_)
  refine lv_aload_n hx hb dL_law_2343 rfl (lv_at hl 2 rfl) ?_
  refine g_cVL C hS (fun _ h => h) hM hl (fun _ h => h) (m_minutesOpen hfl Γ _ _ M w r) kX7_minutesOpen t_1647 (HM.recv C hM clo_7 (by omega)) dL_law_2344 rfl rfl (Nat.le_of_ble_eq_true rfl) (by decide) hRm hf (fun H locs hM hS => ?_)
  refine g_lcmp0 hx hb dL_law_2347 rfl ?_
  refine lv_if_eq (tgt := 2497) hx hb dL_law_2348 (by decide) (fun _ => ?_) (fun z => absurd rfl z)
  exact kk K _ _ _ hM hS hl
set_option maxHeartbeats 1500000 in
set_option maxRecDepth 100000 in
theorem arm_39 {l : Launch} (hfl : l.stackTraces = false) {Γ : Gm} {p : Program} {e : Env} {R : Room} {s : State} {m : MethodId} {args : Array Value} {below : List Frame} {meth : Method} {c : Code} {H : Heap} {locs : List Loc} {cells slots : Nat} {Q : State → Prop} {K : Nat → Nat → Nat} {M : Mem} {ls : Array Slot} {a0 n i : Nat} {f : Nat → Int32}
    (C : Cx Γ p l s m args meth c cL_law 9 RL) (hRm : RmL R) (hin : InA s a0 n f) (ha0 : a0 < gB Γ) (hi6 : i + 6 ≤ n) (hn : n ≤ 3072) (hM : HM Γ K M H) (hS : va_S (gFree Γ) s.heap H locs) (hl : lv_has ls 9 (LV K a0 i)) (w : Wf M) (n7 : mN M 7 = 1) (h39 : mN M 39 = 1) (h40 : mN M 40 = 1)
    (h39b : mN (M) 40 = 1) (M1 M2 : Mem) (hM1 : M1 = if rKeptShare M = 0 then sF (M) 0 ((FP.f2d (FP.fdiv (FP.i2f (mT M 6 12 0)) (FP.i2f (mT M 6 11 0))))) else M) (hM2 : M2 = sT M1 7 19 0 (if 0 < mT M1 7 26 0 then 0 else 1))
     (r70m : 0 < mN M1 7) (h71 : 0 < mN M1 7) (h72 : 0 < mN M2 7) (h402 : 0 < mN M2 40) (hr9 : rKeptShare M < 100) (hthr : mT M2 7 19 0 = nI (rKeptShare M)) (hval : rKeptShare M = 0 → vf_n64 (FP.f2d ((if 0 < mT M1 7 26 0 then FP.fdiv (FP.i2f (mT M1 7 27 0)) (FP.i2f (mT M1 7 26 0)) else 0))) ∧ FP.dcmp (mF M2 0) (FP.f2d ((if 0 < mT M1 7 26 0 then FP.fdiv (FP.i2f (mT M1 7 27 0)) (FP.i2f (mT M1 7 26 0)) else 0))) = some .eq)
    (hf : cells + 2 ≤ R.cells ∧ slots + 12 ≤ R.slots) (hf0 : cells + 2 + 0 ≤ R.cells ∧ slots + 12 + 0 ≤ R.slots) (kk : ∀ (K1 : Nat → Nat → Nat) (H1 : Heap) (locs1 : List Loc) (ls1 : Array Slot), HM Γ K1 M2 H1 → va_S (gFree Γ) s.heap H1 locs1 → lv_has ls1 9 (LV K1 a0 i) → W p l e R s m args below meth c H1 locs1 (cells + 2) (slots + 12) Q (F0 m 2497 ls1 [])) :
    W p l e R s m args below meth c H locs cells slots Q (F0 m 2353 ls []) := by
  have hx := C.1
  have hb := C.2.1
  have e6 := wn6 w
  refine lv_aload_n hx hb dL_law_2353 rfl (lv_at hl 1 rfl) ?_
  refine lv_aload hx hb dL_law_2354 (lv_at hl 4 rfl) ?_
  refine g_callHL C hS (fun _ h => h) hM hl (fun _ h => h) (h_keptShare hfl Γ _ _ w h40 h39b) kL_keptShare t_1261 dL_law_2356 rfl rfl (Nat.le_of_ble_eq_true rfl) (by decide) hRm hf (fun v9 K1 M9 H locs hp hM hS _ _ => ?_)
  obtain ⟨rfl, hKK, hM9⟩ := hp
  obtain rfl : M1 = M9 := (hM9.trans hM1.symm).symm
  replace hl : lv_has ls 9 (LV K1 a0 i) := by rw [show LV K1 a0 i = LV K a0 i from by simp only [LV, hKK 6 0 e6, hKK 7 0 (show 0 < mN M 7 by omega), hKK 39 0 (show 0 < mN M 39 by omega), hKK 40 0 (show 0 < mN M 40 by omega)]]; exact hl
  dsimp only [Option.toList, List.cons_append, List.nil_append]
  refine lv_istore (lv' := [(6, _), (0, _), (1, _), (2, _), (3, _), (4, _), (5, _)]) hx hb dL_law_2359 hl (by decide) rfl (fun ls hl => ?_)
  refine lv_aload_n hx hb dL_law_2361 rfl (lv_at hl 3 rfl) ?_
  refine g_cVL C hS (fun _ h => h) hM hl (fun _ h => h) (m_keptShare hfl Γ _ _  r70m) kX7_keptShare t_1651 (HM.recv C hM clo_7 h71) dL_law_2362 rfl rfl (Nat.le_of_ble_eq_true rfl) (by decide) hRm hf0 (fun H locs hM hS => ?_)
  replace hM : HM Γ K1 M2 H := by rw [hM2]; exact hM
  refine lv_fstore (lv' := [(7, _), (6, _), (0, _), (1, _), (2, _), (3, _), (4, _), (5, _)]) hx hb dL_law_2365 hl (by decide) rfl (fun ls hl => ?_)
  refine lv_aload_n hx hb dL_law_2367 rfl (lv_at hl 4 rfl) ?_
  refine g_cVL C hS (fun _ h => h) hM hl (fun _ h => h.elim) (m_thrown hfl Γ _ _ h72) kX7_thrown t_1391 (HM.recv C hM clo_7 h72) dL_law_2368 rfl rfl (Nat.le_of_ble_eq_true rfl) (by decide) hRm hf0 (fun H locs hM hS => ?_)
  refine lv_iload hx hb dL_law_2371 (lv_at hl 1 rfl) ?_
  refine lv_icmp_eq (tgt := 2378) hx hb dL_law_2373 (by decide) (fun _ => ?_) (fun z => absurd hthr z)
  refine lv_iload hx hb dL_law_2378 (lv_at hl 1 rfl) ?_
  refine lv_if_ne (tgt := 2416) hx hb dL_law_2380 (by decide) (fun c9 => ?_) (fun c9 => ?_)
  · refine lv_goto (tgt := 2497) hx hb dL_law_2416 (by decide) ?_
    exact kk K1 _ _ _ hM hS (lv_sub hl [2, 3, 4, 5, 6, 7] rfl)
  · have h0 : rKeptShare M = 0 := nI_zero hr9 c9
    refine lv_aload hx hb dL_law_2383 (lv_at hl 6 rfl) ?_
    refine lv_iconst (v := 0) hx hb dL_law_2385 (by decide) ?_
    refine g_dald C hM h402 dL_law_2386 ?_
    refine lv_fload hx hb dL_law_2387 (lv_at hl 0 rfl) ?_
    refine lv_f2d hx hb dL_law_2389 (hval h0).1 ?_
    refine lv_dcmp hx hb dL_law_2390 ?_
    rw [(hval h0).2]
    refine lv_if_eq (tgt := 2416) hx hb dL_law_2391 (by decide) (fun _ => ?_) (fun z => absurd rfl z)
    refine lv_goto (tgt := 2497) hx hb dL_law_2416 (by decide) ?_
    exact kk K1 _ _ _ hM hS (lv_sub hl [2, 3, 4, 5, 6, 7] rfl)
set_option maxHeartbeats 1500000 in
set_option maxRecDepth 100000 in
theorem arm_40 {l : Launch} (hfl : l.stackTraces = false) {Γ : Gm} {p : Program} {e : Env} {R : Room} {s : State} {m : MethodId} {args : Array Value} {below : List Frame} {meth : Method} {c : Code} {H : Heap} {locs : List Loc} {cells slots : Nat} {Q : State → Prop} {K : Nat → Nat → Nat} {M : Mem} {ls : Array Slot} {a0 n i : Nat} {f : Nat → Int32}
    (C : Cx Γ p l s m args meth c cL_law 9 RL) (hRm : RmL R) (hin : InA s a0 n f) (ha0 : a0 < gB Γ) (hi6 : i + 6 ≤ n) (hn : n ≤ 3072) (hM : HM Γ K M H) (hS : va_S (gFree Γ) s.heap H locs) (hl : lv_has ls 9 (LV K a0 i)) (w : Wf M) (n7 : mN M 7 = 1) (h39 : mN M 39 = 1) (h40 : mN M 40 = 1)
    (h39b : mN (M) 40 = 1) (M1 M2 : Mem) (hM1 : M1 = if rMeanClock M = 0 then sF (M) 0 ((FP.ddiv (FP.l2d (mJ M 6 13 0)) (FP.i2d (mT M 6 11 0)))) else M) (hM2 : M2 = sT M1 7 19 0 (if 0 < mT M1 7 26 0 then 0 else 1))
     (r70m : 0 < mN M1 7) (h71 : 0 < mN M1 7) (h72 : 0 < mN M2 7) (h402 : 0 < mN M2 40) (hr9 : rMeanClock M < 100) (hthr : mT M2 7 19 0 = nI (rMeanClock M)) (hval : rMeanClock M = 0 → vf_n64 (0) ∧ FP.dcmp (mF M2 0) ((if 0 < mT M1 7 26 0 then FP.ddiv (FP.i2d (mT M1 7 28 0)) (FP.i2d (mT M1 7 26 0)) else 0)) = some .eq)
    (hf : cells + 2 ≤ R.cells ∧ slots + 12 ≤ R.slots) (hf0 : cells + 2 + 0 ≤ R.cells ∧ slots + 12 + 0 ≤ R.slots) (kk : ∀ (K1 : Nat → Nat → Nat) (H1 : Heap) (locs1 : List Loc) (ls1 : Array Slot), HM Γ K1 M2 H1 → va_S (gFree Γ) s.heap H1 locs1 → lv_has ls1 9 (LV K1 a0 i) → W p l e R s m args below meth c H1 locs1 (cells + 2) (slots + 12) Q (F0 m 2497 ls1 [])) :
    W p l e R s m args below meth c H locs cells slots Q (F0 m 2419 ls []) := by
  have hx := C.1
  have hb := C.2.1
  have e6 := wn6 w
  refine lv_aload_n hx hb dL_law_2419 rfl (lv_at hl 1 rfl) ?_
  refine lv_aload hx hb dL_law_2420 (lv_at hl 4 rfl) ?_
  refine g_callHL C hS (fun _ h => h) hM hl (fun _ h => h) (h_meanClock hfl Γ _ _ w h40 h39b) kL_meanClock t_1285 dL_law_2422 rfl rfl (Nat.le_of_ble_eq_true rfl) (by decide) hRm hf (fun v9 K1 M9 H locs hp hM hS _ _ => ?_)
  obtain ⟨rfl, hKK, hM9⟩ := hp
  obtain rfl : M1 = M9 := (hM9.trans hM1.symm).symm
  replace hl : lv_has ls 9 (LV K1 a0 i) := by rw [show LV K1 a0 i = LV K a0 i from by simp only [LV, hKK 6 0 e6, hKK 7 0 (show 0 < mN M 7 by omega), hKK 39 0 (show 0 < mN M 39 by omega), hKK 40 0 (show 0 < mN M 40 by omega)]]; exact hl
  dsimp only [Option.toList, List.cons_append, List.nil_append]
  refine lv_istore (lv' := [(6, _), (0, _), (1, _), (2, _), (3, _), (4, _), (5, _)]) hx hb dL_law_2425 hl (by decide) rfl (fun ls hl => ?_)
  refine lv_aload_n hx hb dL_law_2427 rfl (lv_at hl 3 rfl) ?_
  refine g_cVL C hS (fun _ h => h) hM hl (fun _ h => h) (m_meanClock hfl Γ _ _  r70m) kX7_meanClock t_1655 (HM.recv C hM clo_7 h71) dL_law_2428 rfl rfl (Nat.le_of_ble_eq_true rfl) (by decide) hRm hf0 (fun H locs hM hS => ?_)
  replace hM : HM Γ K1 M2 H := by rw [hM2]; exact hM
  refine lv_dstore (lv' := [(7, _), (6, _), (0, _), (1, _), (2, _), (3, _), (4, _), (5, _)]) hx hb dL_law_2431 hl (by decide) rfl (fun ls hl => ?_)
  refine lv_aload_n hx hb dL_law_2433 rfl (lv_at hl 4 rfl) ?_
  refine g_cVL C hS (fun _ h => h) hM hl (fun _ h => h.elim) (m_thrown hfl Γ _ _ h72) kX7_thrown t_1391 (HM.recv C hM clo_7 h72) dL_law_2434 rfl rfl (Nat.le_of_ble_eq_true rfl) (by decide) hRm hf0 (fun H locs hM hS => ?_)
  refine lv_iload hx hb dL_law_2437 (lv_at hl 1 rfl) ?_
  refine lv_icmp_eq (tgt := 2444) hx hb dL_law_2439 (by decide) (fun _ => ?_) (fun z => absurd hthr z)
  refine lv_iload hx hb dL_law_2444 (lv_at hl 1 rfl) ?_
  refine lv_if_ne (tgt := 2481) hx hb dL_law_2446 (by decide) (fun c9 => ?_) (fun c9 => ?_)
  · refine lv_goto (tgt := 2497) hx hb dL_law_2481 (by decide) ?_
    exact kk K1 _ _ _ hM hS (lv_sub hl [2, 3, 4, 5, 6, 7] rfl)
  · have h0 : rMeanClock M = 0 := nI_zero hr9 c9
    refine lv_aload hx hb dL_law_2449 (lv_at hl 6 rfl) ?_
    refine lv_iconst (v := 0) hx hb dL_law_2451 (by decide) ?_
    refine g_dald C hM h402 dL_law_2452 ?_
    refine lv_dload hx hb dL_law_2453 (lv_at hl 0 rfl) ?_
    refine lv_dcmp hx hb dL_law_2455 ?_
    rw [(hval h0).2]
    refine lv_if_eq (tgt := 2481) hx hb dL_law_2456 (by decide) (fun _ => ?_) (fun z => absurd rfl z)
    refine lv_goto (tgt := 2497) hx hb dL_law_2481 (by decide) ?_
    exact kk K1 _ _ _ hM hS (lv_sub hl [2, 3, 4, 5, 6, 7] rfl)
set_option maxHeartbeats 1500000 in
set_option maxRecDepth 100000 in
theorem arm_41 {l : Launch} (hfl : l.stackTraces = false) {Γ : Gm} {p : Program} {e : Env} {R : Room} {s : State} {m : MethodId} {args : Array Value} {below : List Frame} {meth : Method} {c : Code} {H : Heap} {locs : List Loc} {cells slots : Nat} {Q : State → Prop} {K : Nat → Nat → Nat} {M : Mem} {ls : Array Slot} {a0 n i : Nat} {f : Nat → Int32}
    (C : Cx Γ p l s m args meth c cL_law 9 RL) (hRm : RmL R) (hin : InA s a0 n f) (ha0 : a0 < gB Γ) (hi6 : i + 6 ≤ n) (hn : n ≤ 3072) (hM : HM Γ K M H) (hS : va_S (gFree Γ) s.heap H locs) (hl : lv_has ls 9 (LV K a0 i)) (w : Wf M) (n7 : mN M 7 = 1) (h39 : mN M 39 = 1) (h40 : mN M 40 = 1)
    (r : RC M M) (hO : ∀ i, i < mN M 4 → ¬ mT M 4 6 i = 109 → OwnOk M i) (hsum : emN M (mN M 4) = nI (mN M 2)) (hN : ∀ a, a < mN M 0 → nqN M a 6 = ntN M a (mN M 4)) (hf : cells + 0 ≤ R.cells ∧ slots + 0 ≤ R.slots) (kk : ∀ (K1 : Nat → Nat → Nat) (H1 : Heap) (locs1 : List Loc) (ls1 : Array Slot), HM Γ K1 (sT M 7 19 0 0) H1 → va_S (gFree Γ) s.heap H1 locs1 → lv_has ls1 9 (LV K1 a0 i) → W p l e R s m args below meth c H1 locs1 (cells + 0) (slots + 0) Q (F0 m 2497 ls1 [])) :
    W p l e R s m args below meth c H locs cells slots Q (F0 m 2484 ls []) := by
  have hx := C.1
  have hb := C.2.1
  refine lv_aload_n hx hb dL_law_2484 rfl (lv_at hl 1 rfl) ?_
  refine g_cVL C hS (fun _ h => h) hM hl (fun _ h => h.elim) (c_isSound hfl Γ _ _ w hO hsum hN) kX6_isSound t_173 (HM.recv C hM clo_6 (wn6 w)) dL_law_2485 rfl rfl (Nat.le_of_ble_eq_true rfl) (by decide) hRm hf (fun H locs hM hS => ?_)
  refine lv_aload_n hx hb dL_law_2488 rfl (lv_at hl 2 rfl) ?_
  refine g_cVL C hS (fun _ h => h) hM hl (fun _ h => h) (m_isSound hfl Γ _ _ M w r) kX7_isSound t_1659 (HM.recv C hM clo_7 (by omega)) dL_law_2489 rfl rfl (Nat.le_of_ble_eq_true rfl) (by decide) hRm hf (fun H locs hM hS => ?_)
  refine lv_icmp_eq (tgt := 2497) hx hb dL_law_2492 (by decide) (fun _ => ?_) (fun z => absurd rfl z)
  exact kk K _ _ _ hM hS hl
