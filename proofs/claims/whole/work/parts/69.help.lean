theorem g_passE {p : Program} {l : Launch} {e : Env} {R : Room} {s : State} {m : MethodId} {args : Array Value} {below : List Frame} {meth : Method} {c : Code} {H : Heap} {cells slots : Nat} {cc : ByteArray} {nL : Nat} {own : String} {Γ : Gm} {A : Nat → Prop} {K : Nat → Nat → Nat} {M ME : Mem} {pc mc ms : Nat} {ls : Array Slot} {rest : List Value} {xp xp2 : String → Prop} {post : Option Value → (Nat → Nat → Nat) → Mem → Prop} (C : Cx Γ p l s m args meth c cc nL own) (ht : ∀ x ∈ c.exceptionTable.toList, False) (hx : ∀ E, xp E → xp2 E) (hE : ∀ E, xp E → ME = M) (hc : cells ≤ mc) (hs : slots ≤ ms) : GoesX p l e R s m args below meth c H cells slots (vx_MQ below (cQ Γ A post) (cX Γ A K ME xp2) args s mc ms A) Γ A K M pc ls rest xp := by
  intro E q9 ce H1 locs1 h1 h2 h3 h4 h5 h6
  exact vx_out (fun x hx => (ht x hx).elim) C.2.2.2.2.2.1 h4 h5 h6 (fun t ht _ => ⟨hx E h1, by rw [ht, hE E h1]; exact h2, h3.F ht⟩) h3.2.2 hc hs
def rSuggestionByWords (M : Mem) (x : Int32) : Nat := if inN x (mN M 4) = true then (if (bwN (scoM M (mT M 4 5 (ix x))) (ix x) (mN M 3)).1 = -1 then 2 else 0) else 1
set_option maxHeartbeats 1500000 in
set_option maxRecDepth 100000 in
theorem c_suggestionByWords {l : Launch} (hfl : l.stackTraces = false) (Γ : Gm) (K : Nat → Nat → Nat) (M : Mem) (x : Int32) (w : Wf M) : CTE l Γ (gFree Γ) yX6_suggestionByWords (wsO yX6_suggestionByWords cX6_suggestionByWords 3 (some .int)) 8 [.ref (K 6 0), .int x] K M (DD (rSuggestionByWords M x = 0) (some (.int (bwN (scoM M (mT M 4 5 (ix x))) (ix x) (mN M 3)).1)) K (scoM M (mT M 4 5 (ix x)))) (XP ["java/lang/IndexOutOfBoundsException", "java/util/NoSuchElementException"] (rSuggestionByWords M x)) (if inN x (mN M 4) = true then scoM M (mT M 4 5 (ix x)) else M) 3 20 := by
  refine ct_introE hfl (by decide) (Nat.le_of_ble_eq_true rfl) ?_
  intro p e s m args below meth c C ht hr hnm hM ls hl
  have hx := C.1
  have hb := C.2.1
  have hS : va_S (gFree Γ) s.heap s.heap [] := va_S.rf
  have hl : lv_has ls 3 [(0, .ref (K 6 0)), (1, .int x)] := hl
  have hb4 := wn4 w
  have hb0 := wn0 w
  have hb2 := wn2 w
  refine lv_aload_n hx hb dX6_suggestionByWords_0 rfl (lv_at hl 0 rfl) ?_
  refine lv_aload_n hx hb dX6_suggestionByWords_1 rfl (lv_at hl 0 rfl) ?_
  refine lv_iload_n hx hb dX6_suggestionByWords_2 rfl (lv_at hl 1 rfl) ?_
  refine g_cV C hS (fun _ h => h) hM hl (fun _ h => h.elim) (c_ticketNumbered hfl Γ _ _ _ (by assumption)) kX6_ticketNumbered t_908 (HM.recv C hM clo_6 (wn6 (by assumption))) dX6_suggestionByWords_3 rfl rfl (Nat.le_of_ble_eq_true rfl) (by decide) rfl ⟨by decide, by decide⟩ (g_passE C ht (fun E h => xp_of 0 (by simp [rSuggestionByWords, h.2]) h.1) (fun E h => if_neg (by rw [h.2]; decide)) (by decide) (by decide)) (fun H locs hc_3 hM hS => ?_)
  have hq_3 := (inN_ix hc_3 (by have := wn4 w; omega)).1
  refine g_cV C hS (fun _ h => h) hM hl (fun _ h => h) (c_bestFromWords hfl Γ _ _ _ (by assumption) (by assumption)) kX6_bestFromWords t_1246 (HM.recv C hM clo_6 (wn6 (by assumption))) dX6_suggestionByWords_6 rfl rfl (Nat.le_of_ble_eq_true rfl) (by decide) rfl ⟨by decide, by decide⟩ xNo_goes (fun H locs hc_6 hM hS => ?_)
  refine lv_istore_n (lv' := [(2, _), (0, _), (1, _)]) hx hb dX6_suggestionByWords_9 rfl hl (by decide) rfl (fun ls hl => ?_)
  refine lv_iload_n hx hb dX6_suggestionByWords_10 rfl (lv_at hl 0 rfl) ?_
  refine lv_iconst (v := -1) hx hb dX6_suggestionByWords_11 (by decide) ?_
  refine lv_icmp_ne (tgt := 26) hx hb dX6_suggestionByWords_12 (by decide) (fun c_12 => ?_) (fun c_12 => ?_)
  · skip
    refine lv_iload_n hx hb dX6_suggestionByWords_26 rfl (lv_at hl 0 rfl) ?_
    exact g_iret C hr hM hS dX6_suggestionByWords_27 (by decide) (by decide) ⟨by simp [rSuggestionByWords, hc_3, c_12], rfl, rfl, rfl⟩
  · skip
    rw [if_pos hc_3]
    exact g_throwEW C ht (xp_of 1 (by simp [rSuggestionByWords, hc_3, c_12]) rfl) hM hS (fun _ h => h) hl (strX_30) dX6_suggestionByWords_15 dX6_suggestionByWords_18 dX6_suggestionByWords_19 dX6_suggestionByWords_22 dX6_suggestionByWords_25 rfl (Nat.le_of_ble_eq_true rfl) ⟨by decide, by decide⟩ (by decide) (by decide)

theorem kL_pass : CeeH yL_pass cL_pass 4 (some .int) [(0, 9, 12, 13)] 3 := ⟨t_250, t_0, t_251, by decide +kernel, by decide⟩
set_option maxHeartbeats 1500000 in
set_option maxRecDepth 100000 in
theorem h_pass {l : Launch} (hfl : l.stackTraces = false) (Γ : Gm) (K : Nat → Nat → Nat) (M : Mem) (x : Int32) (w : Wf M) (h39 : mN M 39 = 1) (h39b : mN (passM M x) 39 = 1) : CT l Γ (gFree Γ) yL_pass (wsH yL_pass cL_pass 4 (some .int) [(0, 9, 12, 13)]) 9 [.ref (K 6 0), .int x, .ref (K 39 0)] K M (HP (rPass M x) (pbN M x (mN M 4)).toInt64 K M (passM M x) (M)) xNo 2 12 := by
  refine ct_introH hfl (by decide) (Nat.le_of_ble_eq_true rfl) ?_
  intro p e s m args below meth c C htab hr hM ls hl
  have hx := C.1
  have hb := C.2.1
  have hS : va_S (gFree Γ) s.heap s.heap [] := va_S.rf
  have hl : lv_has ls 4 [(0, .ref (K 6 0)), (1, .int x), (2, .ref (K 39 0))] := hl
  refine lv_aload_n hx hb dL_pass_0 rfl (lv_at hl 2 rfl) ?_
  refine lv_iconst (v := 0) hx hb dL_pass_1 (by decide) ?_
  refine lv_aload_n hx hb dL_pass_2 rfl (lv_at hl 0 rfl) ?_
  refine lv_iload_n hx hb dL_pass_3 rfl (lv_at hl 1 rfl) ?_
  refine g_cV C hS (fun _ h => h) hM hl (fun _ h => h) (c_pass hfl Γ _ _ x w) kX6_pass t_253 (HM.recv C hM clo_6 (wn6 w)) dL_pass_4 rfl rfl (Nat.le_of_ble_eq_true rfl) (by decide) rfl ⟨by decide, by decide⟩
    (fun E q9 ce H1 locs1 hE hM1 hS1 hcell hv hcl => by
        obtain ⟨hr0, hE⟩ := hE
        have hle : rPass M x ≤ 1 := by unfold rPass; (repeat' split) <;> omega
        have h1 : rPass M x = 1 := by omega
        rw [h1] at hE
        obtain rfl : E = "java/lang/IllegalArgumentException" := hE
        refine g_catch C htab [] [] ⟨0, 9, 12, 13⟩ rfl (fun z hz => absurd hz (by simp)) (by decide) (by decide) t_252 (nst_of n_262) hcell hv hcl ?_
        refine lv_astore_n (lv' := [(3, _), (0, _), (1, _), (2, _)]) hx hb dL_pass_12 rfl hl (by decide) rfl (fun ls hl => ?_)
        refine lv_iconst (v := 1) hx hb dL_pass_13 (by decide) ?_
        exact g_iret C hr hM1 hS1 dL_pass_14 (by decide) (by decide) ⟨by rw [h1]; rfl, fun k i hi => rfl, (if_neg (by rw [h1]; decide)).symm⟩)
      (fun H locs hc0 hM hS => ?_)
  refine lv_i2l hx hb dL_pass_7 rfl ?_
  refine g_last C hM hS (by omega) dL_pass_8 (fun H locs hM hS => ?_)
  refine lv_goto (tgt := 15) hx hb dL_pass_9 (by decide) ?_
  refine lv_iconst (v := 0) hx hb dL_pass_15 (by decide) ?_
  exact g_iret C hr hM hS dL_pass_16 (by decide) (by decide) ⟨by rw [hc0]; rfl, fun k i hi => rfl, by rw [if_pos hc0]⟩
theorem kL_setClass : CeeH yL_setClass cL_setClass 5 (some .int) [(0, 10, 13, 13)] 4 := ⟨t_337, t_0, t_338, by decide +kernel, by decide⟩
set_option maxHeartbeats 1500000 in
set_option maxRecDepth 100000 in
theorem h_setClass {l : Launch} (hfl : l.stackTraces = false) (Γ : Gm) (K : Nat → Nat → Nat) (M : Mem) (x : Int32) (y : Int32) (w : Wf M) (h39 : mN M 39 = 1) (h39b : mN (oqN (sT M 1 1 (ix x) y) 6) 39 = 1) : CT l Γ (gFree Γ) yL_setClass (wsH yL_setClass cL_setClass 5 (some .int) [(0, 10, 13, 13)]) 11 [.ref (K 6 0), .int x, .int y, .ref (K 39 0)] K M (HP (rSetClass M x y) (mT M 1 1 (ix x)).toInt64 K M (oqN (sT M 1 1 (ix x) y) 6) (M)) xNo 2 12 := by
  refine ct_introH hfl (by decide) (Nat.le_of_ble_eq_true rfl) ?_
  intro p e s m args below meth c C htab hr hM ls hl
  have hx := C.1
  have hb := C.2.1
  have hS : va_S (gFree Γ) s.heap s.heap [] := va_S.rf
  have hl : lv_has ls 5 [(0, .ref (K 6 0)), (1, .int x), (2, .int y), (3, .ref (K 39 0))] := hl
  refine lv_aload_n hx hb dL_setClass_0 rfl (lv_at hl 3 rfl) ?_
  refine lv_iconst (v := 0) hx hb dL_setClass_1 (by decide) ?_
  refine lv_aload_n hx hb dL_setClass_2 rfl (lv_at hl 0 rfl) ?_
  refine lv_iload_n hx hb dL_setClass_3 rfl (lv_at hl 1 rfl) ?_
  refine lv_iload_n hx hb dL_setClass_4 rfl (lv_at hl 2 rfl) ?_
  refine g_cV C hS (fun _ h => h) hM hl (fun _ h => h) (c_setClass hfl Γ _ _ x y w) kX6_setClass t_339 (HM.recv C hM clo_6 (wn6 w)) dL_setClass_5 rfl rfl (Nat.le_of_ble_eq_true rfl) (by decide) rfl ⟨by decide, by decide⟩
    (fun E q9 ce H1 locs1 hE hM1 hS1 hcell hv hcl => by
        obtain ⟨hr0, hE⟩ := hE
        have hle : rSetClass M x y ≤ 1 := by unfold rSetClass; (repeat' split) <;> omega
        have h1 : rSetClass M x y = 1 := by omega
        rw [h1] at hE
        obtain rfl : E = "java/lang/IllegalArgumentException" := hE
        refine g_catch C htab [] [] ⟨0, 10, 13, 13⟩ rfl (fun z hz => absurd hz (by simp)) (by decide) (by decide) t_252 (nst_of n_262) hcell hv hcl ?_
        refine lv_astore (lv' := [(4, _), (0, _), (1, _), (2, _), (3, _)]) hx hb dL_setClass_13 hl (by decide) rfl (fun ls hl => ?_)
        refine lv_iconst (v := 1) hx hb dL_setClass_15 (by decide) ?_
        exact g_iret C hr hM1 hS1 dL_setClass_16 (by decide) (by decide) ⟨by rw [h1]; rfl, fun k i hi => rfl, (if_neg (by rw [h1]; decide)).symm⟩)
      (fun H locs hc0 hM hS => ?_)
  refine lv_i2l hx hb dL_setClass_8 rfl ?_
  refine g_last C hM hS (by omega) dL_setClass_9 (fun H locs hM hS => ?_)
  refine lv_goto (tgt := 17) hx hb dL_setClass_10 (by decide) ?_
  refine lv_iconst (v := 0) hx hb dL_setClass_17 (by decide) ?_
  exact g_iret C hr hM hS dL_setClass_18 (by decide) (by decide) ⟨by rw [hc0]; rfl, fun k i hi => rfl, by rw [if_pos hc0]⟩
theorem kL_setPromise : CeeH yL_setPromise cL_setPromise 5 (some .int) [(0, 10, 13, 13)] 4 := ⟨t_683, t_0, t_684, by decide +kernel, by decide⟩
set_option maxHeartbeats 1500000 in
set_option maxRecDepth 100000 in
theorem h_setPromise {l : Launch} (hfl : l.stackTraces = false) (Γ : Gm) (K : Nat → Nat → Nat) (M : Mem) (x : Int32) (y : Int32) (w : Wf M) (h39 : mN M 39 = 1) (h39b : mN (oqN (sT M 15 (ix x) 0 y) 6) 39 = 1) : CT l Γ (gFree Γ) yL_setPromise (wsH yL_setPromise cL_setPromise 5 (some .int) [(0, 10, 13, 13)]) 11 [.ref (K 6 0), .int x, .int y, .ref (K 39 0)] K M (HP (rSetPromise M x y) (mT M 15 (ix x) 0).toInt64 K M (oqN (sT M 15 (ix x) 0 y) 6) (M)) xNo 2 12 := by
  refine ct_introH hfl (by decide) (Nat.le_of_ble_eq_true rfl) ?_
  intro p e s m args below meth c C htab hr hM ls hl
  have hx := C.1
  have hb := C.2.1
  have hS : va_S (gFree Γ) s.heap s.heap [] := va_S.rf
  have hl : lv_has ls 5 [(0, .ref (K 6 0)), (1, .int x), (2, .int y), (3, .ref (K 39 0))] := hl
  refine lv_aload_n hx hb dL_setPromise_0 rfl (lv_at hl 3 rfl) ?_
  refine lv_iconst (v := 0) hx hb dL_setPromise_1 (by decide) ?_
  refine lv_aload_n hx hb dL_setPromise_2 rfl (lv_at hl 0 rfl) ?_
  refine lv_iload_n hx hb dL_setPromise_3 rfl (lv_at hl 1 rfl) ?_
  refine lv_iload_n hx hb dL_setPromise_4 rfl (lv_at hl 2 rfl) ?_
  refine g_cV C hS (fun _ h => h) hM hl (fun _ h => h) (c_setPromise hfl Γ _ _ x y w) kX6_setPromise t_685 (HM.recv C hM clo_6 (wn6 w)) dL_setPromise_5 rfl rfl (Nat.le_of_ble_eq_true rfl) (by decide) rfl ⟨by decide, by decide⟩
    (fun E q9 ce H1 locs1 hE hM1 hS1 hcell hv hcl => by
        obtain ⟨hr0, hE⟩ := hE
        have hle : rSetPromise M x y ≤ 1 := by unfold rSetPromise; (repeat' split) <;> omega
        have h1 : rSetPromise M x y = 1 := by omega
        rw [h1] at hE
        obtain rfl : E = "java/lang/IllegalArgumentException" := hE
        refine g_catch C htab [] [] ⟨0, 10, 13, 13⟩ rfl (fun z hz => absurd hz (by simp)) (by decide) (by decide) t_252 (nst_of n_262) hcell hv hcl ?_
        refine lv_astore (lv' := [(4, _), (0, _), (1, _), (2, _), (3, _)]) hx hb dL_setPromise_13 hl (by decide) rfl (fun ls hl => ?_)
        refine lv_iconst (v := 1) hx hb dL_setPromise_15 (by decide) ?_
        exact g_iret C hr hM1 hS1 dL_setPromise_16 (by decide) (by decide) ⟨by rw [h1]; rfl, fun k i hi => rfl, (if_neg (by rw [h1]; decide)).symm⟩)
      (fun H locs hc0 hM hS => ?_)
  refine lv_i2l hx hb dL_setPromise_8 rfl ?_
  refine g_last C hM hS (by omega) dL_setPromise_9 (fun H locs hM hS => ?_)
  refine lv_goto (tgt := 17) hx hb dL_setPromise_10 (by decide) ?_
  refine lv_iconst (v := 0) hx hb dL_setPromise_17 (by decide) ?_
  exact g_iret C hr hM hS dL_setPromise_18 (by decide) (by decide) ⟨by rw [hc0]; rfl, fun k i hi => rfl, by rw [if_pos hc0]⟩
theorem kL_mail : CeeH yL_mail cL_mail 8 (some .int) [(0, 16, 19, 13), (0, 16, 23, 26), (0, 16, 27, 28)] 7 := ⟨t_691, t_0, t_692, by decide +kernel, by decide⟩
set_option maxHeartbeats 1500000 in
set_option maxRecDepth 100000 in
theorem h_mail {l : Launch} (hfl : l.stackTraces = false) (Γ : Gm) (K : Nat → Nat → Nat) (M : Mem) (x y z u v : Int32) (w : Wf M) (h7 : mN M 7 = 1 ∧ ∀ k, 20 ≤ k → k ≤ 38 → mN M k = 1) (hlen : ∀ i, i < mN M 4 → (mL M 8 i).length ≤ mN M 2) (h39 : mN M 39 = 1) (h39b : mN (mailM M x y z u v) 39 = 1) : CT l Γ (gFree Γ) yL_mail (wsH yL_mail cL_mail 8 (some .int) [(0, 16, 19, 13), (0, 16, 23, 26), (0, 16, 27, 28)]) 11 [.ref (K 6 0), .int x, .int y, .int z, .int u, .int v, .ref (K 39 0)] K M (HP (rMail M x y z u v) (mailN M x y z u v).toInt64 K M (mailM M x y z u v) (M)) xNo 10 600 := by
  refine ct_introH hfl (by decide) (Nat.le_of_ble_eq_true rfl) ?_
  intro p e s m args below meth c C htab hr hM ls hl
  have hx := C.1
  have hb := C.2.1
  have hS : va_S (gFree Γ) s.heap s.heap [] := va_S.rf
  have hl : lv_has ls 8 [(0, .ref (K 6 0)), (1, .int x), (2, .int y), (3, .int z), (4, .int u), (5, .int v), (6, .ref (K 39 0))] := hl
  refine lv_aload hx hb dL_mail_0 (lv_at hl 6 rfl) ?_
  refine lv_iconst (v := 0) hx hb dL_mail_2 (by decide) ?_
  refine lv_aload_n hx hb dL_mail_3 rfl (lv_at hl 0 rfl) ?_
  refine lv_iload_n hx hb dL_mail_4 rfl (lv_at hl 1 rfl) ?_
  refine lv_iload_n hx hb dL_mail_5 rfl (lv_at hl 2 rfl) ?_
  refine lv_iload_n hx hb dL_mail_6 rfl (lv_at hl 3 rfl) ?_
  refine lv_iload hx hb dL_mail_7 (lv_at hl 4 rfl) ?_
  refine lv_iload hx hb dL_mail_9 (lv_at hl 5 rfl) ?_
  refine g_cVK C hS (fun _ h => h) hM hl (fun _ h => h) (c_mail hfl Γ _ _ x y z u v w h7 hlen) kX6_mail t_695 (HM.recv C hM clo_6 (wn6 w)) dL_mail_11 rfl rfl (Nat.le_of_ble_eq_true rfl) (by decide) rfl ⟨by decide, by decide⟩
    (fun E q9 ce H1 locs1 hE hM1 hS1 hcell hv hcl => by
        obtain ⟨hr0, hE⟩ := hE
        have hle : rMail M x y z u v ≤ 3 := by unfold rMail; (repeat' split) <;> omega
        rcases (show rMail M x y z u v = 1 ∨ rMail M x y z u v = 2 ∨ rMail M x y z u v = 3 by omega) with h1 | h1 | h1
        · rw [h1] at hE
          obtain rfl : E = "java/lang/IllegalArgumentException" := hE
          refine g_catch C htab [] [⟨0, 16, 23, 26⟩, ⟨0, 16, 27, 28⟩] ⟨0, 16, 19, 13⟩ rfl (fun z hz => absurd hz (by simp)) (by decide) (by decide) t_252 (nst_of n_262) hcell hv hcl ?_
          refine lv_astore (lv' := [(7, _), (0, _), (1, _), (2, _), (3, _), (4, _), (5, _), (6, _)]) hx hb dL_mail_19 hl (by decide) rfl (fun ls hl => ?_)
          refine lv_iconst (v := 1) hx hb dL_mail_21 (by decide) ?_
          exact g_iret C hr hM1 hS1 dL_mail_22 (by decide) (by decide) ⟨by rw [h1]; rfl, fun k i hi => rfl, (if_neg (by rw [h1]; decide)).symm⟩
        · rw [h1] at hE
          obtain rfl : E = "java/util/NoSuchElementException" := hE
          refine g_catch C htab [⟨0, 16, 19, 13⟩] [⟨0, 16, 27, 28⟩] ⟨0, 16, 23, 26⟩ rfl (fun z hz => by
        simp only [List.mem_cons, List.not_mem_nil, or_false] at hz
        subst hz
        exact ⟨by decide, "java/lang/IllegalArgumentException", t_252, by simp [ncX]⟩) (by decide) (by decide) t_693 (nst_of n_708) hcell hv hcl ?_
          refine lv_astore (lv' := [(7, _), (0, _), (1, _), (2, _), (3, _), (4, _), (5, _), (6, _)]) hx hb dL_mail_23 hl (by decide) rfl (fun ls hl => ?_)
          refine lv_iconst (v := 2) hx hb dL_mail_25 (by decide) ?_
          exact g_iret C hr hM1 hS1 dL_mail_26 (by decide) (by decide) ⟨by rw [h1]; rfl, fun k i hi => rfl, (if_neg (by rw [h1]; decide)).symm⟩
        · rw [h1] at hE
          obtain rfl : E = "java/lang/IllegalStateException" := hE
          refine g_catch C htab [⟨0, 16, 19, 13⟩, ⟨0, 16, 23, 26⟩] [] ⟨0, 16, 27, 28⟩ rfl (fun z hz => by
        simp only [List.mem_cons, List.not_mem_nil, or_false] at hz
        rcases hz with rfl | rfl
        · exact ⟨by decide, "java/lang/IllegalArgumentException", t_252, by simp [ncX]⟩
        · exact ⟨by decide, "java/util/NoSuchElementException", t_693, by simp [ncX]⟩) (by decide) (by decide) t_694 (nst_of n_742) hcell hv hcl ?_
          refine lv_astore (lv' := [(7, _), (0, _), (1, _), (2, _), (3, _), (4, _), (5, _), (6, _)]) hx hb dL_mail_27 hl (by decide) rfl (fun ls hl => ?_)
          refine lv_iconst (v := 3) hx hb dL_mail_29 (by decide) ?_
          exact g_iret C hr hM1 hS1 dL_mail_30 (by decide) (by decide) ⟨by rw [h1]; rfl, fun k i hi => rfl, (if_neg (by rw [h1]; decide)).symm⟩)
      (fun K1 H locs hc0 hKK hM hS => ?_)
  rw [← hKK 39 0 (by omega)]
  refine lv_i2l hx hb dL_mail_14 rfl ?_
  refine g_last C hM hS (by omega) dL_mail_15 (fun H locs hM hS => ?_)
  refine lv_goto (tgt := 31) hx hb dL_mail_16 (by decide) ?_
  refine lv_iconst (v := 0) hx hb dL_mail_31 (by decide) ?_
  exact g_iret C hr hM hS dL_mail_32 (by decide) (by decide) ⟨by rw [hc0]; rfl, hKK, by rw [if_pos hc0]⟩
theorem kL_ticketOf : CeeH yL_ticketOf cL_ticketOf 4 (some .int) [(0, 9, 12, 26)] 3 := ⟨t_878, t_0, t_879, by decide +kernel, by decide⟩
set_option maxHeartbeats 1500000 in
set_option maxRecDepth 100000 in
theorem h_ticketOf {l : Launch} (hfl : l.stackTraces = false) (Γ : Gm) (K : Nat → Nat → Nat) (M : Mem) (x : Int32) (w : Wf M) (h39 : mN M 39 = 1) (h39b : mN (M) 39 = 1) : CT l Γ (gFree Γ) yL_ticketOf (wsH yL_ticketOf cL_ticketOf 4 (some .int) [(0, 9, 12, 26)]) 9 [.ref (K 6 0), .int x, .ref (K 39 0)] K M (HP (rTicketOf M x) (mT M 4 0 (tkM M (ix x))).toInt64 K M (M) (M)) xNo 2 12 := by
  refine ct_introH hfl (by decide) (Nat.le_of_ble_eq_true rfl) ?_
  intro p e s m args below meth c C htab hr hM ls hl
  have hx := C.1
  have hb := C.2.1
  have hS : va_S (gFree Γ) s.heap s.heap [] := va_S.rf
  have hl : lv_has ls 4 [(0, .ref (K 6 0)), (1, .int x), (2, .ref (K 39 0))] := hl
  refine lv_aload_n hx hb dL_ticketOf_0 rfl (lv_at hl 2 rfl) ?_
  refine lv_iconst (v := 0) hx hb dL_ticketOf_1 (by decide) ?_
  refine lv_aload_n hx hb dL_ticketOf_2 rfl (lv_at hl 0 rfl) ?_
  refine lv_iload_n hx hb dL_ticketOf_3 rfl (lv_at hl 1 rfl) ?_
  refine g_cV C hS (fun _ h => h) hM hl (fun _ h => h.elim) (c_ticketOf hfl Γ _ _ x w) kX6_ticketOf t_880 (HM.recv C hM clo_6 (wn6 w)) dL_ticketOf_4 rfl rfl (Nat.le_of_ble_eq_true rfl) (by decide) rfl ⟨by decide, by decide⟩
    (fun E q9 ce H1 locs1 hE hM1 hS1 hcell hv hcl => by
        obtain ⟨hr0, hE⟩ := hE
        have hle : rTicketOf M x ≤ 1 := by unfold rTicketOf; (repeat' split) <;> omega
        have h1 : rTicketOf M x = 1 := by omega
        rw [h1] at hE
        obtain rfl : E = "java/util/NoSuchElementException" := hE
        refine g_catch C htab [] [] ⟨0, 9, 12, 26⟩ rfl (fun z hz => absurd hz (by simp)) (by decide) (by decide) t_693 (nst_of n_708) hcell hv hcl ?_
        refine lv_astore_n (lv' := [(3, _), (0, _), (1, _), (2, _)]) hx hb dL_ticketOf_12 rfl hl (by decide) rfl (fun ls hl => ?_)
        refine lv_iconst (v := 1) hx hb dL_ticketOf_13 (by decide) ?_
        exact g_iret C hr hM1 hS1 dL_ticketOf_14 (by decide) (by decide) ⟨by rw [h1]; rfl, fun k i hi => rfl, (if_neg (by rw [h1]; decide)).symm⟩)
      (fun H locs hc0 hM hS => ?_)
  refine lv_i2l hx hb dL_ticketOf_7 rfl ?_
  refine g_last C hM hS (by omega) dL_ticketOf_8 (fun H locs hM hS => ?_)
  refine lv_goto (tgt := 15) hx hb dL_ticketOf_9 (by decide) ?_
  refine lv_iconst (v := 0) hx hb dL_ticketOf_15 (by decide) ?_
  exact g_iret C hr hM hS dL_ticketOf_16 (by decide) (by decide) ⟨by rw [hc0]; rfl, fun k i hi => rfl, by rw [if_pos hc0]⟩
theorem kL_mailsOf : CeeH yL_mailsOf cL_mailsOf 4 (some .int) [(0, 9, 12, 36)] 3 := ⟨t_886, t_0, t_887, by decide +kernel, by decide⟩
set_option maxHeartbeats 1500000 in
set_option maxRecDepth 100000 in
theorem h_mailsOf {l : Launch} (hfl : l.stackTraces = false) (Γ : Gm) (K : Nat → Nat → Nat) (M : Mem) (x : Int32) (w : Wf M) (h39 : mN M 39 = 1) (h39b : mN (M) 39 = 1) : CT l Γ (gFree Γ) yL_mailsOf (wsH yL_mailsOf cL_mailsOf 4 (some .int) [(0, 9, 12, 36)]) 9 [.ref (K 6 0), .int x, .ref (K 39 0)] K M (HP (rMailsOf M x) (nI (mL M 8 (ix x)).length).toInt64 K M (M) (M)) xNo 2 12 := by
  refine ct_introH hfl (by decide) (Nat.le_of_ble_eq_true rfl) ?_
  intro p e s m args below meth c C htab hr hM ls hl
  have hx := C.1
  have hb := C.2.1
  have hS : va_S (gFree Γ) s.heap s.heap [] := va_S.rf
  have hl : lv_has ls 4 [(0, .ref (K 6 0)), (1, .int x), (2, .ref (K 39 0))] := hl
  refine lv_aload_n hx hb dL_mailsOf_0 rfl (lv_at hl 2 rfl) ?_
  refine lv_iconst (v := 0) hx hb dL_mailsOf_1 (by decide) ?_
  refine lv_aload_n hx hb dL_mailsOf_2 rfl (lv_at hl 0 rfl) ?_
  refine lv_iload_n hx hb dL_mailsOf_3 rfl (lv_at hl 1 rfl) ?_
  refine g_cV C hS (fun _ h => h) hM hl (fun _ h => h.elim) (c_mailsOf hfl Γ _ _ x w) kX6_mailsOf t_904 (HM.recv C hM clo_6 (wn6 w)) dL_mailsOf_4 rfl rfl (Nat.le_of_ble_eq_true rfl) (by decide) rfl ⟨by decide, by decide⟩
    (fun E q9 ce H1 locs1 hE hM1 hS1 hcell hv hcl => by
        obtain ⟨hr0, hE⟩ := hE
        have hle : rMailsOf M x ≤ 1 := by unfold rMailsOf; (repeat' split) <;> omega
        have h1 : rMailsOf M x = 1 := by omega
        rw [h1] at hE
        obtain rfl : E = "java/lang/IndexOutOfBoundsException" := hE
        refine g_catch C htab [] [] ⟨0, 9, 12, 36⟩ rfl (fun z hz => absurd hz (by simp)) (by decide) (by decide) t_888 (nst_of n_379) hcell hv hcl ?_
        refine lv_astore_n (lv' := [(3, _), (0, _), (1, _), (2, _)]) hx hb dL_mailsOf_12 rfl hl (by decide) rfl (fun ls hl => ?_)
        refine lv_iconst (v := 1) hx hb dL_mailsOf_13 (by decide) ?_
        exact g_iret C hr hM1 hS1 dL_mailsOf_14 (by decide) (by decide) ⟨by rw [h1]; rfl, fun k i hi => rfl, (if_neg (by rw [h1]; decide)).symm⟩)
      (fun H locs hc0 hM hS => ?_)
  refine lv_i2l hx hb dL_mailsOf_7 rfl ?_
  refine g_last C hM hS (by omega) dL_mailsOf_8 (fun H locs hM hS => ?_)
  refine lv_goto (tgt := 15) hx hb dL_mailsOf_9 (by decide) ?_
  refine lv_iconst (v := 0) hx hb dL_mailsOf_15 (by decide) ?_
  exact g_iret C hr hM hS dL_mailsOf_16 (by decide) (by decide) ⟨by rw [hc0]; rfl, fun k i hi => rfl, by rw [if_pos hc0]⟩
theorem kL_mailAt : CeeH yL_mailAt cL_mailAt 5 (some .int) [(0, 10, 13, 36), (0, 10, 17, 26)] 4 := ⟨t_916, t_0, t_917, by decide +kernel, by decide⟩
set_option maxHeartbeats 1500000 in
set_option maxRecDepth 100000 in
theorem h_mailAt {l : Launch} (hfl : l.stackTraces = false) (Γ : Gm) (K : Nat → Nat → Nat) (M : Mem) (x : Int32) (y : Int32) (w : Wf M) (h39 : mN M 39 = 1) (h39b : mN (M) 39 = 1) : CT l Γ (gFree Γ) yL_mailAt (wsH yL_mailAt cL_mailAt 5 (some .int) [(0, 10, 13, 36), (0, 10, 17, 26)]) 9 [.ref (K 6 0), .int x, .int y, .ref (K 39 0)] K M (HP (rMailAt M x y) (mT M 2 0 ((mL M 8 (ix x)).getD (ix y) 0)).toInt64 K M (M) (M)) xNo 2 12 := by
  refine ct_introH hfl (by decide) (Nat.le_of_ble_eq_true rfl) ?_
  intro p e s m args below meth c C htab hr hM ls hl
  have hx := C.1
  have hb := C.2.1
  have hS : va_S (gFree Γ) s.heap s.heap [] := va_S.rf
  have hl : lv_has ls 5 [(0, .ref (K 6 0)), (1, .int x), (2, .int y), (3, .ref (K 39 0))] := hl
  refine lv_aload_n hx hb dL_mailAt_0 rfl (lv_at hl 3 rfl) ?_
  refine lv_iconst (v := 0) hx hb dL_mailAt_1 (by decide) ?_
  refine lv_aload_n hx hb dL_mailAt_2 rfl (lv_at hl 0 rfl) ?_
  refine lv_iload_n hx hb dL_mailAt_3 rfl (lv_at hl 1 rfl) ?_
  refine lv_iload_n hx hb dL_mailAt_4 rfl (lv_at hl 2 rfl) ?_
  refine g_cV C hS (fun _ h => h) hM hl (fun _ h => h.elim) (c_mailAt hfl Γ _ _ x y w) kX6_mailAt t_918 (HM.recv C hM clo_6 (wn6 w)) dL_mailAt_5 rfl rfl (Nat.le_of_ble_eq_true rfl) (by decide) rfl ⟨by decide, by decide⟩
    (fun E q9 ce H1 locs1 hE hM1 hS1 hcell hv hcl => by
        obtain ⟨hr0, hE⟩ := hE
        have hle : rMailAt M x y ≤ 2 := by unfold rMailAt; (repeat' split) <;> omega
        rcases (show rMailAt M x y = 1 ∨ rMailAt M x y = 2 by omega) with h1 | h1
        · rw [h1] at hE
          obtain rfl : E = "java/lang/IndexOutOfBoundsException" := hE
          refine g_catch C htab [] [⟨0, 10, 17, 26⟩] ⟨0, 10, 13, 36⟩ rfl (fun z hz => absurd hz (by simp)) (by decide) (by decide) t_888 (nst_of n_379) hcell hv hcl ?_
          refine lv_astore (lv' := [(4, _), (0, _), (1, _), (2, _), (3, _)]) hx hb dL_mailAt_13 hl (by decide) rfl (fun ls hl => ?_)
          refine lv_iconst (v := 1) hx hb dL_mailAt_15 (by decide) ?_
          exact g_iret C hr hM1 hS1 dL_mailAt_16 (by decide) (by decide) ⟨by rw [h1]; rfl, fun k i hi => rfl, (if_neg (by rw [h1]; decide)).symm⟩
        · rw [h1] at hE
          obtain rfl : E = "java/util/NoSuchElementException" := hE
          refine g_catch C htab [⟨0, 10, 13, 36⟩] [] ⟨0, 10, 17, 26⟩ rfl (fun z hz => by
        simp only [List.mem_cons, List.not_mem_nil, or_false] at hz
        subst hz
        exact ⟨by decide, "java/lang/IndexOutOfBoundsException", t_888, by simp [ncX]⟩) (by decide) (by decide) t_693 (nst_of n_708) hcell hv hcl ?_
          refine lv_astore (lv' := [(4, _), (0, _), (1, _), (2, _), (3, _)]) hx hb dL_mailAt_17 hl (by decide) rfl (fun ls hl => ?_)
          refine lv_iconst (v := 2) hx hb dL_mailAt_19 (by decide) ?_
          exact g_iret C hr hM1 hS1 dL_mailAt_20 (by decide) (by decide) ⟨by rw [h1]; rfl, fun k i hi => rfl, (if_neg (by rw [h1]; decide)).symm⟩)
      (fun H locs hc0 hM hS => ?_)
  refine lv_i2l hx hb dL_mailAt_8 rfl ?_
  refine g_last C hM hS (by omega) dL_mailAt_9 (fun H locs hM hS => ?_)
  refine lv_goto (tgt := 21) hx hb dL_mailAt_10 (by decide) ?_
  refine lv_iconst (v := 0) hx hb dL_mailAt_21 (by decide) ?_
  exact g_iret C hr hM hS dL_mailAt_22 (by decide) (by decide) ⟨by rw [hc0]; rfl, fun k i hi => rfl, by rw [if_pos hc0]⟩
theorem kL_stateOf : CeeH yL_stateOf cL_stateOf 4 (some .int) [(0, 9, 12, 36)] 3 := ⟨t_924, t_0, t_925, by decide +kernel, by decide⟩
set_option maxHeartbeats 1500000 in
set_option maxRecDepth 100000 in
theorem h_stateOf {l : Launch} (hfl : l.stackTraces = false) (Γ : Gm) (K : Nat → Nat → Nat) (M : Mem) (x : Int32) (w : Wf M) (hst : narrow .char (.int (stM M (ix x))) = .int (stM M (ix x))) (h39 : mN M 39 = 1) (h39b : mN (M) 39 = 1) : CT l Γ (gFree Γ) yL_stateOf (wsH yL_stateOf cL_stateOf 4 (some .int) [(0, 9, 12, 36)]) 9 [.ref (K 6 0), .int x, .ref (K 39 0)] K M (HP (rStateOf M x) (stM M (ix x)).toInt64 K M (M) (M)) xNo 2 12 := by
  refine ct_introH hfl (by decide) (Nat.le_of_ble_eq_true rfl) ?_
  intro p e s m args below meth c C htab hr hM ls hl
  have hx := C.1
  have hb := C.2.1
  have hS : va_S (gFree Γ) s.heap s.heap [] := va_S.rf
  have hl : lv_has ls 4 [(0, .ref (K 6 0)), (1, .int x), (2, .ref (K 39 0))] := hl
  refine lv_aload_n hx hb dL_stateOf_0 rfl (lv_at hl 2 rfl) ?_
  refine lv_iconst (v := 0) hx hb dL_stateOf_1 (by decide) ?_
  refine lv_aload_n hx hb dL_stateOf_2 rfl (lv_at hl 0 rfl) ?_
  refine lv_iload_n hx hb dL_stateOf_3 rfl (lv_at hl 1 rfl) ?_
  refine g_cV C hS (fun _ h => h) hM hl (fun _ h => h.elim) (c_stateOf hfl Γ _ _ x w hst) kX6_stateOf t_926 (HM.recv C hM clo_6 (wn6 w)) dL_stateOf_4 rfl rfl (Nat.le_of_ble_eq_true rfl) (by decide) rfl ⟨by decide, by decide⟩
    (fun E q9 ce H1 locs1 hE hM1 hS1 hcell hv hcl => by
        obtain ⟨hr0, hE⟩ := hE
        have hle : rStateOf M x ≤ 1 := by unfold rStateOf; (repeat' split) <;> omega
        have h1 : rStateOf M x = 1 := by omega
        rw [h1] at hE
        obtain rfl : E = "java/lang/IndexOutOfBoundsException" := hE
        refine g_catch C htab [] [] ⟨0, 9, 12, 36⟩ rfl (fun z hz => absurd hz (by simp)) (by decide) (by decide) t_888 (nst_of n_379) hcell hv hcl ?_
        refine lv_astore_n (lv' := [(3, _), (0, _), (1, _), (2, _)]) hx hb dL_stateOf_12 rfl hl (by decide) rfl (fun ls hl => ?_)
        refine lv_iconst (v := 1) hx hb dL_stateOf_13 (by decide) ?_
        exact g_iret C hr hM1 hS1 dL_stateOf_14 (by decide) (by decide) ⟨by rw [h1]; rfl, fun k i hi => rfl, (if_neg (by rw [h1]; decide)).symm⟩)
      (fun H locs hc0 hM hS => ?_)
  refine lv_i2l hx hb dL_stateOf_7 rfl ?_
  refine g_last C hM hS (by omega) dL_stateOf_8 (fun H locs hM hS => ?_)
  refine lv_goto (tgt := 15) hx hb dL_stateOf_9 (by decide) ?_
  refine lv_iconst (v := 0) hx hb dL_stateOf_15 (by decide) ?_
  exact g_iret C hr hM hS dL_stateOf_16 (by decide) (by decide) ⟨by rw [hc0]; rfl, fun k i hi => rfl, by rw [if_pos hc0]⟩
theorem kL_mergedInto : CeeH yL_mergedInto cL_mergedInto 4 (some .int) [(0, 9, 12, 36), (0, 9, 15, 26)] 3 := ⟨t_931, t_0, t_932, by decide +kernel, by decide⟩
set_option maxHeartbeats 1500000 in
set_option maxRecDepth 100000 in
theorem h_mergedInto {l : Launch} (hfl : l.stackTraces = false) (Γ : Gm) (K : Nat → Nat → Nat) (M : Mem) (x : Int32) (w : Wf M) (rk : Nat → Nat) (hrk : ∀ t u, mP M 4 13 t = some u → rk u < rk t) (h39 : mN M 39 = 1) (h39b : mN (M) 39 = 1) : CT l Γ (gFree Γ) yL_mergedInto (wsH yL_mergedInto cL_mergedInto 4 (some .int) [(0, 9, 12, 36), (0, 9, 15, 26)]) 9 [.ref (K 6 0), .int x, .ref (K 39 0)] K M (HP (rMergedInto M x) (mT M 4 0 (rtM M (rk (ix x)) (ix x))).toInt64 K M (M) (M)) xNo 2 12 := by
  refine ct_introH hfl (by decide) (Nat.le_of_ble_eq_true rfl) ?_
  intro p e s m args below meth c C htab hr hM ls hl
  have hx := C.1
  have hb := C.2.1
  have hS : va_S (gFree Γ) s.heap s.heap [] := va_S.rf
  have hl : lv_has ls 4 [(0, .ref (K 6 0)), (1, .int x), (2, .ref (K 39 0))] := hl
  refine lv_aload_n hx hb dL_mergedInto_0 rfl (lv_at hl 2 rfl) ?_
  refine lv_iconst (v := 0) hx hb dL_mergedInto_1 (by decide) ?_
  refine lv_aload_n hx hb dL_mergedInto_2 rfl (lv_at hl 0 rfl) ?_
  refine lv_iload_n hx hb dL_mergedInto_3 rfl (lv_at hl 1 rfl) ?_
  refine g_cV C hS (fun _ h => h) hM hl (fun _ h => h.elim) (c_mergedInto hfl Γ _ _ x w rk hrk) kX6_mergedInto t_933 (HM.recv C hM clo_6 (wn6 w)) dL_mergedInto_4 rfl rfl (Nat.le_of_ble_eq_true rfl) (by decide) rfl ⟨by decide, by decide⟩
    (fun E q9 ce H1 locs1 hE hM1 hS1 hcell hv hcl => by
        obtain ⟨hr0, hE⟩ := hE
        have hle : rMergedInto M x ≤ 2 := by unfold rMergedInto; (repeat' split) <;> omega
        rcases (show rMergedInto M x = 1 ∨ rMergedInto M x = 2 by omega) with h1 | h1
        · rw [h1] at hE
          obtain rfl : E = "java/lang/IndexOutOfBoundsException" := hE
          refine g_catch C htab [] [⟨0, 9, 15, 26⟩] ⟨0, 9, 12, 36⟩ rfl (fun z hz => absurd hz (by simp)) (by decide) (by decide) t_888 (nst_of n_379) hcell hv hcl ?_
          refine lv_astore_n (lv' := [(3, _), (0, _), (1, _), (2, _)]) hx hb dL_mergedInto_12 rfl hl (by decide) rfl (fun ls hl => ?_)
          refine lv_iconst (v := 1) hx hb dL_mergedInto_13 (by decide) ?_
          exact g_iret C hr hM1 hS1 dL_mergedInto_14 (by decide) (by decide) ⟨by rw [h1]; rfl, fun k i hi => rfl, (if_neg (by rw [h1]; decide)).symm⟩
        · rw [h1] at hE
          obtain rfl : E = "java/util/NoSuchElementException" := hE
          refine g_catch C htab [⟨0, 9, 12, 36⟩] [] ⟨0, 9, 15, 26⟩ rfl (fun z hz => by
        simp only [List.mem_cons, List.not_mem_nil, or_false] at hz
        subst hz
        exact ⟨by decide, "java/lang/IndexOutOfBoundsException", t_888, by simp [ncX]⟩) (by decide) (by decide) t_693 (nst_of n_708) hcell hv hcl ?_
          refine lv_astore_n (lv' := [(3, _), (0, _), (1, _), (2, _)]) hx hb dL_mergedInto_15 rfl hl (by decide) rfl (fun ls hl => ?_)
          refine lv_iconst (v := 2) hx hb dL_mergedInto_16 (by decide) ?_
          exact g_iret C hr hM1 hS1 dL_mergedInto_17 (by decide) (by decide) ⟨by rw [h1]; rfl, fun k i hi => rfl, (if_neg (by rw [h1]; decide)).symm⟩)
      (fun H locs hc0 hM hS => ?_)
  refine lv_i2l hx hb dL_mergedInto_7 rfl ?_
  refine g_last C hM hS (by omega) dL_mergedInto_8 (fun H locs hM hS => ?_)
  refine lv_goto (tgt := 18) hx hb dL_mergedInto_9 (by decide) ?_
  refine lv_iconst (v := 0) hx hb dL_mergedInto_18 (by decide) ?_
  exact g_iret C hr hM hS dL_mergedInto_19 (by decide) (by decide) ⟨by rw [hc0]; rfl, fun k i hi => rfl, by rw [if_pos hc0]⟩
theorem kL_setTopic : CeeH yL_setTopic cL_setTopic 5 (some .int) [(0, 10, 13, 36), (0, 10, 17, 13), (0, 10, 21, 28)] 4 := ⟨t_939, t_0, t_940, by decide +kernel, by decide⟩
set_option maxHeartbeats 1500000 in
set_option maxRecDepth 100000 in
theorem h_setTopic {l : Launch} (hfl : l.stackTraces = false) (Γ : Gm) (K : Nat → Nat → Nat) (M : Mem) (x : Int32) (y : Int32) (w : Wf M) (h39 : mN M 39 = 1) (h39b : mN (stopM M (ix x) y) 39 = 1) : CT l Γ (gFree Γ) yL_setTopic (wsH yL_setTopic cL_setTopic 5 (some .int) [(0, 10, 13, 36), (0, 10, 17, 13), (0, 10, 21, 28)]) 11 [.ref (K 6 0), .int x, .int y, .ref (K 39 0)] K M (HP (rSetTopic M x y) (mT M 4 4 (ix x)).toInt64 K M (stopM M (ix x) y) (M)) xNo 3 140 := by
  refine ct_introH hfl (by decide) (Nat.le_of_ble_eq_true rfl) ?_
  intro p e s m args below meth c C htab hr hM ls hl
  have hx := C.1
  have hb := C.2.1
  have hS : va_S (gFree Γ) s.heap s.heap [] := va_S.rf
  have hl : lv_has ls 5 [(0, .ref (K 6 0)), (1, .int x), (2, .int y), (3, .ref (K 39 0))] := hl
  refine lv_aload_n hx hb dL_setTopic_0 rfl (lv_at hl 3 rfl) ?_
  refine lv_iconst (v := 0) hx hb dL_setTopic_1 (by decide) ?_
  refine lv_aload_n hx hb dL_setTopic_2 rfl (lv_at hl 0 rfl) ?_
  refine lv_iload_n hx hb dL_setTopic_3 rfl (lv_at hl 1 rfl) ?_
  refine lv_iload_n hx hb dL_setTopic_4 rfl (lv_at hl 2 rfl) ?_
  refine g_cV C hS (fun _ h => h) hM hl (fun _ h => h) (c_setTopic hfl Γ _ _ x y w) kX6_setTopic t_941 (HM.recv C hM clo_6 (wn6 w)) dL_setTopic_5 rfl rfl (Nat.le_of_ble_eq_true rfl) (by decide) rfl ⟨by decide, by decide⟩
    (fun E q9 ce H1 locs1 hE hM1 hS1 hcell hv hcl => by
        obtain ⟨hr0, hE⟩ := hE
        have hle : rSetTopic M x y ≤ 3 := by unfold rSetTopic; (repeat' split) <;> omega
        rcases (show rSetTopic M x y = 1 ∨ rSetTopic M x y = 2 ∨ rSetTopic M x y = 3 by omega) with h1 | h1 | h1
        · rw [h1] at hE
          obtain rfl : E = "java/lang/IndexOutOfBoundsException" := hE
          refine g_catch C htab [] [⟨0, 10, 17, 13⟩, ⟨0, 10, 21, 28⟩] ⟨0, 10, 13, 36⟩ rfl (fun z hz => absurd hz (by simp)) (by decide) (by decide) t_888 (nst_of n_379) hcell hv hcl ?_
          refine lv_astore (lv' := [(4, _), (0, _), (1, _), (2, _), (3, _)]) hx hb dL_setTopic_13 hl (by decide) rfl (fun ls hl => ?_)
          refine lv_iconst (v := 1) hx hb dL_setTopic_15 (by decide) ?_
          exact g_iret C hr hM1 hS1 dL_setTopic_16 (by decide) (by decide) ⟨by rw [h1]; rfl, fun k i hi => rfl, (if_neg (by rw [h1]; decide)).symm⟩
        · rw [h1] at hE
          obtain rfl : E = "java/lang/IllegalArgumentException" := hE
          refine g_catch C htab [⟨0, 10, 13, 36⟩] [⟨0, 10, 21, 28⟩] ⟨0, 10, 17, 13⟩ rfl (fun z hz => by
        simp only [List.mem_cons, List.not_mem_nil, or_false] at hz
        subst hz
        exact ⟨by decide, "java/lang/IndexOutOfBoundsException", t_888, by simp [ncX]⟩) (by decide) (by decide) t_252 (nst_of n_262) hcell hv hcl ?_
          refine lv_astore (lv' := [(4, _), (0, _), (1, _), (2, _), (3, _)]) hx hb dL_setTopic_17 hl (by decide) rfl (fun ls hl => ?_)
          refine lv_iconst (v := 2) hx hb dL_setTopic_19 (by decide) ?_
          exact g_iret C hr hM1 hS1 dL_setTopic_20 (by decide) (by decide) ⟨by rw [h1]; rfl, fun k i hi => rfl, (if_neg (by rw [h1]; decide)).symm⟩
        · rw [h1] at hE
          obtain rfl : E = "java/lang/IllegalStateException" := hE
          refine g_catch C htab [⟨0, 10, 13, 36⟩, ⟨0, 10, 17, 13⟩] [] ⟨0, 10, 21, 28⟩ rfl (fun z hz => by
        simp only [List.mem_cons, List.not_mem_nil, or_false] at hz
        rcases hz with rfl | rfl
        · exact ⟨by decide, "java/lang/IndexOutOfBoundsException", t_888, by simp [ncX]⟩
        · exact ⟨by decide, "java/lang/IllegalArgumentException", t_252, by simp [ncX]⟩) (by decide) (by decide) t_694 (nst_of n_742) hcell hv hcl ?_
          refine lv_astore (lv' := [(4, _), (0, _), (1, _), (2, _), (3, _)]) hx hb dL_setTopic_21 hl (by decide) rfl (fun ls hl => ?_)
          refine lv_iconst (v := 3) hx hb dL_setTopic_23 (by decide) ?_
          exact g_iret C hr hM1 hS1 dL_setTopic_24 (by decide) (by decide) ⟨by rw [h1]; rfl, fun k i hi => rfl, (if_neg (by rw [h1]; decide)).symm⟩)
      (fun H locs hc0 hM hS => ?_)
  refine lv_i2l hx hb dL_setTopic_8 rfl ?_
  refine g_last C hM hS (by omega) dL_setTopic_9 (fun H locs hM hS => ?_)
  refine lv_goto (tgt := 25) hx hb dL_setTopic_10 (by decide) ?_
  refine lv_iconst (v := 0) hx hb dL_setTopic_25 (by decide) ?_
  exact g_iret C hr hM hS dL_setTopic_26 (by decide) (by decide) ⟨by rw [hc0]; rfl, fun k i hi => rfl, by rw [if_pos hc0]⟩
theorem kL_clock : CeeH yL_clock cL_clock 4 (some .int) [(0, 9, 12, 36), (0, 9, 15, 28)] 3 := ⟨t_960, t_0, t_961, by decide +kernel, by decide⟩
set_option maxHeartbeats 1500000 in
set_option maxRecDepth 100000 in
theorem h_clock {l : Launch} (hfl : l.stackTraces = false) (Γ : Gm) (K : Nat → Nat → Nat) (M : Mem) (x : Int32) (w : Wf M) (h39 : mN M 39 = 1) (h39b : mN (M) 39 = 1) : CT l Γ (gFree Γ) yL_clock (wsH yL_clock cL_clock 4 (some .int) [(0, 9, 12, 36), (0, 9, 15, 28)]) 9 [.ref (K 6 0), .int x, .ref (K 39 0)] K M (HP (rClock M x) (mT M 4 7 (ix x)).toInt64 K M (M) (M)) xNo 2 12 := by
  refine ct_introH hfl (by decide) (Nat.le_of_ble_eq_true rfl) ?_
  intro p e s m args below meth c C htab hr hM ls hl
  have hx := C.1
  have hb := C.2.1
  have hS : va_S (gFree Γ) s.heap s.heap [] := va_S.rf
  have hl : lv_has ls 4 [(0, .ref (K 6 0)), (1, .int x), (2, .ref (K 39 0))] := hl
  refine lv_aload_n hx hb dL_clock_0 rfl (lv_at hl 2 rfl) ?_
  refine lv_iconst (v := 0) hx hb dL_clock_1 (by decide) ?_
  refine lv_aload_n hx hb dL_clock_2 rfl (lv_at hl 0 rfl) ?_
  refine lv_iload_n hx hb dL_clock_3 rfl (lv_at hl 1 rfl) ?_
  refine g_cV C hS (fun _ h => h) hM hl (fun _ h => h.elim) (c_clock hfl Γ _ _ x w) kX6_clock t_962 (HM.recv C hM clo_6 (wn6 w)) dL_clock_4 rfl rfl (Nat.le_of_ble_eq_true rfl) (by decide) rfl ⟨by decide, by decide⟩
    (fun E q9 ce H1 locs1 hE hM1 hS1 hcell hv hcl => by
        obtain ⟨hr0, hE⟩ := hE
        have hle : rClock M x ≤ 2 := by unfold rClock; (repeat' split) <;> omega
        rcases (show rClock M x = 1 ∨ rClock M x = 2 by omega) with h1 | h1
        · rw [h1] at hE
          obtain rfl : E = "java/lang/IndexOutOfBoundsException" := hE
          refine g_catch C htab [] [⟨0, 9, 15, 28⟩] ⟨0, 9, 12, 36⟩ rfl (fun z hz => absurd hz (by simp)) (by decide) (by decide) t_888 (nst_of n_379) hcell hv hcl ?_
          refine lv_astore_n (lv' := [(3, _), (0, _), (1, _), (2, _)]) hx hb dL_clock_12 rfl hl (by decide) rfl (fun ls hl => ?_)
          refine lv_iconst (v := 1) hx hb dL_clock_13 (by decide) ?_
          exact g_iret C hr hM1 hS1 dL_clock_14 (by decide) (by decide) ⟨by rw [h1]; rfl, fun k i hi => rfl, (if_neg (by rw [h1]; decide)).symm⟩
        · rw [h1] at hE
          obtain rfl : E = "java/lang/IllegalStateException" := hE
          refine g_catch C htab [⟨0, 9, 12, 36⟩] [] ⟨0, 9, 15, 28⟩ rfl (fun z hz => by
        simp only [List.mem_cons, List.not_mem_nil, or_false] at hz
        subst hz
        exact ⟨by decide, "java/lang/IndexOutOfBoundsException", t_888, by simp [ncX]⟩) (by decide) (by decide) t_694 (nst_of n_742) hcell hv hcl ?_
          refine lv_astore_n (lv' := [(3, _), (0, _), (1, _), (2, _)]) hx hb dL_clock_15 rfl hl (by decide) rfl (fun ls hl => ?_)
          refine lv_iconst (v := 2) hx hb dL_clock_16 (by decide) ?_
          exact g_iret C hr hM1 hS1 dL_clock_17 (by decide) (by decide) ⟨by rw [h1]; rfl, fun k i hi => rfl, (if_neg (by rw [h1]; decide)).symm⟩)
      (fun H locs hc0 hM hS => ?_)
  refine lv_i2l hx hb dL_clock_7 rfl ?_
  refine g_last C hM hS (by omega) dL_clock_8 (fun H locs hM hS => ?_)
  refine lv_goto (tgt := 18) hx hb dL_clock_9 (by decide) ?_
  refine lv_iconst (v := 0) hx hb dL_clock_18 (by decide) ?_
  exact g_iret C hr hM hS dL_clock_19 (by decide) (by decide) ⟨by rw [hc0]; rfl, fun k i hi => rfl, by rw [if_pos hc0]⟩
theorem kL_leftOf : CeeH yL_leftOf cL_leftOf 4 (some .int) [(0, 9, 12, 36), (0, 9, 15, 28)] 3 := ⟨t_967, t_0, t_968, by decide +kernel, by decide⟩
set_option maxHeartbeats 1500000 in
set_option maxRecDepth 100000 in
theorem h_leftOf {l : Launch} (hfl : l.stackTraces = false) (Γ : Gm) (K : Nat → Nat → Nat) (M : Mem) (x : Int32) (w : Wf M) (h39 : mN M 39 = 1) (h39b : mN (M) 39 = 1) : CT l Γ (gFree Γ) yL_leftOf (wsH yL_leftOf cL_leftOf 4 (some .int) [(0, 9, 12, 36), (0, 9, 15, 28)]) 9 [.ref (K 6 0), .int x, .ref (K 39 0)] K M (HP (rLeftOf M x) (leftM M (ix x)).toInt64 K M (M) (M)) xNo 2 12 := by
  refine ct_introH hfl (by decide) (Nat.le_of_ble_eq_true rfl) ?_
  intro p e s m args below meth c C htab hr hM ls hl
  have hx := C.1
  have hb := C.2.1
  have hS : va_S (gFree Γ) s.heap s.heap [] := va_S.rf
  have hl : lv_has ls 4 [(0, .ref (K 6 0)), (1, .int x), (2, .ref (K 39 0))] := hl
  refine lv_aload_n hx hb dL_leftOf_0 rfl (lv_at hl 2 rfl) ?_
  refine lv_iconst (v := 0) hx hb dL_leftOf_1 (by decide) ?_
  refine lv_aload_n hx hb dL_leftOf_2 rfl (lv_at hl 0 rfl) ?_
  refine lv_iload_n hx hb dL_leftOf_3 rfl (lv_at hl 1 rfl) ?_
  refine g_cV C hS (fun _ h => h) hM hl (fun _ h => h.elim) (c_leftOf hfl Γ _ _ x w) kX6_leftOf t_969 (HM.recv C hM clo_6 (wn6 w)) dL_leftOf_4 rfl rfl (Nat.le_of_ble_eq_true rfl) (by decide) rfl ⟨by decide, by decide⟩
    (fun E q9 ce H1 locs1 hE hM1 hS1 hcell hv hcl => by
        obtain ⟨hr0, hE⟩ := hE
        have hle : rLeftOf M x ≤ 2 := by unfold rLeftOf; (repeat' split) <;> omega
        rcases (show rLeftOf M x = 1 ∨ rLeftOf M x = 2 by omega) with h1 | h1
        · rw [h1] at hE
          obtain rfl : E = "java/lang/IndexOutOfBoundsException" := hE
          refine g_catch C htab [] [⟨0, 9, 15, 28⟩] ⟨0, 9, 12, 36⟩ rfl (fun z hz => absurd hz (by simp)) (by decide) (by decide) t_888 (nst_of n_379) hcell hv hcl ?_
          refine lv_astore_n (lv' := [(3, _), (0, _), (1, _), (2, _)]) hx hb dL_leftOf_12 rfl hl (by decide) rfl (fun ls hl => ?_)
          refine lv_iconst (v := 1) hx hb dL_leftOf_13 (by decide) ?_
          exact g_iret C hr hM1 hS1 dL_leftOf_14 (by decide) (by decide) ⟨by rw [h1]; rfl, fun k i hi => rfl, (if_neg (by rw [h1]; decide)).symm⟩
        · rw [h1] at hE
          obtain rfl : E = "java/lang/IllegalStateException" := hE
          refine g_catch C htab [⟨0, 9, 12, 36⟩] [] ⟨0, 9, 15, 28⟩ rfl (fun z hz => by
        simp only [List.mem_cons, List.not_mem_nil, or_false] at hz
        subst hz
        exact ⟨by decide, "java/lang/IndexOutOfBoundsException", t_888, by simp [ncX]⟩) (by decide) (by decide) t_694 (nst_of n_742) hcell hv hcl ?_
          refine lv_astore_n (lv' := [(3, _), (0, _), (1, _), (2, _)]) hx hb dL_leftOf_15 rfl hl (by decide) rfl (fun ls hl => ?_)
          refine lv_iconst (v := 2) hx hb dL_leftOf_16 (by decide) ?_
          exact g_iret C hr hM1 hS1 dL_leftOf_17 (by decide) (by decide) ⟨by rw [h1]; rfl, fun k i hi => rfl, (if_neg (by rw [h1]; decide)).symm⟩)
      (fun H locs hc0 hM hS => ?_)
  refine lv_i2l hx hb dL_leftOf_7 rfl ?_
  refine g_last C hM hS (by omega) dL_leftOf_8 (fun H locs hM hS => ?_)
  refine lv_goto (tgt := 18) hx hb dL_leftOf_9 (by decide) ?_
  refine lv_iconst (v := 0) hx hb dL_leftOf_18 (by decide) ?_
  exact g_iret C hr hM hS dL_leftOf_19 (by decide) (by decide) ⟨by rw [hc0]; rfl, fun k i hi => rfl, by rw [if_pos hc0]⟩
theorem kL_isBreached : CeeH yL_isBreached cL_isBreached 4 (some .int) [(0, 16, 19, 36)] 3 := ⟨t_975, t_0, t_976, by decide +kernel, by decide⟩
set_option maxHeartbeats 1500000 in
set_option maxRecDepth 100000 in
theorem h_isBreached {l : Launch} (hfl : l.stackTraces = false) (Γ : Gm) (K : Nat → Nat → Nat) (M : Mem) (x : Int32) (w : Wf M) (h39 : mN M 39 = 1) (h39b : mN (M) 39 = 1) : CT l Γ (gFree Γ) yL_isBreached (wsH yL_isBreached cL_isBreached 4 (some .int) [(0, 16, 19, 36)]) 9 [.ref (K 6 0), .int x, .ref (K 39 0)] K M (HP (rIsBreached M x) (if (ohM M (ix x) && !decide (mT M 4 8 (ix x) = 0)) = true then 1 else 0) K M (M) (M)) xNo 2 12 := by
  refine ct_introH hfl (by decide) (Nat.le_of_ble_eq_true rfl) ?_
  intro p e s m args below meth c C htab hr hM ls hl
  have hx := C.1
  have hb := C.2.1
  have hS : va_S (gFree Γ) s.heap s.heap [] := va_S.rf
  have hl : lv_has ls 4 [(0, .ref (K 6 0)), (1, .int x), (2, .ref (K 39 0))] := hl
  refine lv_aload_n hx hb dL_isBreached_0 rfl (lv_at hl 2 rfl) ?_
  refine lv_iconst (v := 0) hx hb dL_isBreached_1 (by decide) ?_
  refine lv_aload_n hx hb dL_isBreached_2 rfl (lv_at hl 0 rfl) ?_
  refine lv_iload_n hx hb dL_isBreached_3 rfl (lv_at hl 1 rfl) ?_
  refine g_cV C hS (fun _ h => h) hM hl (fun _ h => h.elim) (c_isBreached hfl Γ _ _ x w) kX6_isBreached t_977 (HM.recv C hM clo_6 (wn6 w)) dL_isBreached_4 rfl rfl (Nat.le_of_ble_eq_true rfl) (by decide) rfl ⟨by decide, by decide⟩
    (fun E q9 ce H1 locs1 hE hM1 hS1 hcell hv hcl => by
        obtain ⟨hr0, hE⟩ := hE
        have hle : rIsBreached M x ≤ 1 := by unfold rIsBreached; (repeat' split) <;> omega
        have h1 : rIsBreached M x = 1 := by omega
        rw [h1] at hE
        obtain rfl : E = "java/lang/IndexOutOfBoundsException" := hE
        refine g_catch C htab [] [] ⟨0, 16, 19, 36⟩ rfl (fun z hz => absurd hz (by simp)) (by decide) (by decide) t_888 (nst_of n_379) hcell hv hcl ?_
        refine lv_astore_n (lv' := [(3, _), (0, _), (1, _), (2, _)]) hx hb dL_isBreached_19 rfl hl (by decide) rfl (fun ls hl => ?_)
        refine lv_iconst (v := 1) hx hb dL_isBreached_20 (by decide) ?_
        exact g_iret C hr hM1 hS1 dL_isBreached_21 (by decide) (by decide) ⟨by rw [h1]; rfl, fun k i hi => rfl, (if_neg (by rw [h1]; decide)).symm⟩)
      (fun H locs hc0 hM hS => ?_)
  refine g_ifeqB (tgt := 14) hx hb dL_isBreached_7 (by decide) (fun c9 => ?_) (fun c9 => ?_)
  · refine lv_lconst (v := 0) hx hb dL_isBreached_14 (by decide) ?_
    refine g_last C hM hS (by omega) dL_isBreached_15 (fun H locs hM hS => ?_)
    refine lv_goto (tgt := 22) hx hb dL_isBreached_16 (by decide) ?_
    refine lv_iconst (v := 0) hx hb dL_isBreached_22 (by decide) ?_
    exact g_iret C hr hM hS dL_isBreached_23 (by decide) (by decide) ⟨by rw [hc0]; rfl, fun k i hi => rfl, by rw [if_pos hc0, if_neg (by rw [c9]; decide)]⟩
  · refine lv_lconst (v := 1) hx hb dL_isBreached_10 (by decide) ?_
    refine lv_goto (tgt := 15) hx hb dL_isBreached_11 (by decide) ?_
    refine g_last C hM hS (by omega) dL_isBreached_15 (fun H locs hM hS => ?_)
    refine lv_goto (tgt := 22) hx hb dL_isBreached_16 (by decide) ?_
    refine lv_iconst (v := 0) hx hb dL_isBreached_22 (by decide) ?_
    exact g_iret C hr hM hS dL_isBreached_23 (by decide) (by decide) ⟨by rw [hc0]; rfl, fun k i hi => rfl, by rw [if_pos hc0, if_pos c9]⟩
theorem kL_addAgent : CeeH yL_addAgent cL_addAgent 4 (some .int) [(0, 9, 12, 13), (0, 9, 15, 28)] 3 := ⟨t_982, t_0, t_983, by decide +kernel, by decide⟩
set_option maxHeartbeats 1500000 in
set_option maxRecDepth 100000 in
theorem h_addAgent {l : Launch} (hfl : l.stackTraces = false) (Γ : Gm) (K : Nat → Nat → Nat) (M : Mem) (x : Int32) (w : Wf M) (vp : VP M) (h39 : mN M 39 = 1) (h39b : mN (agM M x) 39 = 1) : CT l Γ (gFree Γ) yL_addAgent (wsH yL_addAgent cL_addAgent 4 (some .int) [(0, 9, 12, 13), (0, 9, 15, 28)]) 9 [.ref (K 6 0), .int x, .ref (K 39 0)] K M (HP (rAddAgent M x) (nI (mN M 0 + 1) - 1).toInt64 K M (agM M x) (M)) xNo 3 140 := by
  refine ct_introH hfl (by decide) (Nat.le_of_ble_eq_true rfl) ?_
  intro p e s m args below meth c C htab hr hM ls hl
  have hx := C.1
  have hb := C.2.1
  have hS : va_S (gFree Γ) s.heap s.heap [] := va_S.rf
  have hl : lv_has ls 4 [(0, .ref (K 6 0)), (1, .int x), (2, .ref (K 39 0))] := hl
  refine lv_aload_n hx hb dL_addAgent_0 rfl (lv_at hl 2 rfl) ?_
  refine lv_iconst (v := 0) hx hb dL_addAgent_1 (by decide) ?_
  refine lv_aload_n hx hb dL_addAgent_2 rfl (lv_at hl 0 rfl) ?_
  refine lv_iload_n hx hb dL_addAgent_3 rfl (lv_at hl 1 rfl) ?_
  refine g_cVK C hS (fun _ h => h) hM hl (fun _ h => h) (c_addAgent hfl Γ _ _ x w vp) kX6_addAgent t_984 (HM.recv C hM clo_6 (wn6 w)) dL_addAgent_4 rfl rfl (Nat.le_of_ble_eq_true rfl) (by decide) rfl ⟨by decide, by decide⟩
    (fun E q9 ce H1 locs1 hE hM1 hS1 hcell hv hcl => by
        obtain ⟨hr0, hE⟩ := hE
        have hle : rAddAgent M x ≤ 2 := by unfold rAddAgent; (repeat' split) <;> omega
        rcases (show rAddAgent M x = 1 ∨ rAddAgent M x = 2 by omega) with h1 | h1
        · rw [h1] at hE
          obtain rfl : E = "java/lang/IllegalArgumentException" := hE
          refine g_catch C htab [] [⟨0, 9, 15, 28⟩] ⟨0, 9, 12, 13⟩ rfl (fun z hz => absurd hz (by simp)) (by decide) (by decide) t_252 (nst_of n_262) hcell hv hcl ?_
          refine lv_astore_n (lv' := [(3, _), (0, _), (1, _), (2, _)]) hx hb dL_addAgent_12 rfl hl (by decide) rfl (fun ls hl => ?_)
          refine lv_iconst (v := 1) hx hb dL_addAgent_13 (by decide) ?_
          exact g_iret C hr hM1 hS1 dL_addAgent_14 (by decide) (by decide) ⟨by rw [h1]; rfl, fun k i hi => rfl, (if_neg (by rw [h1]; decide)).symm⟩
        · rw [h1] at hE
          obtain rfl : E = "java/lang/IllegalStateException" := hE
          refine g_catch C htab [⟨0, 9, 12, 13⟩] [] ⟨0, 9, 15, 28⟩ rfl (fun z hz => by
        simp only [List.mem_cons, List.not_mem_nil, or_false] at hz
        subst hz
        exact ⟨by decide, "java/lang/IllegalArgumentException", t_252, by simp [ncX]⟩) (by decide) (by decide) t_694 (nst_of n_742) hcell hv hcl ?_
          refine lv_astore_n (lv' := [(3, _), (0, _), (1, _), (2, _)]) hx hb dL_addAgent_15 rfl hl (by decide) rfl (fun ls hl => ?_)
          refine lv_iconst (v := 2) hx hb dL_addAgent_16 (by decide) ?_
          exact g_iret C hr hM1 hS1 dL_addAgent_17 (by decide) (by decide) ⟨by rw [h1]; rfl, fun k i hi => rfl, (if_neg (by rw [h1]; decide)).symm⟩)
      (fun K1 H locs hc0 hKK hM hS => ?_)
  rw [← hKK 39 0 (by omega)]
  refine lv_i2l hx hb dL_addAgent_7 rfl ?_
  refine g_last C hM hS (by omega) dL_addAgent_8 (fun H locs hM hS => ?_)
  refine lv_goto (tgt := 18) hx hb dL_addAgent_9 (by decide) ?_
  refine lv_iconst (v := 0) hx hb dL_addAgent_18 (by decide) ?_
  exact g_iret C hr hM hS dL_addAgent_19 (by decide) (by decide) ⟨by rw [hc0]; rfl, hKK, by rw [if_pos hc0]⟩
theorem kL_learn : CeeH yL_learn cL_learn 5 (some .int) [(0, 10, 13, 36), (0, 10, 17, 13), (0, 10, 21, 67)] 4 := ⟨t_1013, t_0, t_1014, by decide +kernel, by decide⟩
set_option maxHeartbeats 1500000 in
set_option maxRecDepth 100000 in
theorem h_learn {l : Launch} (hfl : l.stackTraces = false) (Γ : Gm) (K : Nat → Nat → Nat) (M : Mem) (x : Int32) (y : Int32) (w : Wf M) (h39 : mN M 39 = 1) (h39b : mN (sT M 0 1 (ix x) (mT M 0 1 (ix x) ||| (1 <<< (y &&& 31)))) 39 = 1) : CT l Γ (gFree Γ) yL_learn (wsH yL_learn cL_learn 5 (some .int) [(0, 10, 13, 36), (0, 10, 17, 13), (0, 10, 21, 67)]) 9 [.ref (K 6 0), .int x, .int y, .ref (K 39 0)] K M (HP (rLearn M x y) (popC (mT M 0 1 (ix x) ||| (1 <<< (y &&& 31)))).toInt64 K M (sT M 0 1 (ix x) (mT M 0 1 (ix x) ||| (1 <<< (y &&& 31)))) (M)) xNo 3 20 := by
  refine ct_introH hfl (by decide) (Nat.le_of_ble_eq_true rfl) ?_
  intro p e s m args below meth c C htab hr hM ls hl
  have hx := C.1
  have hb := C.2.1
  have hS : va_S (gFree Γ) s.heap s.heap [] := va_S.rf
  have hl : lv_has ls 5 [(0, .ref (K 6 0)), (1, .int x), (2, .int y), (3, .ref (K 39 0))] := hl
  refine lv_aload_n hx hb dL_learn_0 rfl (lv_at hl 3 rfl) ?_
  refine lv_iconst (v := 0) hx hb dL_learn_1 (by decide) ?_
  refine lv_aload_n hx hb dL_learn_2 rfl (lv_at hl 0 rfl) ?_
  refine lv_iload_n hx hb dL_learn_3 rfl (lv_at hl 1 rfl) ?_
  refine lv_iload_n hx hb dL_learn_4 rfl (lv_at hl 2 rfl) ?_
  refine g_cV C hS (fun _ h => h) hM hl (fun _ h => h) (c_learn hfl Γ _ _ x y w) kX6_learn t_1016 (HM.recv C hM clo_6 (wn6 w)) dL_learn_5 rfl rfl (Nat.le_of_ble_eq_true rfl) (by decide) rfl ⟨by decide, by decide⟩
    (fun E q9 ce H1 locs1 hE hM1 hS1 hcell hv hcl => by
        obtain ⟨hr0, hE⟩ := hE
        have hle : rLearn M x y ≤ 3 := by unfold rLearn; (repeat' split) <;> omega
        rcases (show rLearn M x y = 1 ∨ rLearn M x y = 2 ∨ rLearn M x y = 3 by omega) with h1 | h1 | h1
        · rw [h1] at hE
          obtain rfl : E = "java/lang/IndexOutOfBoundsException" := hE
          refine g_catch C htab [] [⟨0, 10, 17, 13⟩, ⟨0, 10, 21, 67⟩] ⟨0, 10, 13, 36⟩ rfl (fun z hz => absurd hz (by simp)) (by decide) (by decide) t_888 (nst_of n_379) hcell hv hcl ?_
          refine lv_astore (lv' := [(4, _), (0, _), (1, _), (2, _), (3, _)]) hx hb dL_learn_13 hl (by decide) rfl (fun ls hl => ?_)
          refine lv_iconst (v := 1) hx hb dL_learn_15 (by decide) ?_
          exact g_iret C hr hM1 hS1 dL_learn_16 (by decide) (by decide) ⟨by rw [h1]; rfl, fun k i hi => rfl, (if_neg (by rw [h1]; decide)).symm⟩
        · rw [h1] at hE
          obtain rfl : E = "java/lang/IllegalArgumentException" := hE
          refine g_catch C htab [⟨0, 10, 13, 36⟩] [⟨0, 10, 21, 67⟩] ⟨0, 10, 17, 13⟩ rfl (fun z hz => by
        simp only [List.mem_cons, List.not_mem_nil, or_false] at hz
        subst hz
        exact ⟨by decide, "java/lang/IndexOutOfBoundsException", t_888, by simp [ncX]⟩) (by decide) (by decide) t_252 (nst_of n_262) hcell hv hcl ?_
          refine lv_astore (lv' := [(4, _), (0, _), (1, _), (2, _), (3, _)]) hx hb dL_learn_17 hl (by decide) rfl (fun ls hl => ?_)
          refine lv_iconst (v := 2) hx hb dL_learn_19 (by decide) ?_
          exact g_iret C hr hM1 hS1 dL_learn_20 (by decide) (by decide) ⟨by rw [h1]; rfl, fun k i hi => rfl, (if_neg (by rw [h1]; decide)).symm⟩
        · rw [h1] at hE
          obtain rfl : E = "java/lang/UnsupportedOperationException" := hE
          refine g_catch C htab [⟨0, 10, 13, 36⟩, ⟨0, 10, 17, 13⟩] [] ⟨0, 10, 21, 67⟩ rfl (fun z hz => by
        simp only [List.mem_cons, List.not_mem_nil, or_false] at hz
        rcases hz with rfl | rfl
        · exact ⟨by decide, "java/lang/IndexOutOfBoundsException", t_888, by simp [ncX]⟩
        · exact ⟨by decide, "java/lang/IllegalArgumentException", t_252, by simp [ncX]⟩) (by decide) (by decide) t_1015 (nst_of n_1027) hcell hv hcl ?_
          refine lv_astore (lv' := [(4, _), (0, _), (1, _), (2, _), (3, _)]) hx hb dL_learn_21 hl (by decide) rfl (fun ls hl => ?_)
          refine lv_iconst (v := 3) hx hb dL_learn_23 (by decide) ?_
          exact g_iret C hr hM1 hS1 dL_learn_24 (by decide) (by decide) ⟨by rw [h1]; rfl, fun k i hi => rfl, (if_neg (by rw [h1]; decide)).symm⟩)
      (fun H locs hc0 hM hS => ?_)
  refine lv_i2l hx hb dL_learn_8 rfl ?_
  refine g_last C hM hS (by omega) dL_learn_9 (fun H locs hM hS => ?_)
  refine lv_goto (tgt := 25) hx hb dL_learn_10 (by decide) ?_
  refine lv_iconst (v := 0) hx hb dL_learn_25 (by decide) ?_
  exact g_iret C hr hM hS dL_learn_26 (by decide) (by decide) ⟨by rw [hc0]; rfl, fun k i hi => rfl, by rw [if_pos hc0]⟩
theorem kL_setOnShift : CeeH yL_setOnShift cL_setOnShift 5 (some .int) [(0, 17, 20, 36)] 4 := ⟨t_1048, t_0, t_1049, by decide +kernel, by decide⟩
set_option maxHeartbeats 1500000 in
set_option maxRecDepth 100000 in
theorem h_setOnShift {l : Launch} (hfl : l.stackTraces = false) (Γ : Gm) (K : Nat → Nat → Nat) (M : Mem) (x : Int32) (y : Bool) (w : Wf M) (hQ : QW M) (hbo : narrow .boolean (.int (mT M 0 2 (ix x))) = .int (mT M 0 2 (ix x))) (h39 : mN M 39 = 1) (h39b : mN (sosM M (ix x) y) 39 = 1) : CT l Γ (gFree Γ) yL_setOnShift (wsH yL_setOnShift cL_setOnShift 5 (some .int) [(0, 17, 20, 36)]) 12 [.ref (K 6 0), .int x, .int (bI y), .ref (K 39 0)] K M (HP (rSetOnShift M x y) (if mT M 0 2 (ix x) = 0 then 0 else 1) K M (sosM M (ix x) y) (M)) xNo 42 4820 := by
  refine ct_introH hfl (by decide) (Nat.le_of_ble_eq_true rfl) ?_
  intro p e s m args below meth c C htab hr hM ls hl
  have hx := C.1
  have hb := C.2.1
  have hS : va_S (gFree Γ) s.heap s.heap [] := va_S.rf
  have hl : lv_has ls 5 [(0, .ref (K 6 0)), (1, .int x), (2, .int (bI y)), (3, .ref (K 39 0))] := hl
  refine lv_aload_n hx hb dL_setOnShift_0 rfl (lv_at hl 3 rfl) ?_
  refine lv_iconst (v := 0) hx hb dL_setOnShift_1 (by decide) ?_
  refine lv_aload_n hx hb dL_setOnShift_2 rfl (lv_at hl 0 rfl) ?_
  refine lv_iload_n hx hb dL_setOnShift_3 rfl (lv_at hl 1 rfl) ?_
  refine lv_iload_n hx hb dL_setOnShift_4 rfl (lv_at hl 2 rfl) ?_
  refine g_cV C hS (fun _ h => h) hM hl (fun _ h => h) (c_setOnShift hfl Γ _ _ x y w hQ hbo) kX6_setOnShift t_1050 (HM.recv C hM clo_6 (wn6 w)) dL_setOnShift_5 rfl rfl (Nat.le_of_ble_eq_true rfl) (by decide) rfl ⟨by decide, by decide⟩
    (fun E q9 ce H1 locs1 hE hM1 hS1 hcell hv hcl => by
        obtain ⟨hr0, hE⟩ := hE
        have hle : rSetOnShift M x y ≤ 1 := by unfold rSetOnShift; (repeat' split) <;> omega
        have h1 : rSetOnShift M x y = 1 := by omega
        rw [h1] at hE
        obtain rfl : E = "java/lang/IndexOutOfBoundsException" := hE
        refine g_catch C htab [] [] ⟨0, 17, 20, 36⟩ rfl (fun z hz => absurd hz (by simp)) (by decide) (by decide) t_888 (nst_of n_379) hcell hv hcl ?_
        refine lv_astore (lv' := [(4, _), (0, _), (1, _), (2, _), (3, _)]) hx hb dL_setOnShift_20 hl (by decide) rfl (fun ls hl => ?_)
        refine lv_iconst (v := 1) hx hb dL_setOnShift_22 (by decide) ?_
        exact g_iret C hr hM1 hS1 dL_setOnShift_23 (by decide) (by decide) ⟨by rw [h1]; rfl, fun k i hi => rfl, (if_neg (by rw [h1]; decide)).symm⟩)
      (fun H locs hc0 hM hS => ?_)
  refine lv_if_eq (tgt := 15) hx hb dL_setOnShift_8 (by decide) (fun c9 => ?_) (fun c9 => ?_)
  · refine lv_lconst (v := 0) hx hb dL_setOnShift_15 (by decide) ?_
    refine g_last C hM hS (by omega) dL_setOnShift_16 (fun H locs hM hS => ?_)
    refine lv_goto (tgt := 24) hx hb dL_setOnShift_17 (by decide) ?_
    refine lv_iconst (v := 0) hx hb dL_setOnShift_24 (by decide) ?_
    exact g_iret C hr hM hS dL_setOnShift_25 (by decide) (by decide) ⟨by rw [hc0]; rfl, fun k i hi => rfl, by rw [if_pos hc0, if_pos c9]⟩
  · refine lv_lconst (v := 1) hx hb dL_setOnShift_11 (by decide) ?_
    refine lv_goto (tgt := 16) hx hb dL_setOnShift_12 (by decide) ?_
    refine g_last C hM hS (by omega) dL_setOnShift_16 (fun H locs hM hS => ?_)
    refine lv_goto (tgt := 24) hx hb dL_setOnShift_17 (by decide) ?_
    refine lv_iconst (v := 0) hx hb dL_setOnShift_24 (by decide) ?_
    exact g_iret C hr hM hS dL_setOnShift_25 (by decide) (by decide) ⟨by rw [hc0]; rfl, fun k i hi => rfl, by rw [if_pos hc0, if_neg c9]⟩
theorem kL_held : CeeH yL_held cL_held 4 (some .int) [(0, 9, 12, 36)] 3 := ⟨t_1059, t_0, t_1060, by decide +kernel, by decide⟩
set_option maxHeartbeats 1500000 in
set_option maxRecDepth 100000 in
theorem h_held {l : Launch} (hfl : l.stackTraces = false) (Γ : Gm) (K : Nat → Nat → Nat) (M : Mem) (x : Int32) (w : Wf M) (h39 : mN M 39 = 1) (h39b : mN (M) 39 = 1) : CT l Γ (gFree Γ) yL_held (wsH yL_held cL_held 4 (some .int) [(0, 9, 12, 36)]) 9 [.ref (K 6 0), .int x, .ref (K 39 0)] K M (HP (rHeld M x) (mT M 0 3 (ix x)).toInt64 K M (M) (M)) xNo 2 12 := by
  refine ct_introH hfl (by decide) (Nat.le_of_ble_eq_true rfl) ?_
  intro p e s m args below meth c C htab hr hM ls hl
  have hx := C.1
  have hb := C.2.1
  have hS : va_S (gFree Γ) s.heap s.heap [] := va_S.rf
  have hl : lv_has ls 4 [(0, .ref (K 6 0)), (1, .int x), (2, .ref (K 39 0))] := hl
  refine lv_aload_n hx hb dL_held_0 rfl (lv_at hl 2 rfl) ?_
  refine lv_iconst (v := 0) hx hb dL_held_1 (by decide) ?_
  refine lv_aload_n hx hb dL_held_2 rfl (lv_at hl 0 rfl) ?_
  refine lv_iload_n hx hb dL_held_3 rfl (lv_at hl 1 rfl) ?_
  refine g_cV C hS (fun _ h => h) hM hl (fun _ h => h.elim) (c_held hfl Γ _ _ x w) kX6_held t_1061 (HM.recv C hM clo_6 (wn6 w)) dL_held_4 rfl rfl (Nat.le_of_ble_eq_true rfl) (by decide) rfl ⟨by decide, by decide⟩
    (fun E q9 ce H1 locs1 hE hM1 hS1 hcell hv hcl => by
        obtain ⟨hr0, hE⟩ := hE
        have hle : rHeld M x ≤ 1 := by unfold rHeld; (repeat' split) <;> omega
        have h1 : rHeld M x = 1 := by omega
        rw [h1] at hE
        obtain rfl : E = "java/lang/IndexOutOfBoundsException" := hE
        refine g_catch C htab [] [] ⟨0, 9, 12, 36⟩ rfl (fun z hz => absurd hz (by simp)) (by decide) (by decide) t_888 (nst_of n_379) hcell hv hcl ?_
        refine lv_astore_n (lv' := [(3, _), (0, _), (1, _), (2, _)]) hx hb dL_held_12 rfl hl (by decide) rfl (fun ls hl => ?_)
        refine lv_iconst (v := 1) hx hb dL_held_13 (by decide) ?_
        exact g_iret C hr hM1 hS1 dL_held_14 (by decide) (by decide) ⟨by rw [h1]; rfl, fun k i hi => rfl, (if_neg (by rw [h1]; decide)).symm⟩)
      (fun H locs hc0 hM hS => ?_)
  refine lv_i2l hx hb dL_held_7 rfl ?_
  refine g_last C hM hS (by omega) dL_held_8 (fun H locs hM hS => ?_)
  refine lv_goto (tgt := 15) hx hb dL_held_9 (by decide) ?_
  refine lv_iconst (v := 0) hx hb dL_held_15 (by decide) ?_
  exact g_iret C hr hM hS dL_held_16 (by decide) (by decide) ⟨by rw [hc0]; rfl, fun k i hi => rfl, by rw [if_pos hc0]⟩
theorem kL_agentOf : CeeH yL_agentOf cL_agentOf 4 (some .int) [(0, 9, 12, 36), (0, 9, 15, 26)] 3 := ⟨t_1066, t_0, t_1067, by decide +kernel, by decide⟩
set_option maxHeartbeats 1500000 in
set_option maxRecDepth 100000 in
theorem h_agentOf {l : Launch} (hfl : l.stackTraces = false) (Γ : Gm) (K : Nat → Nat → Nat) (M : Mem) (x : Int32) (w : Wf M) (h39 : mN M 39 = 1) (h39b : mN (M) 39 = 1) : CT l Γ (gFree Γ) yL_agentOf (wsH yL_agentOf cL_agentOf 4 (some .int) [(0, 9, 12, 36), (0, 9, 15, 26)]) 9 [.ref (K 6 0), .int x, .ref (K 39 0)] K M (HP (rAgentOf M x) (mT M 0 0 ((mP M 4 9 (ix x)).getD 0)).toInt64 K M (M) (M)) xNo 2 12 := by
  refine ct_introH hfl (by decide) (Nat.le_of_ble_eq_true rfl) ?_
  intro p e s m args below meth c C htab hr hM ls hl
  have hx := C.1
  have hb := C.2.1
  have hS : va_S (gFree Γ) s.heap s.heap [] := va_S.rf
  have hl : lv_has ls 4 [(0, .ref (K 6 0)), (1, .int x), (2, .ref (K 39 0))] := hl
  refine lv_aload_n hx hb dL_agentOf_0 rfl (lv_at hl 2 rfl) ?_
  refine lv_iconst (v := 0) hx hb dL_agentOf_1 (by decide) ?_
  refine lv_aload_n hx hb dL_agentOf_2 rfl (lv_at hl 0 rfl) ?_
  refine lv_iload_n hx hb dL_agentOf_3 rfl (lv_at hl 1 rfl) ?_
  refine g_cV C hS (fun _ h => h) hM hl (fun _ h => h.elim) (c_agentOf hfl Γ _ _ x w) kX6_agentOf t_1068 (HM.recv C hM clo_6 (wn6 w)) dL_agentOf_4 rfl rfl (Nat.le_of_ble_eq_true rfl) (by decide) rfl ⟨by decide, by decide⟩
    (fun E q9 ce H1 locs1 hE hM1 hS1 hcell hv hcl => by
        obtain ⟨hr0, hE⟩ := hE
        have hle : rAgentOf M x ≤ 2 := by unfold rAgentOf; (repeat' split) <;> omega
        rcases (show rAgentOf M x = 1 ∨ rAgentOf M x = 2 by omega) with h1 | h1
        · rw [h1] at hE
          obtain rfl : E = "java/lang/IndexOutOfBoundsException" := hE
          refine g_catch C htab [] [⟨0, 9, 15, 26⟩] ⟨0, 9, 12, 36⟩ rfl (fun z hz => absurd hz (by simp)) (by decide) (by decide) t_888 (nst_of n_379) hcell hv hcl ?_
          refine lv_astore_n (lv' := [(3, _), (0, _), (1, _), (2, _)]) hx hb dL_agentOf_12 rfl hl (by decide) rfl (fun ls hl => ?_)
          refine lv_iconst (v := 1) hx hb dL_agentOf_13 (by decide) ?_
          exact g_iret C hr hM1 hS1 dL_agentOf_14 (by decide) (by decide) ⟨by rw [h1]; rfl, fun k i hi => rfl, (if_neg (by rw [h1]; decide)).symm⟩
        · rw [h1] at hE
          obtain rfl : E = "java/util/NoSuchElementException" := hE
          refine g_catch C htab [⟨0, 9, 12, 36⟩] [] ⟨0, 9, 15, 26⟩ rfl (fun z hz => by
        simp only [List.mem_cons, List.not_mem_nil, or_false] at hz
        subst hz
        exact ⟨by decide, "java/lang/IndexOutOfBoundsException", t_888, by simp [ncX]⟩) (by decide) (by decide) t_693 (nst_of n_708) hcell hv hcl ?_
          refine lv_astore_n (lv' := [(3, _), (0, _), (1, _), (2, _)]) hx hb dL_agentOf_15 rfl hl (by decide) rfl (fun ls hl => ?_)
          refine lv_iconst (v := 2) hx hb dL_agentOf_16 (by decide) ?_
          exact g_iret C hr hM1 hS1 dL_agentOf_17 (by decide) (by decide) ⟨by rw [h1]; rfl, fun k i hi => rfl, (if_neg (by rw [h1]; decide)).symm⟩)
      (fun H locs hc0 hM hS => ?_)
  refine lv_i2l hx hb dL_agentOf_7 rfl ?_
  refine g_last C hM hS (by omega) dL_agentOf_8 (fun H locs hM hS => ?_)
  refine lv_goto (tgt := 18) hx hb dL_agentOf_9 (by decide) ?_
  refine lv_iconst (v := 0) hx hb dL_agentOf_18 (by decide) ?_
  exact g_iret C hr hM hS dL_agentOf_19 (by decide) (by decide) ⟨by rw [hc0]; rfl, fun k i hi => rfl, by rw [if_pos hc0]⟩
theorem kL_nextFor : CeeH yL_nextFor cL_nextFor 4 (some .int) [(0, 9, 12, 36), (0, 9, 15, 26)] 3 := ⟨t_1074, t_0, t_1075, by decide +kernel, by decide⟩
set_option maxHeartbeats 1500000 in
set_option maxRecDepth 100000 in
theorem h_nextFor {l : Launch} (hfl : l.stackTraces = false) (Γ : Gm) (K : Nat → Nat → Nat) (M : Mem) (x : Int32) (w : Wf M) (h39 : mN M 39 = 1) (h39b : mN (M) 39 = 1) : CT l Γ (gFree Γ) yL_nextFor (wsH yL_nextFor cL_nextFor 4 (some .int) [(0, 9, 12, 36), (0, 9, 15, 26)]) 9 [.ref (K 6 0), .int x, .ref (K 39 0)] K M (HP (rNextFor M x) (mT M 4 0 ((nqN M (ix x) 6).getD 0)).toInt64 K M (M) (M)) xNo 2 12 := by
  refine ct_introH hfl (by decide) (Nat.le_of_ble_eq_true rfl) ?_
  intro p e s m args below meth c C htab hr hM ls hl
  have hx := C.1
  have hb := C.2.1
  have hS : va_S (gFree Γ) s.heap s.heap [] := va_S.rf
  have hl : lv_has ls 4 [(0, .ref (K 6 0)), (1, .int x), (2, .ref (K 39 0))] := hl
  refine lv_aload_n hx hb dL_nextFor_0 rfl (lv_at hl 2 rfl) ?_
  refine lv_iconst (v := 0) hx hb dL_nextFor_1 (by decide) ?_
  refine lv_aload_n hx hb dL_nextFor_2 rfl (lv_at hl 0 rfl) ?_
  refine lv_iload_n hx hb dL_nextFor_3 rfl (lv_at hl 1 rfl) ?_
  refine g_cV C hS (fun _ h => h) hM hl (fun _ h => h.elim) (c_nextFor hfl Γ _ _ x w) kX6_nextFor t_1076 (HM.recv C hM clo_6 (wn6 w)) dL_nextFor_4 rfl rfl (Nat.le_of_ble_eq_true rfl) (by decide) rfl ⟨by decide, by decide⟩
    (fun E q9 ce H1 locs1 hE hM1 hS1 hcell hv hcl => by
        obtain ⟨hr0, hE⟩ := hE
        have hle : rNextFor M x ≤ 2 := by unfold rNextFor; (repeat' split) <;> omega
        rcases (show rNextFor M x = 1 ∨ rNextFor M x = 2 by omega) with h1 | h1
        · rw [h1] at hE
          obtain rfl : E = "java/lang/IndexOutOfBoundsException" := hE
          refine g_catch C htab [] [⟨0, 9, 15, 26⟩] ⟨0, 9, 12, 36⟩ rfl (fun z hz => absurd hz (by simp)) (by decide) (by decide) t_888 (nst_of n_379) hcell hv hcl ?_
          refine lv_astore_n (lv' := [(3, _), (0, _), (1, _), (2, _)]) hx hb dL_nextFor_12 rfl hl (by decide) rfl (fun ls hl => ?_)
          refine lv_iconst (v := 1) hx hb dL_nextFor_13 (by decide) ?_
          exact g_iret C hr hM1 hS1 dL_nextFor_14 (by decide) (by decide) ⟨by rw [h1]; rfl, fun k i hi => rfl, (if_neg (by rw [h1]; decide)).symm⟩
        · rw [h1] at hE
          obtain rfl : E = "java/util/NoSuchElementException" := hE
          refine g_catch C htab [⟨0, 9, 12, 36⟩] [] ⟨0, 9, 15, 26⟩ rfl (fun z hz => by
        simp only [List.mem_cons, List.not_mem_nil, or_false] at hz
        subst hz
        exact ⟨by decide, "java/lang/IndexOutOfBoundsException", t_888, by simp [ncX]⟩) (by decide) (by decide) t_693 (nst_of n_708) hcell hv hcl ?_
          refine lv_astore_n (lv' := [(3, _), (0, _), (1, _), (2, _)]) hx hb dL_nextFor_15 rfl hl (by decide) rfl (fun ls hl => ?_)
          refine lv_iconst (v := 2) hx hb dL_nextFor_16 (by decide) ?_
          exact g_iret C hr hM1 hS1 dL_nextFor_17 (by decide) (by decide) ⟨by rw [h1]; rfl, fun k i hi => rfl, (if_neg (by rw [h1]; decide)).symm⟩)
      (fun H locs hc0 hM hS => ?_)
  refine lv_i2l hx hb dL_nextFor_7 rfl ?_
  refine g_last C hM hS (by omega) dL_nextFor_8 (fun H locs hM hS => ?_)
  refine lv_goto (tgt := 18) hx hb dL_nextFor_9 (by decide) ?_
  refine lv_iconst (v := 0) hx hb dL_nextFor_18 (by decide) ?_
  exact g_iret C hr hM hS dL_nextFor_19 (by decide) (by decide) ⟨by rw [hc0]; rfl, fun k i hi => rfl, by rw [if_pos hc0]⟩
theorem kL_nextByTickets : CeeH yL_nextByTickets cL_nextByTickets 4 (some .int) [(0, 9, 12, 36), (0, 9, 15, 26)] 3 := ⟨t_1082, t_0, t_1083, by decide +kernel, by decide⟩
set_option maxHeartbeats 1500000 in
set_option maxRecDepth 100000 in
theorem h_nextByTickets {l : Launch} (hfl : l.stackTraces = false) (Γ : Gm) (K : Nat → Nat → Nat) (M : Mem) (x : Int32) (w : Wf M) (h39 : mN M 39 = 1) (h39b : mN (M) 39 = 1) : CT l Γ (gFree Γ) yL_nextByTickets (wsH yL_nextByTickets cL_nextByTickets 4 (some .int) [(0, 9, 12, 36), (0, 9, 15, 26)]) 9 [.ref (K 6 0), .int x, .ref (K 39 0)] K M (HP (rNextByTickets M x) (mT M 4 0 ((ntN M (ix x) (mN M 4)).getD 0)).toInt64 K M (M) (M)) xNo 2 12 := by
  refine ct_introH hfl (by decide) (Nat.le_of_ble_eq_true rfl) ?_
  intro p e s m args below meth c C htab hr hM ls hl
  have hx := C.1
  have hb := C.2.1
  have hS : va_S (gFree Γ) s.heap s.heap [] := va_S.rf
  have hl : lv_has ls 4 [(0, .ref (K 6 0)), (1, .int x), (2, .ref (K 39 0))] := hl
  refine lv_aload_n hx hb dL_nextByTickets_0 rfl (lv_at hl 2 rfl) ?_
  refine lv_iconst (v := 0) hx hb dL_nextByTickets_1 (by decide) ?_
  refine lv_aload_n hx hb dL_nextByTickets_2 rfl (lv_at hl 0 rfl) ?_
  refine lv_iload_n hx hb dL_nextByTickets_3 rfl (lv_at hl 1 rfl) ?_
  refine g_cV C hS (fun _ h => h) hM hl (fun _ h => h.elim) (c_nextByTickets hfl Γ _ _ x w) kX6_nextByTickets t_1084 (HM.recv C hM clo_6 (wn6 w)) dL_nextByTickets_4 rfl rfl (Nat.le_of_ble_eq_true rfl) (by decide) rfl ⟨by decide, by decide⟩
    (fun E q9 ce H1 locs1 hE hM1 hS1 hcell hv hcl => by
        obtain ⟨hr0, hE⟩ := hE
        have hle : rNextByTickets M x ≤ 2 := by unfold rNextByTickets; (repeat' split) <;> omega
        rcases (show rNextByTickets M x = 1 ∨ rNextByTickets M x = 2 by omega) with h1 | h1
        · rw [h1] at hE
          obtain rfl : E = "java/lang/IndexOutOfBoundsException" := hE
          refine g_catch C htab [] [⟨0, 9, 15, 26⟩] ⟨0, 9, 12, 36⟩ rfl (fun z hz => absurd hz (by simp)) (by decide) (by decide) t_888 (nst_of n_379) hcell hv hcl ?_
          refine lv_astore_n (lv' := [(3, _), (0, _), (1, _), (2, _)]) hx hb dL_nextByTickets_12 rfl hl (by decide) rfl (fun ls hl => ?_)
          refine lv_iconst (v := 1) hx hb dL_nextByTickets_13 (by decide) ?_
          exact g_iret C hr hM1 hS1 dL_nextByTickets_14 (by decide) (by decide) ⟨by rw [h1]; rfl, fun k i hi => rfl, (if_neg (by rw [h1]; decide)).symm⟩
        · rw [h1] at hE
          obtain rfl : E = "java/util/NoSuchElementException" := hE
          refine g_catch C htab [⟨0, 9, 12, 36⟩] [] ⟨0, 9, 15, 26⟩ rfl (fun z hz => by
        simp only [List.mem_cons, List.not_mem_nil, or_false] at hz
        subst hz
        exact ⟨by decide, "java/lang/IndexOutOfBoundsException", t_888, by simp [ncX]⟩) (by decide) (by decide) t_693 (nst_of n_708) hcell hv hcl ?_
          refine lv_astore_n (lv' := [(3, _), (0, _), (1, _), (2, _)]) hx hb dL_nextByTickets_15 rfl hl (by decide) rfl (fun ls hl => ?_)
          refine lv_iconst (v := 2) hx hb dL_nextByTickets_16 (by decide) ?_
          exact g_iret C hr hM1 hS1 dL_nextByTickets_17 (by decide) (by decide) ⟨by rw [h1]; rfl, fun k i hi => rfl, (if_neg (by rw [h1]; decide)).symm⟩)
      (fun H locs hc0 hM hS => ?_)
  refine lv_i2l hx hb dL_nextByTickets_7 rfl ?_
  refine g_last C hM hS (by omega) dL_nextByTickets_8 (fun H locs hM hS => ?_)
  refine lv_goto (tgt := 18) hx hb dL_nextByTickets_9 (by decide) ?_
  refine lv_iconst (v := 0) hx hb dL_nextByTickets_18 (by decide) ?_
  exact g_iret C hr hM hS dL_nextByTickets_19 (by decide) (by decide) ⟨by rw [hc0]; rfl, fun k i hi => rfl, by rw [if_pos hc0]⟩
theorem kL_waiting : CeeH yL_waiting cL_waiting 4 (some .int) [(0, 9, 12, 36)] 3 := ⟨t_1089, t_0, t_1090, by decide +kernel, by decide⟩
set_option maxHeartbeats 1500000 in
set_option maxRecDepth 100000 in
theorem h_waiting {l : Launch} (hfl : l.stackTraces = false) (Γ : Gm) (K : Nat → Nat → Nat) (M : Mem) (x : Int32) (w : Wf M) (h39 : mN M 39 = 1) (h39b : mN (M) 39 = 1) : CT l Γ (gFree Γ) yL_waiting (wsH yL_waiting cL_waiting 4 (some .int) [(0, 9, 12, 36)]) 9 [.ref (K 6 0), .int x, .ref (K 39 0)] K M (HP (rWaiting M x) (wtN M (ix x) 6).toInt64 K M (M) (M)) xNo 2 12 := by
  refine ct_introH hfl (by decide) (Nat.le_of_ble_eq_true rfl) ?_
  intro p e s m args below meth c C htab hr hM ls hl
  have hx := C.1
  have hb := C.2.1
  have hS : va_S (gFree Γ) s.heap s.heap [] := va_S.rf
  have hl : lv_has ls 4 [(0, .ref (K 6 0)), (1, .int x), (2, .ref (K 39 0))] := hl
  refine lv_aload_n hx hb dL_waiting_0 rfl (lv_at hl 2 rfl) ?_
  refine lv_iconst (v := 0) hx hb dL_waiting_1 (by decide) ?_
  refine lv_aload_n hx hb dL_waiting_2 rfl (lv_at hl 0 rfl) ?_
  refine lv_iload_n hx hb dL_waiting_3 rfl (lv_at hl 1 rfl) ?_
  refine g_cV C hS (fun _ h => h) hM hl (fun _ h => h.elim) (c_waiting hfl Γ _ _ x w) kX6_waiting t_1091 (HM.recv C hM clo_6 (wn6 w)) dL_waiting_4 rfl rfl (Nat.le_of_ble_eq_true rfl) (by decide) rfl ⟨by decide, by decide⟩
    (fun E q9 ce H1 locs1 hE hM1 hS1 hcell hv hcl => by
        obtain ⟨hr0, hE⟩ := hE
        have hle : rWaiting M x ≤ 1 := by unfold rWaiting; (repeat' split) <;> omega
        have h1 : rWaiting M x = 1 := by omega
        rw [h1] at hE
        obtain rfl : E = "java/lang/IndexOutOfBoundsException" := hE
        refine g_catch C htab [] [] ⟨0, 9, 12, 36⟩ rfl (fun z hz => absurd hz (by simp)) (by decide) (by decide) t_888 (nst_of n_379) hcell hv hcl ?_
        refine lv_astore_n (lv' := [(3, _), (0, _), (1, _), (2, _)]) hx hb dL_waiting_12 rfl hl (by decide) rfl (fun ls hl => ?_)
        refine lv_iconst (v := 1) hx hb dL_waiting_13 (by decide) ?_
        exact g_iret C hr hM1 hS1 dL_waiting_14 (by decide) (by decide) ⟨by rw [h1]; rfl, fun k i hi => rfl, (if_neg (by rw [h1]; decide)).symm⟩)
      (fun H locs hc0 hM hS => ?_)
  refine lv_i2l hx hb dL_waiting_7 rfl ?_
  refine g_last C hM hS (by omega) dL_waiting_8 (fun H locs hM hS => ?_)
  refine lv_goto (tgt := 15) hx hb dL_waiting_9 (by decide) ?_
  refine lv_iconst (v := 0) hx hb dL_waiting_15 (by decide) ?_
  exact g_iret C hr hM hS dL_waiting_16 (by decide) (by decide) ⟨by rw [hc0]; rfl, fun k i hi => rfl, by rw [if_pos hc0]⟩
theorem kL_take : CeeH yL_take cL_take 4 (some .int) [(0, 9, 12, 36), (0, 9, 15, 28), (0, 9, 18, 26)] 3 := ⟨t_1100, t_0, t_1101, by decide +kernel, by decide⟩
set_option maxHeartbeats 1500000 in
set_option maxRecDepth 100000 in
theorem h_take {l : Launch} (hfl : l.stackTraces = false) (Γ : Gm) (K : Nat → Nat → Nat) (M : Mem) (x : Int32) (w : Wf M) (h39 : mN M 39 = 1) (h39b : mN (takeM M (ix x) ((nqN M (ix x) 6).getD 0)) 39 = 1) : CT l Γ (gFree Γ) yL_take (wsH yL_take cL_take 4 (some .int) [(0, 9, 12, 36), (0, 9, 15, 28), (0, 9, 18, 26)]) 10 [.ref (K 6 0), .int x, .ref (K 39 0)] K M (HP (rTake M x) (mT (takeM M (ix x) ((nqN M (ix x) 6).getD 0)) 4 0 ((nqN M (ix x) 6).getD 0)).toInt64 K M (takeM M (ix x) ((nqN M (ix x) 6).getD 0)) (M)) xNo 2 12 := by
  refine ct_introH hfl (by decide) (Nat.le_of_ble_eq_true rfl) ?_
  intro p e s m args below meth c C htab hr hM ls hl
  have hx := C.1
  have hb := C.2.1
  have hS : va_S (gFree Γ) s.heap s.heap [] := va_S.rf
  have hl : lv_has ls 4 [(0, .ref (K 6 0)), (1, .int x), (2, .ref (K 39 0))] := hl
  refine lv_aload_n hx hb dL_take_0 rfl (lv_at hl 2 rfl) ?_
  refine lv_iconst (v := 0) hx hb dL_take_1 (by decide) ?_
  refine lv_aload_n hx hb dL_take_2 rfl (lv_at hl 0 rfl) ?_
  refine lv_iload_n hx hb dL_take_3 rfl (lv_at hl 1 rfl) ?_
  refine g_cV C hS (fun _ h => h) hM hl (fun _ h => h) (c_take hfl Γ _ _ x w) kX6_take t_1102 (HM.recv C hM clo_6 (wn6 w)) dL_take_4 rfl rfl (Nat.le_of_ble_eq_true rfl) (by decide) rfl ⟨by decide, by decide⟩
    (fun E q9 ce H1 locs1 hE hM1 hS1 hcell hv hcl => by
        obtain ⟨hr0, hE⟩ := hE
        have hle : rTake M x ≤ 3 := by unfold rTake; (repeat' split) <;> omega
        rcases (show rTake M x = 1 ∨ rTake M x = 2 ∨ rTake M x = 3 by omega) with h1 | h1 | h1
        · rw [h1] at hE
          obtain rfl : E = "java/lang/IndexOutOfBoundsException" := hE
          refine g_catch C htab [] [⟨0, 9, 15, 28⟩, ⟨0, 9, 18, 26⟩] ⟨0, 9, 12, 36⟩ rfl (fun z hz => absurd hz (by simp)) (by decide) (by decide) t_888 (nst_of n_379) hcell hv hcl ?_
          refine lv_astore_n (lv' := [(3, _), (0, _), (1, _), (2, _)]) hx hb dL_take_12 rfl hl (by decide) rfl (fun ls hl => ?_)
          refine lv_iconst (v := 1) hx hb dL_take_13 (by decide) ?_
          exact g_iret C hr hM1 hS1 dL_take_14 (by decide) (by decide) ⟨by rw [h1]; rfl, fun k i hi => rfl, (if_neg (by rw [h1]; decide)).symm⟩
        · rw [h1] at hE
          obtain rfl : E = "java/lang/IllegalStateException" := hE
          refine g_catch C htab [⟨0, 9, 12, 36⟩] [⟨0, 9, 18, 26⟩] ⟨0, 9, 15, 28⟩ rfl (fun z hz => by
        simp only [List.mem_cons, List.not_mem_nil, or_false] at hz
        subst hz
        exact ⟨by decide, "java/lang/IndexOutOfBoundsException", t_888, by simp [ncX]⟩) (by decide) (by decide) t_694 (nst_of n_742) hcell hv hcl ?_
          refine lv_astore_n (lv' := [(3, _), (0, _), (1, _), (2, _)]) hx hb dL_take_15 rfl hl (by decide) rfl (fun ls hl => ?_)
          refine lv_iconst (v := 2) hx hb dL_take_16 (by decide) ?_
          exact g_iret C hr hM1 hS1 dL_take_17 (by decide) (by decide) ⟨by rw [h1]; rfl, fun k i hi => rfl, (if_neg (by rw [h1]; decide)).symm⟩
        · rw [h1] at hE
          obtain rfl : E = "java/util/NoSuchElementException" := hE
          refine g_catch C htab [⟨0, 9, 12, 36⟩, ⟨0, 9, 15, 28⟩] [] ⟨0, 9, 18, 26⟩ rfl (fun z hz => by
        simp only [List.mem_cons, List.not_mem_nil, or_false] at hz
        rcases hz with rfl | rfl
        · exact ⟨by decide, "java/lang/IndexOutOfBoundsException", t_888, by simp [ncX]⟩
        · exact ⟨by decide, "java/lang/IllegalStateException", t_694, by simp [ncX]⟩) (by decide) (by decide) t_693 (nst_of n_708) hcell hv hcl ?_
          refine lv_astore_n (lv' := [(3, _), (0, _), (1, _), (2, _)]) hx hb dL_take_18 rfl hl (by decide) rfl (fun ls hl => ?_)
          refine lv_iconst (v := 3) hx hb dL_take_19 (by decide) ?_
          exact g_iret C hr hM1 hS1 dL_take_20 (by decide) (by decide) ⟨by rw [h1]; rfl, fun k i hi => rfl, (if_neg (by rw [h1]; decide)).symm⟩)
      (fun H locs hc0 hM hS => ?_)
  refine lv_i2l hx hb dL_take_7 rfl ?_
  refine g_last C hM hS (by omega) dL_take_8 (fun H locs hM hS => ?_)
  refine lv_goto (tgt := 21) hx hb dL_take_9 (by decide) ?_
  refine lv_iconst (v := 0) hx hb dL_take_21 (by decide) ?_
  exact g_iret C hr hM hS dL_take_22 (by decide) (by decide) ⟨by rw [hc0]; rfl, fun k i hi => rfl, by rw [if_pos hc0]⟩
theorem kL_handOver : CeeH yL_handOver cL_handOver 5 (some .int) [(0, 10, 13, 36), (0, 10, 17, 28), (0, 10, 21, 67)] 4 := ⟨t_1112, t_0, t_1113, by decide +kernel, by decide⟩
set_option maxHeartbeats 1500000 in
set_option maxRecDepth 100000 in
theorem h_handOver {l : Launch} (hfl : l.stackTraces = false) (Γ : Gm) (K : Nat → Nat → Nat) (M : Mem) (x : Int32) (y : Int32) (w : Wf M) (h39 : mN M 39 = 1) (h39b : mN (hovM M (ix x) (ix y)) 39 = 1) : CT l Γ (gFree Γ) yL_handOver (wsH yL_handOver cL_handOver 5 (some .int) [(0, 10, 13, 36), (0, 10, 17, 28), (0, 10, 21, 67)]) 9 [.ref (K 6 0), .int x, .int y, .ref (K 39 0)] K M (HP (rHandOver M x y) (mT (hovM M (ix x) (ix y)) 4 10 (ix x)).toInt64 K M (hovM M (ix x) (ix y)) (M)) xNo 3 20 := by
  refine ct_introH hfl (by decide) (Nat.le_of_ble_eq_true rfl) ?_
  intro p e s m args below meth c C htab hr hM ls hl
  have hx := C.1
  have hb := C.2.1
  have hS : va_S (gFree Γ) s.heap s.heap [] := va_S.rf
  have hl : lv_has ls 5 [(0, .ref (K 6 0)), (1, .int x), (2, .int y), (3, .ref (K 39 0))] := hl
  refine lv_aload_n hx hb dL_handOver_0 rfl (lv_at hl 3 rfl) ?_
  refine lv_iconst (v := 0) hx hb dL_handOver_1 (by decide) ?_
  refine lv_aload_n hx hb dL_handOver_2 rfl (lv_at hl 0 rfl) ?_
  refine lv_iload_n hx hb dL_handOver_3 rfl (lv_at hl 1 rfl) ?_
  refine lv_iload_n hx hb dL_handOver_4 rfl (lv_at hl 2 rfl) ?_
  refine g_cV C hS (fun _ h => h) hM hl (fun _ h => h) (c_handOver hfl Γ _ _ x y w) kX6_handOver t_1114 (HM.recv C hM clo_6 (wn6 w)) dL_handOver_5 rfl rfl (Nat.le_of_ble_eq_true rfl) (by decide) rfl ⟨by decide, by decide⟩
    (fun E q9 ce H1 locs1 hE hM1 hS1 hcell hv hcl => by
        obtain ⟨hr0, hE⟩ := hE
        have hle : rHandOver M x y ≤ 3 := by unfold rHandOver; (repeat' split) <;> omega
        rcases (show rHandOver M x y = 1 ∨ rHandOver M x y = 2 ∨ rHandOver M x y = 3 by omega) with h1 | h1 | h1
        · rw [h1] at hE
          obtain rfl : E = "java/lang/IndexOutOfBoundsException" := hE
          refine g_catch C htab [] [⟨0, 10, 17, 28⟩, ⟨0, 10, 21, 67⟩] ⟨0, 10, 13, 36⟩ rfl (fun z hz => absurd hz (by simp)) (by decide) (by decide) t_888 (nst_of n_379) hcell hv hcl ?_
          refine lv_astore (lv' := [(4, _), (0, _), (1, _), (2, _), (3, _)]) hx hb dL_handOver_13 hl (by decide) rfl (fun ls hl => ?_)
          refine lv_iconst (v := 1) hx hb dL_handOver_15 (by decide) ?_
          exact g_iret C hr hM1 hS1 dL_handOver_16 (by decide) (by decide) ⟨by rw [h1]; rfl, fun k i hi => rfl, (if_neg (by rw [h1]; decide)).symm⟩
        · rw [h1] at hE
          obtain rfl : E = "java/lang/IllegalStateException" := hE
          refine g_catch C htab [⟨0, 10, 13, 36⟩] [⟨0, 10, 21, 67⟩] ⟨0, 10, 17, 28⟩ rfl (fun z hz => by
        simp only [List.mem_cons, List.not_mem_nil, or_false] at hz
        subst hz
        exact ⟨by decide, "java/lang/IndexOutOfBoundsException", t_888, by simp [ncX]⟩) (by decide) (by decide) t_694 (nst_of n_742) hcell hv hcl ?_
          refine lv_astore (lv' := [(4, _), (0, _), (1, _), (2, _), (3, _)]) hx hb dL_handOver_17 hl (by decide) rfl (fun ls hl => ?_)
          refine lv_iconst (v := 2) hx hb dL_handOver_19 (by decide) ?_
          exact g_iret C hr hM1 hS1 dL_handOver_20 (by decide) (by decide) ⟨by rw [h1]; rfl, fun k i hi => rfl, (if_neg (by rw [h1]; decide)).symm⟩
        · rw [h1] at hE
          obtain rfl : E = "java/lang/UnsupportedOperationException" := hE
          refine g_catch C htab [⟨0, 10, 13, 36⟩, ⟨0, 10, 17, 28⟩] [] ⟨0, 10, 21, 67⟩ rfl (fun z hz => by
        simp only [List.mem_cons, List.not_mem_nil, or_false] at hz
        rcases hz with rfl | rfl
        · exact ⟨by decide, "java/lang/IndexOutOfBoundsException", t_888, by simp [ncX]⟩
        · exact ⟨by decide, "java/lang/IllegalStateException", t_694, by simp [ncX]⟩) (by decide) (by decide) t_1015 (nst_of n_1027) hcell hv hcl ?_
          refine lv_astore (lv' := [(4, _), (0, _), (1, _), (2, _), (3, _)]) hx hb dL_handOver_21 hl (by decide) rfl (fun ls hl => ?_)
          refine lv_iconst (v := 3) hx hb dL_handOver_23 (by decide) ?_
          exact g_iret C hr hM1 hS1 dL_handOver_24 (by decide) (by decide) ⟨by rw [h1]; rfl, fun k i hi => rfl, (if_neg (by rw [h1]; decide)).symm⟩)
      (fun H locs hc0 hM hS => ?_)
  refine lv_i2l hx hb dL_handOver_8 rfl ?_
  refine g_last C hM hS (by omega) dL_handOver_9 (fun H locs hM hS => ?_)
  refine lv_goto (tgt := 25) hx hb dL_handOver_10 (by decide) ?_
  refine lv_iconst (v := 0) hx hb dL_handOver_25 (by decide) ?_
  exact g_iret C hr hM hS dL_handOver_26 (by decide) (by decide) ⟨by rw [hc0]; rfl, fun k i hi => rfl, by rw [if_pos hc0]⟩
theorem kL_giveBack : CeeH yL_giveBack cL_giveBack 4 (some .int) [(0, 9, 12, 36), (0, 9, 15, 28)] 3 := ⟨t_1121, t_0, t_1122, by decide +kernel, by decide⟩
set_option maxHeartbeats 1500000 in
set_option maxRecDepth 100000 in
theorem h_giveBack {l : Launch} (hfl : l.stackTraces = false) (Γ : Gm) (K : Nat → Nat → Nat) (M : Mem) (x : Int32) (w : Wf M) (h39 : mN M 39 = 1) (h39b : mN (gbkM M (ix x)) 39 = 1) : CT l Γ (gFree Γ) yL_giveBack (wsH yL_giveBack cL_giveBack 4 (some .int) [(0, 9, 12, 36), (0, 9, 15, 28)]) 11 [.ref (K 6 0), .int x, .ref (K 39 0)] K M (HP (rGiveBack M x) (mT (gbkM M (ix x)) 0 3 ((mP M 4 9 (ix x)).getD 0)).toInt64 K M (gbkM M (ix x)) (M)) xNo 2 130 := by
  refine ct_introH hfl (by decide) (Nat.le_of_ble_eq_true rfl) ?_
  intro p e s m args below meth c C htab hr hM ls hl
  have hx := C.1
  have hb := C.2.1
  have hS : va_S (gFree Γ) s.heap s.heap [] := va_S.rf
  have hl : lv_has ls 4 [(0, .ref (K 6 0)), (1, .int x), (2, .ref (K 39 0))] := hl
  refine lv_aload_n hx hb dL_giveBack_0 rfl (lv_at hl 2 rfl) ?_
  refine lv_iconst (v := 0) hx hb dL_giveBack_1 (by decide) ?_
  refine lv_aload_n hx hb dL_giveBack_2 rfl (lv_at hl 0 rfl) ?_
  refine lv_iload_n hx hb dL_giveBack_3 rfl (lv_at hl 1 rfl) ?_
  refine g_cV C hS (fun _ h => h) hM hl (fun _ h => h) (c_giveBack hfl Γ _ _ x w) kX6_giveBack t_1123 (HM.recv C hM clo_6 (wn6 w)) dL_giveBack_4 rfl rfl (Nat.le_of_ble_eq_true rfl) (by decide) rfl ⟨by decide, by decide⟩
    (fun E q9 ce H1 locs1 hE hM1 hS1 hcell hv hcl => by
        obtain ⟨hr0, hE⟩ := hE
        have hle : rGiveBack M x ≤ 2 := by unfold rGiveBack; (repeat' split) <;> omega
        rcases (show rGiveBack M x = 1 ∨ rGiveBack M x = 2 by omega) with h1 | h1
        · rw [h1] at hE
          obtain rfl : E = "java/lang/IndexOutOfBoundsException" := hE
          refine g_catch C htab [] [⟨0, 9, 15, 28⟩] ⟨0, 9, 12, 36⟩ rfl (fun z hz => absurd hz (by simp)) (by decide) (by decide) t_888 (nst_of n_379) hcell hv hcl ?_
          refine lv_astore_n (lv' := [(3, _), (0, _), (1, _), (2, _)]) hx hb dL_giveBack_12 rfl hl (by decide) rfl (fun ls hl => ?_)
          refine lv_iconst (v := 1) hx hb dL_giveBack_13 (by decide) ?_
          exact g_iret C hr hM1 hS1 dL_giveBack_14 (by decide) (by decide) ⟨by rw [h1]; rfl, fun k i hi => rfl, (if_neg (by rw [h1]; decide)).symm⟩
        · rw [h1] at hE
          obtain rfl : E = "java/lang/IllegalStateException" := hE
          refine g_catch C htab [⟨0, 9, 12, 36⟩] [] ⟨0, 9, 15, 28⟩ rfl (fun z hz => by
        simp only [List.mem_cons, List.not_mem_nil, or_false] at hz
        subst hz
        exact ⟨by decide, "java/lang/IndexOutOfBoundsException", t_888, by simp [ncX]⟩) (by decide) (by decide) t_694 (nst_of n_742) hcell hv hcl ?_
          refine lv_astore_n (lv' := [(3, _), (0, _), (1, _), (2, _)]) hx hb dL_giveBack_15 rfl hl (by decide) rfl (fun ls hl => ?_)
          refine lv_iconst (v := 2) hx hb dL_giveBack_16 (by decide) ?_
          exact g_iret C hr hM1 hS1 dL_giveBack_17 (by decide) (by decide) ⟨by rw [h1]; rfl, fun k i hi => rfl, (if_neg (by rw [h1]; decide)).symm⟩)
      (fun H locs hc0 hM hS => ?_)
  refine lv_i2l hx hb dL_giveBack_7 rfl ?_
  refine g_last C hM hS (by omega) dL_giveBack_8 (fun H locs hM hS => ?_)
  refine lv_goto (tgt := 18) hx hb dL_giveBack_9 (by decide) ?_
  refine lv_iconst (v := 0) hx hb dL_giveBack_18 (by decide) ?_
  exact g_iret C hr hM hS dL_giveBack_19 (by decide) (by decide) ⟨by rw [hc0]; rfl, fun k i hi => rfl, by rw [if_pos hc0]⟩
theorem kL_hold : CeeH yL_hold cL_hold 4 (some .int) [(0, 9, 12, 36), (0, 9, 15, 28)] 3 := ⟨t_1128, t_0, t_1129, by decide +kernel, by decide⟩
set_option maxHeartbeats 1500000 in
set_option maxRecDepth 100000 in
theorem h_hold {l : Launch} (hfl : l.stackTraces = false) (Γ : Gm) (K : Nat → Nat → Nat) (M : Mem) (x : Int32) (w : Wf M) (h39 : mN M 39 = 1) (h39b : mN (sT (lqM M (ix x)) 4 6 (ix x) 104) 39 = 1) : CT l Γ (gFree Γ) yL_hold (wsH yL_hold cL_hold 4 (some .int) [(0, 9, 12, 36), (0, 9, 15, 28)]) 9 [.ref (K 6 0), .int x, .ref (K 39 0)] K M (HP (rHold M x) (mT (lqM M (ix x)) 4 7 (ix x)).toInt64 K M (sT (lqM M (ix x)) 4 6 (ix x) 104) (M)) xNo 2 12 := by
  refine ct_introH hfl (by decide) (Nat.le_of_ble_eq_true rfl) ?_
  intro p e s m args below meth c C htab hr hM ls hl
  have hx := C.1
  have hb := C.2.1
  have hS : va_S (gFree Γ) s.heap s.heap [] := va_S.rf
  have hl : lv_has ls 4 [(0, .ref (K 6 0)), (1, .int x), (2, .ref (K 39 0))] := hl
  refine lv_aload_n hx hb dL_hold_0 rfl (lv_at hl 2 rfl) ?_
  refine lv_iconst (v := 0) hx hb dL_hold_1 (by decide) ?_
  refine lv_aload_n hx hb dL_hold_2 rfl (lv_at hl 0 rfl) ?_
  refine lv_iload_n hx hb dL_hold_3 rfl (lv_at hl 1 rfl) ?_
  refine g_cV C hS (fun _ h => h) hM hl (fun _ h => h) (c_hold hfl Γ _ _ x w) kX6_hold t_1130 (HM.recv C hM clo_6 (wn6 w)) dL_hold_4 rfl rfl (Nat.le_of_ble_eq_true rfl) (by decide) rfl ⟨by decide, by decide⟩
    (fun E q9 ce H1 locs1 hE hM1 hS1 hcell hv hcl => by
        obtain ⟨hr0, hE⟩ := hE
        have hle : rHold M x ≤ 2 := by unfold rHold; (repeat' split) <;> omega
        rcases (show rHold M x = 1 ∨ rHold M x = 2 by omega) with h1 | h1
        · rw [h1] at hE
          obtain rfl : E = "java/lang/IndexOutOfBoundsException" := hE
          refine g_catch C htab [] [⟨0, 9, 15, 28⟩] ⟨0, 9, 12, 36⟩ rfl (fun z hz => absurd hz (by simp)) (by decide) (by decide) t_888 (nst_of n_379) hcell hv hcl ?_
          refine lv_astore_n (lv' := [(3, _), (0, _), (1, _), (2, _)]) hx hb dL_hold_12 rfl hl (by decide) rfl (fun ls hl => ?_)
          refine lv_iconst (v := 1) hx hb dL_hold_13 (by decide) ?_
          exact g_iret C hr hM1 hS1 dL_hold_14 (by decide) (by decide) ⟨by rw [h1]; rfl, fun k i hi => rfl, (if_neg (by rw [h1]; decide)).symm⟩
        · rw [h1] at hE
          obtain rfl : E = "java/lang/IllegalStateException" := hE
          refine g_catch C htab [⟨0, 9, 12, 36⟩] [] ⟨0, 9, 15, 28⟩ rfl (fun z hz => by
        simp only [List.mem_cons, List.not_mem_nil, or_false] at hz
        subst hz
        exact ⟨by decide, "java/lang/IndexOutOfBoundsException", t_888, by simp [ncX]⟩) (by decide) (by decide) t_694 (nst_of n_742) hcell hv hcl ?_
          refine lv_astore_n (lv' := [(3, _), (0, _), (1, _), (2, _)]) hx hb dL_hold_15 rfl hl (by decide) rfl (fun ls hl => ?_)
          refine lv_iconst (v := 2) hx hb dL_hold_16 (by decide) ?_
          exact g_iret C hr hM1 hS1 dL_hold_17 (by decide) (by decide) ⟨by rw [h1]; rfl, fun k i hi => rfl, (if_neg (by rw [h1]; decide)).symm⟩)
      (fun H locs hc0 hM hS => ?_)
  refine lv_i2l hx hb dL_hold_7 rfl ?_
  refine g_last C hM hS (by omega) dL_hold_8 (fun H locs hM hS => ?_)
  refine lv_goto (tgt := 18) hx hb dL_hold_9 (by decide) ?_
  refine lv_iconst (v := 0) hx hb dL_hold_18 (by decide) ?_
  exact g_iret C hr hM hS dL_hold_19 (by decide) (by decide) ⟨by rw [hc0]; rfl, fun k i hi => rfl, by rw [if_pos hc0]⟩
theorem kL_resume : CeeH yL_resume cL_resume 4 (some .int) [(0, 9, 12, 36), (0, 9, 15, 28)] 3 := ⟨t_1136, t_0, t_1137, by decide +kernel, by decide⟩
set_option maxHeartbeats 1500000 in
set_option maxRecDepth 100000 in
theorem h_resume {l : Launch} (hfl : l.stackTraces = false) (Γ : Gm) (K : Nat → Nat → Nat) (M : Mem) (x : Int32) (w : Wf M) (h39 : mN M 39 = 1) (h39b : mN (jqM (sT M 4 6 (ix x) 111) (ix x)) 39 = 1) : CT l Γ (gFree Γ) yL_resume (wsH yL_resume cL_resume 4 (some .int) [(0, 9, 12, 36), (0, 9, 15, 28)]) 11 [.ref (K 6 0), .int x, .ref (K 39 0)] K M (HP (rResume M x) (mT (jqM (sT M 4 6 (ix x) 111) (ix x)) 4 7 (ix x)).toInt64 K M (jqM (sT M 4 6 (ix x) 111) (ix x)) (M)) xNo 2 130 := by
  refine ct_introH hfl (by decide) (Nat.le_of_ble_eq_true rfl) ?_
  intro p e s m args below meth c C htab hr hM ls hl
  have hx := C.1
  have hb := C.2.1
  have hS : va_S (gFree Γ) s.heap s.heap [] := va_S.rf
  have hl : lv_has ls 4 [(0, .ref (K 6 0)), (1, .int x), (2, .ref (K 39 0))] := hl
  refine lv_aload_n hx hb dL_resume_0 rfl (lv_at hl 2 rfl) ?_
  refine lv_iconst (v := 0) hx hb dL_resume_1 (by decide) ?_
  refine lv_aload_n hx hb dL_resume_2 rfl (lv_at hl 0 rfl) ?_
  refine lv_iload_n hx hb dL_resume_3 rfl (lv_at hl 1 rfl) ?_
  refine g_cV C hS (fun _ h => h) hM hl (fun _ h => h) (c_resume hfl Γ _ _ x w) kX6_resume t_1138 (HM.recv C hM clo_6 (wn6 w)) dL_resume_4 rfl rfl (Nat.le_of_ble_eq_true rfl) (by decide) rfl ⟨by decide, by decide⟩
    (fun E q9 ce H1 locs1 hE hM1 hS1 hcell hv hcl => by
        obtain ⟨hr0, hE⟩ := hE
        have hle : rResume M x ≤ 2 := by unfold rResume; (repeat' split) <;> omega
        rcases (show rResume M x = 1 ∨ rResume M x = 2 by omega) with h1 | h1
        · rw [h1] at hE
          obtain rfl : E = "java/lang/IndexOutOfBoundsException" := hE
          refine g_catch C htab [] [⟨0, 9, 15, 28⟩] ⟨0, 9, 12, 36⟩ rfl (fun z hz => absurd hz (by simp)) (by decide) (by decide) t_888 (nst_of n_379) hcell hv hcl ?_
          refine lv_astore_n (lv' := [(3, _), (0, _), (1, _), (2, _)]) hx hb dL_resume_12 rfl hl (by decide) rfl (fun ls hl => ?_)
          refine lv_iconst (v := 1) hx hb dL_resume_13 (by decide) ?_
          exact g_iret C hr hM1 hS1 dL_resume_14 (by decide) (by decide) ⟨by rw [h1]; rfl, fun k i hi => rfl, (if_neg (by rw [h1]; decide)).symm⟩
        · rw [h1] at hE
          obtain rfl : E = "java/lang/IllegalStateException" := hE
          refine g_catch C htab [⟨0, 9, 12, 36⟩] [] ⟨0, 9, 15, 28⟩ rfl (fun z hz => by
        simp only [List.mem_cons, List.not_mem_nil, or_false] at hz
        subst hz
        exact ⟨by decide, "java/lang/IndexOutOfBoundsException", t_888, by simp [ncX]⟩) (by decide) (by decide) t_694 (nst_of n_742) hcell hv hcl ?_
          refine lv_astore_n (lv' := [(3, _), (0, _), (1, _), (2, _)]) hx hb dL_resume_15 rfl hl (by decide) rfl (fun ls hl => ?_)
          refine lv_iconst (v := 2) hx hb dL_resume_16 (by decide) ?_
          exact g_iret C hr hM1 hS1 dL_resume_17 (by decide) (by decide) ⟨by rw [h1]; rfl, fun k i hi => rfl, (if_neg (by rw [h1]; decide)).symm⟩)
      (fun H locs hc0 hM hS => ?_)
  refine lv_i2l hx hb dL_resume_7 rfl ?_
  refine g_last C hM hS (by omega) dL_resume_8 (fun H locs hM hS => ?_)
  refine lv_goto (tgt := 18) hx hb dL_resume_9 (by decide) ?_
  refine lv_iconst (v := 0) hx hb dL_resume_18 (by decide) ?_
  exact g_iret C hr hM hS dL_resume_19 (by decide) (by decide) ⟨by rw [hc0]; rfl, fun k i hi => rfl, by rw [if_pos hc0]⟩
theorem kL_answer : CeeH yL_answer cL_answer 5 (some .int) [(0, 10, 13, 36), (0, 10, 17, 28), (0, 10, 21, 26)] 4 := ⟨t_1144, t_0, t_1145, by decide +kernel, by decide⟩
set_option maxHeartbeats 1500000 in
set_option maxRecDepth 100000 in
theorem h_answer {l : Launch} (hfl : l.stackTraces = false) (Γ : Gm) (K : Nat → Nat → Nat) (M : Mem) (x : Int32) (y : Int32) (w : Wf M) (h39 : mN M 39 = 1) (h39b : mN (ansP M (ix x) (if y = -1 then none else some (ix y))) 39 = 1) : CT l Γ (gFree Γ) yL_answer (wsH yL_answer cL_answer 5 (some .int) [(0, 10, 13, 36), (0, 10, 17, 28), (0, 10, 21, 26)]) 10 [.ref (K 6 0), .int x, .int y, .ref (K 39 0)] K M (HP (rAnswer M x y) (mT (ansP M (ix x) (if y = -1 then none else some (ix y))) 4 7 (ix x)).toInt64 K M (ansP M (ix x) (if y = -1 then none else some (ix y))) (M)) xNo 3 20 := by
  refine ct_introH hfl (by decide) (Nat.le_of_ble_eq_true rfl) ?_
  intro p e s m args below meth c C htab hr hM ls hl
  have hx := C.1
  have hb := C.2.1
  have hS : va_S (gFree Γ) s.heap s.heap [] := va_S.rf
  have hl : lv_has ls 5 [(0, .ref (K 6 0)), (1, .int x), (2, .int y), (3, .ref (K 39 0))] := hl
  refine lv_aload_n hx hb dL_answer_0 rfl (lv_at hl 3 rfl) ?_
  refine lv_iconst (v := 0) hx hb dL_answer_1 (by decide) ?_
  refine lv_aload_n hx hb dL_answer_2 rfl (lv_at hl 0 rfl) ?_
  refine lv_iload_n hx hb dL_answer_3 rfl (lv_at hl 1 rfl) ?_
  refine lv_iload_n hx hb dL_answer_4 rfl (lv_at hl 2 rfl) ?_
  refine g_cV C hS (fun _ h => h) hM hl (fun _ h => h) (c_answer hfl Γ _ _ x y w) kX6_answer t_1146 (HM.recv C hM clo_6 (wn6 w)) dL_answer_5 rfl rfl (Nat.le_of_ble_eq_true rfl) (by decide) rfl ⟨by decide, by decide⟩
    (fun E q9 ce H1 locs1 hE hM1 hS1 hcell hv hcl => by
        obtain ⟨hr0, hE⟩ := hE
        have hle : rAnswer M x y ≤ 3 := by unfold rAnswer; (repeat' split) <;> omega
        rcases (show rAnswer M x y = 1 ∨ rAnswer M x y = 2 ∨ rAnswer M x y = 3 by omega) with h1 | h1 | h1
        · rw [h1] at hE
          obtain rfl : E = "java/lang/IndexOutOfBoundsException" := hE
          refine g_catch C htab [] [⟨0, 10, 17, 28⟩, ⟨0, 10, 21, 26⟩] ⟨0, 10, 13, 36⟩ rfl (fun z hz => absurd hz (by simp)) (by decide) (by decide) t_888 (nst_of n_379) hcell hv hcl ?_
          refine lv_astore (lv' := [(4, _), (0, _), (1, _), (2, _), (3, _)]) hx hb dL_answer_13 hl (by decide) rfl (fun ls hl => ?_)
          refine lv_iconst (v := 1) hx hb dL_answer_15 (by decide) ?_
          exact g_iret C hr hM1 hS1 dL_answer_16 (by decide) (by decide) ⟨by rw [h1]; rfl, fun k i hi => rfl, (if_neg (by rw [h1]; decide)).symm⟩
        · rw [h1] at hE
          obtain rfl : E = "java/lang/IllegalStateException" := hE
          refine g_catch C htab [⟨0, 10, 13, 36⟩] [⟨0, 10, 21, 26⟩] ⟨0, 10, 17, 28⟩ rfl (fun z hz => by
        simp only [List.mem_cons, List.not_mem_nil, or_false] at hz
        subst hz
        exact ⟨by decide, "java/lang/IndexOutOfBoundsException", t_888, by simp [ncX]⟩) (by decide) (by decide) t_694 (nst_of n_742) hcell hv hcl ?_
          refine lv_astore (lv' := [(4, _), (0, _), (1, _), (2, _), (3, _)]) hx hb dL_answer_17 hl (by decide) rfl (fun ls hl => ?_)
          refine lv_iconst (v := 2) hx hb dL_answer_19 (by decide) ?_
          exact g_iret C hr hM1 hS1 dL_answer_20 (by decide) (by decide) ⟨by rw [h1]; rfl, fun k i hi => rfl, (if_neg (by rw [h1]; decide)).symm⟩
        · rw [h1] at hE
          obtain rfl : E = "java/util/NoSuchElementException" := hE
          refine g_catch C htab [⟨0, 10, 13, 36⟩, ⟨0, 10, 17, 28⟩] [] ⟨0, 10, 21, 26⟩ rfl (fun z hz => by
        simp only [List.mem_cons, List.not_mem_nil, or_false] at hz
        rcases hz with rfl | rfl
        · exact ⟨by decide, "java/lang/IndexOutOfBoundsException", t_888, by simp [ncX]⟩
        · exact ⟨by decide, "java/lang/IllegalStateException", t_694, by simp [ncX]⟩) (by decide) (by decide) t_693 (nst_of n_708) hcell hv hcl ?_
          refine lv_astore (lv' := [(4, _), (0, _), (1, _), (2, _), (3, _)]) hx hb dL_answer_21 hl (by decide) rfl (fun ls hl => ?_)
          refine lv_iconst (v := 3) hx hb dL_answer_23 (by decide) ?_
          exact g_iret C hr hM1 hS1 dL_answer_24 (by decide) (by decide) ⟨by rw [h1]; rfl, fun k i hi => rfl, (if_neg (by rw [h1]; decide)).symm⟩)
      (fun H locs hc0 hM hS => ?_)
  refine lv_i2l hx hb dL_answer_8 rfl ?_
  refine g_last C hM hS (by omega) dL_answer_9 (fun H locs hM hS => ?_)
  refine lv_goto (tgt := 25) hx hb dL_answer_10 (by decide) ?_
  refine lv_iconst (v := 0) hx hb dL_answer_25 (by decide) ?_
  exact g_iret C hr hM hS dL_answer_26 (by decide) (by decide) ⟨by rw [hc0]; rfl, fun k i hi => rfl, by rw [if_pos hc0]⟩
theorem kL_close : CeeH yL_close cL_close 4 (some .int) [(0, 9, 12, 36), (0, 9, 15, 28)] 3 := ⟨t_1162, t_0, t_1163, by decide +kernel, by decide⟩
set_option maxHeartbeats 1500000 in
set_option maxRecDepth 100000 in
theorem h_close {l : Launch} (hfl : l.stackTraces = false) (Γ : Gm) (K : Nat → Nat → Nat) (M : Mem) (x : Int32) (w : Wf M) (h39 : mN M 39 = 1) (h39b : mN (clsM M (ix x)) 39 = 1) : CT l Γ (gFree Γ) yL_close (wsH yL_close cL_close 4 (some .int) [(0, 9, 12, 36), (0, 9, 15, 28)]) 10 [.ref (K 6 0), .int x, .ref (K 39 0)] K M (HP (rClose M x) (ccN (clsM M (ix x)) (mN M 4)).toInt64 K M (clsM M (ix x)) (M)) xNo 2 12 := by
  refine ct_introH hfl (by decide) (Nat.le_of_ble_eq_true rfl) ?_
  intro p e s m args below meth c C htab hr hM ls hl
  have hx := C.1
  have hb := C.2.1
  have hS : va_S (gFree Γ) s.heap s.heap [] := va_S.rf
  have hl : lv_has ls 4 [(0, .ref (K 6 0)), (1, .int x), (2, .ref (K 39 0))] := hl
  refine lv_aload_n hx hb dL_close_0 rfl (lv_at hl 2 rfl) ?_
  refine lv_iconst (v := 0) hx hb dL_close_1 (by decide) ?_
  refine lv_aload_n hx hb dL_close_2 rfl (lv_at hl 0 rfl) ?_
  refine lv_iload_n hx hb dL_close_3 rfl (lv_at hl 1 rfl) ?_
  refine g_cV C hS (fun _ h => h) hM hl (fun _ h => h) (c_close hfl Γ _ _ x w) kX6_close t_1164 (HM.recv C hM clo_6 (wn6 w)) dL_close_4 rfl rfl (Nat.le_of_ble_eq_true rfl) (by decide) rfl ⟨by decide, by decide⟩
    (fun E q9 ce H1 locs1 hE hM1 hS1 hcell hv hcl => by
        obtain ⟨hr0, hE⟩ := hE
        have hle : rClose M x ≤ 2 := by unfold rClose; (repeat' split) <;> omega
        rcases (show rClose M x = 1 ∨ rClose M x = 2 by omega) with h1 | h1
        · rw [h1] at hE
          obtain rfl : E = "java/lang/IndexOutOfBoundsException" := hE
          refine g_catch C htab [] [⟨0, 9, 15, 28⟩] ⟨0, 9, 12, 36⟩ rfl (fun z hz => absurd hz (by simp)) (by decide) (by decide) t_888 (nst_of n_379) hcell hv hcl ?_
          refine lv_astore_n (lv' := [(3, _), (0, _), (1, _), (2, _)]) hx hb dL_close_12 rfl hl (by decide) rfl (fun ls hl => ?_)
          refine lv_iconst (v := 1) hx hb dL_close_13 (by decide) ?_
          exact g_iret C hr hM1 hS1 dL_close_14 (by decide) (by decide) ⟨by rw [h1]; rfl, fun k i hi => rfl, (if_neg (by rw [h1]; decide)).symm⟩
        · rw [h1] at hE
          obtain rfl : E = "java/lang/IllegalStateException" := hE
          refine g_catch C htab [⟨0, 9, 12, 36⟩] [] ⟨0, 9, 15, 28⟩ rfl (fun z hz => by
        simp only [List.mem_cons, List.not_mem_nil, or_false] at hz
        subst hz
        exact ⟨by decide, "java/lang/IndexOutOfBoundsException", t_888, by simp [ncX]⟩) (by decide) (by decide) t_694 (nst_of n_742) hcell hv hcl ?_
          refine lv_astore_n (lv' := [(3, _), (0, _), (1, _), (2, _)]) hx hb dL_close_15 rfl hl (by decide) rfl (fun ls hl => ?_)
          refine lv_iconst (v := 2) hx hb dL_close_16 (by decide) ?_
          exact g_iret C hr hM1 hS1 dL_close_17 (by decide) (by decide) ⟨by rw [h1]; rfl, fun k i hi => rfl, (if_neg (by rw [h1]; decide)).symm⟩)
      (fun H locs hc0 hM hS => ?_)
  refine lv_i2l hx hb dL_close_7 rfl ?_
  refine g_last C hM hS (by omega) dL_close_8 (fun H locs hM hS => ?_)
  refine lv_goto (tgt := 18) hx hb dL_close_9 (by decide) ?_
  refine lv_iconst (v := 0) hx hb dL_close_18 (by decide) ?_
  exact g_iret C hr hM hS dL_close_19 (by decide) (by decide) ⟨by rw [hc0]; rfl, fun k i hi => rfl, by rw [if_pos hc0]⟩
theorem kL_merge : CeeH yL_merge cL_merge 5 (some .int) [(0, 10, 13, 36), (0, 10, 17, 13), (0, 10, 21, 28), (0, 10, 25, 67)] 4 := ⟨t_1179, t_0, t_1180, by decide +kernel, by decide⟩
set_option maxHeartbeats 1500000 in
set_option maxRecDepth 100000 in
theorem h_merge {l : Launch} (hfl : l.stackTraces = false) (Γ : Gm) (K : Nat → Nat → Nat) (M : Mem) (x : Int32) (y : Int32) (w : Wf M) (hlen : ∀ i j, i < mN M 4 → j < mN M 4 → i ≠ j → (mL M 8 i).length + (mL M 8 j).length ≤ 80) (h39 : mN M 39 = 1) (h39b : mN (mrgM M (ix x) (ix y)) 39 = 1) : CT l Γ (gFree Γ) yL_merge (wsH yL_merge cL_merge 5 (some .int) [(0, 10, 13, 36), (0, 10, 17, 13), (0, 10, 21, 28), (0, 10, 25, 67)]) 11 [.ref (K 6 0), .int x, .int y, .ref (K 39 0)] K M (HP (rMerge M x y) (nI (mL (mrgM M (ix x) (ix y)) 8 (ix y)).length).toInt64 K M (mrgM M (ix x) (ix y)) (M)) xNo 90 9800 := by
  refine ct_introH hfl (by decide) (Nat.le_of_ble_eq_true rfl) ?_
  intro p e s m args below meth c C htab hr hM ls hl
  have hx := C.1
  have hb := C.2.1
  have hS : va_S (gFree Γ) s.heap s.heap [] := va_S.rf
  have hl : lv_has ls 5 [(0, .ref (K 6 0)), (1, .int x), (2, .int y), (3, .ref (K 39 0))] := hl
  refine lv_aload_n hx hb dL_merge_0 rfl (lv_at hl 3 rfl) ?_
  refine lv_iconst (v := 0) hx hb dL_merge_1 (by decide) ?_
  refine lv_aload_n hx hb dL_merge_2 rfl (lv_at hl 0 rfl) ?_
  refine lv_iload_n hx hb dL_merge_3 rfl (lv_at hl 1 rfl) ?_
  refine lv_iload_n hx hb dL_merge_4 rfl (lv_at hl 2 rfl) ?_
  refine g_cV C hS (fun _ h => h) hM hl (fun _ h => h) (c_merge hfl Γ _ _ x y w hlen) kX6_merge t_1181 (HM.recv C hM clo_6 (wn6 w)) dL_merge_5 rfl rfl (Nat.le_of_ble_eq_true rfl) (by decide) rfl ⟨by decide, by decide⟩
    (fun E q9 ce H1 locs1 hE hM1 hS1 hcell hv hcl => by
        obtain ⟨hr0, hE⟩ := hE
        have hle : rMerge M x y ≤ 4 := by unfold rMerge; (repeat' split) <;> omega
        rcases (show rMerge M x y = 1 ∨ rMerge M x y = 2 ∨ rMerge M x y = 3 ∨ rMerge M x y = 4 by omega) with h1 | h1 | h1 | h1
        · rw [h1] at hE
          obtain rfl : E = "java/lang/IndexOutOfBoundsException" := hE
          refine g_catch C htab [] [⟨0, 10, 17, 13⟩, ⟨0, 10, 21, 28⟩, ⟨0, 10, 25, 67⟩] ⟨0, 10, 13, 36⟩ rfl (fun z hz => absurd hz (by simp)) (by decide) (by decide) t_888 (nst_of n_379) hcell hv hcl ?_
          refine lv_astore (lv' := [(4, _), (0, _), (1, _), (2, _), (3, _)]) hx hb dL_merge_13 hl (by decide) rfl (fun ls hl => ?_)
          refine lv_iconst (v := 1) hx hb dL_merge_15 (by decide) ?_
          exact g_iret C hr hM1 hS1 dL_merge_16 (by decide) (by decide) ⟨by rw [h1]; rfl, fun k i hi => rfl, (if_neg (by rw [h1]; decide)).symm⟩
        · rw [h1] at hE
          obtain rfl : E = "java/lang/IllegalArgumentException" := hE
          refine g_catch C htab [⟨0, 10, 13, 36⟩] [⟨0, 10, 21, 28⟩, ⟨0, 10, 25, 67⟩] ⟨0, 10, 17, 13⟩ rfl (fun z hz => by
        simp only [List.mem_cons, List.not_mem_nil, or_false] at hz
        subst hz
        exact ⟨by decide, "java/lang/IndexOutOfBoundsException", t_888, by simp [ncX]⟩) (by decide) (by decide) t_252 (nst_of n_262) hcell hv hcl ?_
          refine lv_astore (lv' := [(4, _), (0, _), (1, _), (2, _), (3, _)]) hx hb dL_merge_17 hl (by decide) rfl (fun ls hl => ?_)
          refine lv_iconst (v := 2) hx hb dL_merge_19 (by decide) ?_
          exact g_iret C hr hM1 hS1 dL_merge_20 (by decide) (by decide) ⟨by rw [h1]; rfl, fun k i hi => rfl, (if_neg (by rw [h1]; decide)).symm⟩
        · rw [h1] at hE
          obtain rfl : E = "java/lang/IllegalStateException" := hE
          refine g_catch C htab [⟨0, 10, 13, 36⟩, ⟨0, 10, 17, 13⟩] [⟨0, 10, 25, 67⟩] ⟨0, 10, 21, 28⟩ rfl (fun z hz => by
        simp only [List.mem_cons, List.not_mem_nil, or_false] at hz
        rcases hz with rfl | rfl
        · exact ⟨by decide, "java/lang/IndexOutOfBoundsException", t_888, by simp [ncX]⟩
        · exact ⟨by decide, "java/lang/IllegalArgumentException", t_252, by simp [ncX]⟩) (by decide) (by decide) t_694 (nst_of n_742) hcell hv hcl ?_
          refine lv_astore (lv' := [(4, _), (0, _), (1, _), (2, _), (3, _)]) hx hb dL_merge_21 hl (by decide) rfl (fun ls hl => ?_)
          refine lv_iconst (v := 3) hx hb dL_merge_23 (by decide) ?_
          exact g_iret C hr hM1 hS1 dL_merge_24 (by decide) (by decide) ⟨by rw [h1]; rfl, fun k i hi => rfl, (if_neg (by rw [h1]; decide)).symm⟩
        · rw [h1] at hE
          obtain rfl : E = "java/lang/UnsupportedOperationException" := hE
          refine g_catch C htab [⟨0, 10, 13, 36⟩, ⟨0, 10, 17, 13⟩, ⟨0, 10, 21, 28⟩] [] ⟨0, 10, 25, 67⟩ rfl (fun z hz => by
        simp only [List.mem_cons, List.not_mem_nil, or_false] at hz
        rcases hz with rfl | rfl | rfl
        · exact ⟨by decide, "java/lang/IndexOutOfBoundsException", t_888, by simp [ncX]⟩
        · exact ⟨by decide, "java/lang/IllegalArgumentException", t_252, by simp [ncX]⟩
        · exact ⟨by decide, "java/lang/IllegalStateException", t_694, by simp [ncX]⟩) (by decide) (by decide) t_1015 (nst_of n_1027) hcell hv hcl ?_
          refine lv_astore (lv' := [(4, _), (0, _), (1, _), (2, _), (3, _)]) hx hb dL_merge_25 hl (by decide) rfl (fun ls hl => ?_)
          refine lv_iconst (v := 4) hx hb dL_merge_27 (by decide) ?_
          exact g_iret C hr hM1 hS1 dL_merge_28 (by decide) (by decide) ⟨by rw [h1]; rfl, fun k i hi => rfl, (if_neg (by rw [h1]; decide)).symm⟩)
      (fun H locs hc0 hM hS => ?_)
  refine lv_i2l hx hb dL_merge_8 rfl ?_
  refine g_last C hM hS (by omega) dL_merge_9 (fun H locs hM hS => ?_)
  refine lv_goto (tgt := 29) hx hb dL_merge_10 (by decide) ?_
  refine lv_iconst (v := 0) hx hb dL_merge_29 (by decide) ?_
  exact g_iret C hr hM hS dL_merge_30 (by decide) (by decide) ⟨by rw [hc0]; rfl, fun k i hi => rfl, by rw [if_pos hc0]⟩
theorem kL_addAnswer : CeeH yL_addAnswer cL_addAnswer 4 (some .int) [(0, 9, 12, 13), (0, 9, 15, 28)] 3 := ⟨t_1198, t_0, t_1199, by decide +kernel, by decide⟩
set_option maxHeartbeats 1500000 in
set_option maxRecDepth 100000 in
theorem h_addAnswer {l : Launch} (hfl : l.stackTraces = false) (Γ : Gm) (K : Nat → Nat → Nat) (M : Mem) (x : Int32) (w : Wf M) (vp : VP M) (h39 : mN M 39 = 1) (h39b : mN (awN (prM M x) x (mN M 3) 10) 39 = 1) : CT l Γ (gFree Γ) yL_addAnswer (wsH yL_addAnswer cL_addAnswer 4 (some .int) [(0, 9, 12, 13), (0, 9, 15, 28)]) 9 [.ref (K 6 0), .int x, .ref (K 39 0)] K M (HP (rAddAnswer M x) (nI (mN M 3)).toInt64 K M (awN (prM M x) x (mN M 3) 10) (M)) xNo 4 140 := by
  refine ct_introH hfl (by decide) (Nat.le_of_ble_eq_true rfl) ?_
  intro p e s m args below meth c C htab hr hM ls hl
  have hx := C.1
  have hb := C.2.1
  have hS : va_S (gFree Γ) s.heap s.heap [] := va_S.rf
  have hl : lv_has ls 4 [(0, .ref (K 6 0)), (1, .int x), (2, .ref (K 39 0))] := hl
  refine lv_aload_n hx hb dL_addAnswer_0 rfl (lv_at hl 2 rfl) ?_
  refine lv_iconst (v := 0) hx hb dL_addAnswer_1 (by decide) ?_
  refine lv_aload_n hx hb dL_addAnswer_2 rfl (lv_at hl 0 rfl) ?_
  refine lv_iload_n hx hb dL_addAnswer_3 rfl (lv_at hl 1 rfl) ?_
  refine g_cVK C hS (fun _ h => h) hM hl (fun _ h => h) (c_addAnswer hfl Γ _ _ x w vp) kX6_addAnswer t_1200 (HM.recv C hM clo_6 (wn6 w)) dL_addAnswer_4 rfl rfl (Nat.le_of_ble_eq_true rfl) (by decide) rfl ⟨by decide, by decide⟩
    (fun E q9 ce H1 locs1 hE hM1 hS1 hcell hv hcl => by
        obtain ⟨hr0, hE⟩ := hE
        have hle : rAddAnswer M x ≤ 2 := by unfold rAddAnswer; (repeat' split) <;> omega
        rcases (show rAddAnswer M x = 1 ∨ rAddAnswer M x = 2 by omega) with h1 | h1
        · rw [h1] at hE
          obtain rfl : E = "java/lang/IllegalArgumentException" := hE
          refine g_catch C htab [] [⟨0, 9, 15, 28⟩] ⟨0, 9, 12, 13⟩ rfl (fun z hz => absurd hz (by simp)) (by decide) (by decide) t_252 (nst_of n_262) hcell hv hcl ?_
          refine lv_astore_n (lv' := [(3, _), (0, _), (1, _), (2, _)]) hx hb dL_addAnswer_12 rfl hl (by decide) rfl (fun ls hl => ?_)
          refine lv_iconst (v := 1) hx hb dL_addAnswer_13 (by decide) ?_
          exact g_iret C hr hM1 hS1 dL_addAnswer_14 (by decide) (by decide) ⟨by rw [h1]; rfl, fun k i hi => rfl, (if_neg (by rw [h1]; decide)).symm⟩
        · rw [h1] at hE
          obtain rfl : E = "java/lang/IllegalStateException" := hE
          refine g_catch C htab [⟨0, 9, 12, 13⟩] [] ⟨0, 9, 15, 28⟩ rfl (fun z hz => by
        simp only [List.mem_cons, List.not_mem_nil, or_false] at hz
        subst hz
        exact ⟨by decide, "java/lang/IllegalArgumentException", t_252, by simp [ncX]⟩) (by decide) (by decide) t_694 (nst_of n_742) hcell hv hcl ?_
          refine lv_astore_n (lv' := [(3, _), (0, _), (1, _), (2, _)]) hx hb dL_addAnswer_15 rfl hl (by decide) rfl (fun ls hl => ?_)
          refine lv_iconst (v := 2) hx hb dL_addAnswer_16 (by decide) ?_
          exact g_iret C hr hM1 hS1 dL_addAnswer_17 (by decide) (by decide) ⟨by rw [h1]; rfl, fun k i hi => rfl, (if_neg (by rw [h1]; decide)).symm⟩)
      (fun K1 H locs hc0 hKK hM hS => ?_)
  rw [← hKK 39 0 (by omega)]
  refine lv_i2l hx hb dL_addAnswer_7 rfl ?_
  refine g_last C hM hS (by omega) dL_addAnswer_8 (fun H locs hM hS => ?_)
  refine lv_goto (tgt := 18) hx hb dL_addAnswer_9 (by decide) ?_
  refine lv_iconst (v := 0) hx hb dL_addAnswer_18 (by decide) ?_
  exact g_iret C hr hM hS dL_addAnswer_19 (by decide) (by decide) ⟨by rw [hc0]; rfl, hKK, by rw [if_pos hc0]⟩
theorem kL_weight : CeeH yL_weight cL_weight 5 (some .int) [(0, 10, 13, 26), (0, 10, 17, 13)] 4 := ⟨t_1221, t_0, t_1222, by decide +kernel, by decide⟩
set_option maxHeartbeats 1500000 in
set_option maxRecDepth 100000 in
theorem h_weight {l : Launch} (hfl : l.stackTraces = false) (Γ : Gm) (K : Nat → Nat → Nat) (M : Mem) (x : Int32) (y : Int32) (w : Wf M) (h39 : mN M 39 = 1) (h39b : mN (M) 39 = 1) : CT l Γ (gFree Γ) yL_weight (wsH yL_weight cL_weight 5 (some .int) [(0, 10, 13, 26), (0, 10, 17, 13)]) 9 [.ref (K 6 0), .int x, .int y, .ref (K 39 0)] K M (HP (rWeight M x y) (mT M 14 (ix y) (ix x)).toInt64 K M (M) (M)) xNo 2 12 := by
  refine ct_introH hfl (by decide) (Nat.le_of_ble_eq_true rfl) ?_
  intro p e s m args below meth c C htab hr hM ls hl
  have hx := C.1
  have hb := C.2.1
  have hS : va_S (gFree Γ) s.heap s.heap [] := va_S.rf
  have hl : lv_has ls 5 [(0, .ref (K 6 0)), (1, .int x), (2, .int y), (3, .ref (K 39 0))] := hl
  refine lv_aload_n hx hb dL_weight_0 rfl (lv_at hl 3 rfl) ?_
  refine lv_iconst (v := 0) hx hb dL_weight_1 (by decide) ?_
  refine lv_aload_n hx hb dL_weight_2 rfl (lv_at hl 0 rfl) ?_
  refine lv_iload_n hx hb dL_weight_3 rfl (lv_at hl 1 rfl) ?_
  refine lv_iload_n hx hb dL_weight_4 rfl (lv_at hl 2 rfl) ?_
  refine g_cV C hS (fun _ h => h) hM hl (fun _ h => h.elim) (c_weight hfl Γ _ _ x y w) kX6_weight t_1223 (HM.recv C hM clo_6 (wn6 w)) dL_weight_5 rfl rfl (Nat.le_of_ble_eq_true rfl) (by decide) rfl ⟨by decide, by decide⟩
    (fun E q9 ce H1 locs1 hE hM1 hS1 hcell hv hcl => by
        obtain ⟨hr0, hE⟩ := hE
        have hle : rWeight M x y ≤ 2 := by unfold rWeight; (repeat' split) <;> omega
        rcases (show rWeight M x y = 1 ∨ rWeight M x y = 2 by omega) with h1 | h1
        · rw [h1] at hE
          obtain rfl : E = "java/util/NoSuchElementException" := hE
          refine g_catch C htab [] [⟨0, 10, 17, 13⟩] ⟨0, 10, 13, 26⟩ rfl (fun z hz => absurd hz (by simp)) (by decide) (by decide) t_693 (nst_of n_708) hcell hv hcl ?_
          refine lv_astore (lv' := [(4, _), (0, _), (1, _), (2, _), (3, _)]) hx hb dL_weight_13 hl (by decide) rfl (fun ls hl => ?_)
          refine lv_iconst (v := 1) hx hb dL_weight_15 (by decide) ?_
          exact g_iret C hr hM1 hS1 dL_weight_16 (by decide) (by decide) ⟨by rw [h1]; rfl, fun k i hi => rfl, (if_neg (by rw [h1]; decide)).symm⟩
        · rw [h1] at hE
          obtain rfl : E = "java/lang/IllegalArgumentException" := hE
          refine g_catch C htab [⟨0, 10, 13, 26⟩] [] ⟨0, 10, 17, 13⟩ rfl (fun z hz => by
        simp only [List.mem_cons, List.not_mem_nil, or_false] at hz
        subst hz
        exact ⟨by decide, "java/util/NoSuchElementException", t_693, by simp [ncX]⟩) (by decide) (by decide) t_252 (nst_of n_262) hcell hv hcl ?_
          refine lv_astore (lv' := [(4, _), (0, _), (1, _), (2, _), (3, _)]) hx hb dL_weight_17 hl (by decide) rfl (fun ls hl => ?_)
          refine lv_iconst (v := 2) hx hb dL_weight_19 (by decide) ?_
          exact g_iret C hr hM1 hS1 dL_weight_20 (by decide) (by decide) ⟨by rw [h1]; rfl, fun k i hi => rfl, (if_neg (by rw [h1]; decide)).symm⟩)
      (fun H locs hc0 hM hS => ?_)
  refine lv_i2l hx hb dL_weight_8 rfl ?_
  refine g_last C hM hS (by omega) dL_weight_9 (fun H locs hM hS => ?_)
  refine lv_goto (tgt := 21) hx hb dL_weight_10 (by decide) ?_
  refine lv_iconst (v := 0) hx hb dL_weight_21 (by decide) ?_
  exact g_iret C hr hM hS dL_weight_22 (by decide) (by decide) ⟨by rw [hc0]; rfl, fun k i hi => rfl, by rw [if_pos hc0]⟩
theorem kL_suggestion : CeeH yL_suggestion cL_suggestion 4 (some .int) [(0, 9, 12, 36), (0, 9, 15, 26)] 3 := ⟨t_1228, t_0, t_1229, by decide +kernel, by decide⟩
set_option maxHeartbeats 1500000 in
set_option maxRecDepth 100000 in
theorem h_suggestion {l : Launch} (hfl : l.stackTraces = false) (Γ : Gm) (K : Nat → Nat → Nat) (M : Mem) (x : Int32) (w : Wf M) (h39 : mN M 39 = 1) (h39b : mN (M) 39 = 1) : CT l Γ (gFree Γ) yL_suggestion (wsH yL_suggestion cL_suggestion 4 (some .int) [(0, 9, 12, 36), (0, 9, 15, 26)]) 9 [.ref (K 6 0), .int x, .ref (K 39 0)] K M (HP (rSuggestion M x) ((baN M (ix x) (mN M 3)).1).toInt64 K M (M) (M)) xNo 3 20 := by
  refine ct_introH hfl (by decide) (Nat.le_of_ble_eq_true rfl) ?_
  intro p e s m args below meth c C htab hr hM ls hl
  have hx := C.1
  have hb := C.2.1
  have hS : va_S (gFree Γ) s.heap s.heap [] := va_S.rf
  have hl : lv_has ls 4 [(0, .ref (K 6 0)), (1, .int x), (2, .ref (K 39 0))] := hl
  refine lv_aload_n hx hb dL_suggestion_0 rfl (lv_at hl 2 rfl) ?_
  refine lv_iconst (v := 0) hx hb dL_suggestion_1 (by decide) ?_
  refine lv_aload_n hx hb dL_suggestion_2 rfl (lv_at hl 0 rfl) ?_
  refine lv_iload_n hx hb dL_suggestion_3 rfl (lv_at hl 1 rfl) ?_
  refine g_cV C hS (fun _ h => h) hM hl (fun _ h => h.elim) (c_suggestion hfl Γ _ _ x w) kX6_suggestion t_1230 (HM.recv C hM clo_6 (wn6 w)) dL_suggestion_4 rfl rfl (Nat.le_of_ble_eq_true rfl) (by decide) rfl ⟨by decide, by decide⟩
    (fun E q9 ce H1 locs1 hE hM1 hS1 hcell hv hcl => by
        obtain ⟨hr0, hE⟩ := hE
        have hle : rSuggestion M x ≤ 2 := by unfold rSuggestion; (repeat' split) <;> omega
        rcases (show rSuggestion M x = 1 ∨ rSuggestion M x = 2 by omega) with h1 | h1
        · rw [h1] at hE
          obtain rfl : E = "java/lang/IndexOutOfBoundsException" := hE
          refine g_catch C htab [] [⟨0, 9, 15, 26⟩] ⟨0, 9, 12, 36⟩ rfl (fun z hz => absurd hz (by simp)) (by decide) (by decide) t_888 (nst_of n_379) hcell hv hcl ?_
          refine lv_astore_n (lv' := [(3, _), (0, _), (1, _), (2, _)]) hx hb dL_suggestion_12 rfl hl (by decide) rfl (fun ls hl => ?_)
          refine lv_iconst (v := 1) hx hb dL_suggestion_13 (by decide) ?_
          exact g_iret C hr hM1 hS1 dL_suggestion_14 (by decide) (by decide) ⟨by rw [h1]; rfl, fun k i hi => rfl, (if_neg (by rw [h1]; decide)).symm⟩
        · rw [h1] at hE
          obtain rfl : E = "java/util/NoSuchElementException" := hE
          refine g_catch C htab [⟨0, 9, 12, 36⟩] [] ⟨0, 9, 15, 26⟩ rfl (fun z hz => by
        simp only [List.mem_cons, List.not_mem_nil, or_false] at hz
        subst hz
        exact ⟨by decide, "java/lang/IndexOutOfBoundsException", t_888, by simp [ncX]⟩) (by decide) (by decide) t_693 (nst_of n_708) hcell hv hcl ?_
          refine lv_astore_n (lv' := [(3, _), (0, _), (1, _), (2, _)]) hx hb dL_suggestion_15 rfl hl (by decide) rfl (fun ls hl => ?_)
          refine lv_iconst (v := 2) hx hb dL_suggestion_16 (by decide) ?_
          exact g_iret C hr hM1 hS1 dL_suggestion_17 (by decide) (by decide) ⟨by rw [h1]; rfl, fun k i hi => rfl, (if_neg (by rw [h1]; decide)).symm⟩)
      (fun H locs hc0 hM hS => ?_)
  refine lv_i2l hx hb dL_suggestion_7 rfl ?_
  refine g_last C hM hS (by omega) dL_suggestion_8 (fun H locs hM hS => ?_)
  refine lv_goto (tgt := 18) hx hb dL_suggestion_9 (by decide) ?_
  refine lv_iconst (v := 0) hx hb dL_suggestion_18 (by decide) ?_
  exact g_iret C hr hM hS dL_suggestion_19 (by decide) (by decide) ⟨by rw [hc0]; rfl, fun k i hi => rfl, by rw [if_pos hc0]⟩
theorem kL_suggestionByWords : CeeH yL_suggestionByWords cL_suggestionByWords 4 (some .int) [(0, 9, 12, 36), (0, 9, 15, 26)] 3 := ⟨t_1240, t_0, t_1241, by decide +kernel, by decide⟩
set_option maxHeartbeats 1500000 in
set_option maxRecDepth 100000 in
theorem h_suggestionByWords {l : Launch} (hfl : l.stackTraces = false) (Γ : Gm) (K : Nat → Nat → Nat) (M : Mem) (x : Int32) (w : Wf M) (h39 : mN M 39 = 1) (h39b : mN (scoM M (mT M 4 5 (ix x))) 39 = 1) : CT l Γ (gFree Γ) yL_suggestionByWords (wsH yL_suggestionByWords cL_suggestionByWords 4 (some .int) [(0, 9, 12, 36), (0, 9, 15, 26)]) 9 [.ref (K 6 0), .int x, .ref (K 39 0)] K M (HP (rSuggestionByWords M x) ((bwN (scoM M (mT M 4 5 (ix x))) (ix x) (mN M 3)).1).toInt64 K M (scoM M (mT M 4 5 (ix x))) (if inN x (mN M 4) = true then scoM M (mT M 4 5 (ix x)) else M)) xNo 3 20 := by
  refine ct_introH hfl (by decide) (Nat.le_of_ble_eq_true rfl) ?_
  intro p e s m args below meth c C htab hr hM ls hl
  have hx := C.1
  have hb := C.2.1
  have hS : va_S (gFree Γ) s.heap s.heap [] := va_S.rf
  have hl : lv_has ls 4 [(0, .ref (K 6 0)), (1, .int x), (2, .ref (K 39 0))] := hl
  refine lv_aload_n hx hb dL_suggestionByWords_0 rfl (lv_at hl 2 rfl) ?_
  refine lv_iconst (v := 0) hx hb dL_suggestionByWords_1 (by decide) ?_
  refine lv_aload_n hx hb dL_suggestionByWords_2 rfl (lv_at hl 0 rfl) ?_
  refine lv_iload_n hx hb dL_suggestionByWords_3 rfl (lv_at hl 1 rfl) ?_
  refine g_callE C hS (fun _ h => h) hM hl (fun _ h => h) (c_suggestionByWords hfl Γ _ _ x w) kX6_suggestionByWords t_1242 (HM.recv C hM clo_6 (wn6 w)) dL_suggestionByWords_4 rfl rfl (Nat.le_of_ble_eq_true rfl) (by decide) rfl ⟨by decide, by decide⟩
    (fun E q9 ce H1 locs1 hE hM1 hS1 hcell hv hcl => by
        obtain ⟨hr0, hE⟩ := hE
        have hle : rSuggestionByWords M x ≤ 2 := by unfold rSuggestionByWords; (repeat' split) <;> omega
        rcases (show rSuggestionByWords M x = 1 ∨ rSuggestionByWords M x = 2 by omega) with h1 | h1
        · rw [h1] at hE
          obtain rfl : E = "java/lang/IndexOutOfBoundsException" := hE
          refine g_catch C htab [] [⟨0, 9, 15, 26⟩] ⟨0, 9, 12, 36⟩ rfl (fun z hz => absurd hz (by simp)) (by decide) (by decide) t_888 (nst_of n_379) hcell hv hcl ?_
          refine lv_astore_n (lv' := [(3, _), (0, _), (1, _), (2, _)]) hx hb dL_suggestionByWords_12 rfl hl (by decide) rfl (fun ls hl => ?_)
          refine lv_iconst (v := 1) hx hb dL_suggestionByWords_13 (by decide) ?_
          exact g_iret C hr hM1 hS1 dL_suggestionByWords_14 (by decide) (by decide) ⟨by rw [h1]; rfl, fun k i hi => rfl, (if_neg (by rw [h1]; decide)).symm⟩
        · rw [h1] at hE
          obtain rfl : E = "java/util/NoSuchElementException" := hE
          refine g_catch C htab [⟨0, 9, 12, 36⟩] [] ⟨0, 9, 15, 26⟩ rfl (fun z hz => by
        simp only [List.mem_cons, List.not_mem_nil, or_false] at hz
        subst hz
        exact ⟨by decide, "java/lang/IndexOutOfBoundsException", t_888, by simp [ncX]⟩) (by decide) (by decide) t_693 (nst_of n_708) hcell hv hcl ?_
          refine lv_astore_n (lv' := [(3, _), (0, _), (1, _), (2, _)]) hx hb dL_suggestionByWords_15 rfl hl (by decide) rfl (fun ls hl => ?_)
          refine lv_iconst (v := 2) hx hb dL_suggestionByWords_16 (by decide) ?_
          exact g_iret C hr hM1 hS1 dL_suggestionByWords_17 (by decide) (by decide) ⟨by rw [h1]; rfl, fun k i hi => rfl, (if_neg (by rw [h1]; decide)).symm⟩)
      (fun v9 K9 M9 H locs hp hM hS _ _ => ?_)
  obtain ⟨hc0, rfl, rfl, rfl⟩ := hp
  rw [psh_eq]
  refine lv_i2l hx hb dL_suggestionByWords_7 rfl ?_
  refine g_last C hM hS (by omega) dL_suggestionByWords_8 (fun H locs hM hS => ?_)
  refine lv_goto (tgt := 18) hx hb dL_suggestionByWords_9 (by decide) ?_
  refine lv_iconst (v := 0) hx hb dL_suggestionByWords_18 (by decide) ?_
  exact g_iret C hr hM hS dL_suggestionByWords_19 (by decide) (by decide) ⟨by rw [hc0]; rfl, fun k i hi => rfl, by rw [if_pos hc0]⟩
theorem kL_keptShare : CeeH yL_keptShare cL_keptShare 3 (some .int) [(0, 8, 11, 128)] 2 := ⟨t_1262, t_0, t_1263, by decide +kernel, by decide⟩
set_option maxHeartbeats 1500000 in
set_option maxRecDepth 100000 in
theorem h_keptShare {l : Launch} (hfl : l.stackTraces = false) (Γ : Gm) (K : Nat → Nat → Nat) (M : Mem) (w : Wf M) (h39 : mN M 40 = 1) (h39b : mN (M) 40 = 1) : CT l Γ (gFree Γ) yL_keptShare (wsH yL_keptShare cL_keptShare 3 (some .int) [(0, 8, 11, 128)]) 9 [.ref (K 6 0), .ref (K 40 0)] K M (HPF (rKeptShare M) (FP.f2d (FP.fdiv (FP.i2f (mT M 6 12 0)) (FP.i2f (mT M 6 11 0)))) K M (M) (M)) xNo 2 12 := by
  refine ct_introH hfl (by decide) (Nat.le_of_ble_eq_true rfl) ?_
  intro p e s m args below meth c C htab hr hM ls hl
  have hx := C.1
  have hb := C.2.1
  have hS : va_S (gFree Γ) s.heap s.heap [] := va_S.rf
  have hl : lv_has ls 3 [(0, .ref (K 6 0)), (1, .ref (K 40 0))] := hl
  refine lv_aload_n hx hb dL_keptShare_0 rfl (lv_at hl 1 rfl) ?_
  refine lv_iconst (v := 0) hx hb dL_keptShare_1 (by decide) ?_
  refine lv_aload_n hx hb dL_keptShare_2 rfl (lv_at hl 0 rfl) ?_
  refine g_cV C hS (fun _ h => h) hM hl (fun _ h => h) (c_keptShare hfl Γ _ _ w) kX6_keptShare t_1278 (HM.recv C hM clo_6 (wn6 w)) dL_keptShare_3 rfl rfl (Nat.le_of_ble_eq_true rfl) (by decide) rfl ⟨by decide, by decide⟩
    (fun E q9 ce H1 locs1 hE hM1 hS1 hcell hv hcl => by
        obtain ⟨hr0, hE⟩ := hE
        have hle : rKeptShare M ≤ 1 := by unfold rKeptShare; (repeat' split) <;> omega
        have h1 : rKeptShare M = 1 := by omega
        rw [h1] at hE
        obtain rfl : E = "java/lang/ArithmeticException" := hE
        refine g_catch C htab [] [] ⟨0, 8, 11, 128⟩ rfl (fun z hz => absurd hz (by simp)) (by decide) (by decide) t_1264 (nst_of n_1276) hcell hv hcl ?_
        refine lv_astore_n (lv' := [(2, _), (0, _), (1, _)]) hx hb dL_keptShare_11 rfl hl (by decide) rfl (fun ls hl => ?_)
        refine lv_iconst (v := 1) hx hb dL_keptShare_12 (by decide) ?_
        exact g_iret C hr hM1 hS1 dL_keptShare_13 (by decide) (by decide) ⟨by rw [h1]; rfl, fun k i hi => rfl, (if_neg (by rw [h1]; decide)).symm⟩)
      (fun H locs hc0 hM hS => ?_)
  have hne : mT M 6 11 0 ≠ 0 := by intro z; simp [rKeptShare, z] at hc0
  refine lv_f2d hx hb dL_keptShare_6 (share_num hne).2.1 ?_
  refine g_dast C hM hS h39b dL_keptShare_7 (fun H locs hM hS => ?_)
  refine lv_goto (tgt := 14) hx hb dL_keptShare_8 (by decide) ?_
  refine lv_iconst (v := 0) hx hb dL_keptShare_14 (by decide) ?_
  exact g_iret C hr hM hS dL_keptShare_15 (by decide) (by decide) ⟨by rw [hc0]; rfl, fun k i hi => rfl, by rw [if_pos hc0]⟩
theorem kL_meanClock : CeeH yL_meanClock cL_meanClock 3 (some .int) [(0, 7, 10, 128)] 2 := ⟨t_1286, t_0, t_1287, by decide +kernel, by decide⟩
set_option maxHeartbeats 1500000 in
set_option maxRecDepth 100000 in
theorem h_meanClock {l : Launch} (hfl : l.stackTraces = false) (Γ : Gm) (K : Nat → Nat → Nat) (M : Mem) (w : Wf M) (h39 : mN M 40 = 1) (h39b : mN (M) 40 = 1) : CT l Γ (gFree Γ) yL_meanClock (wsH yL_meanClock cL_meanClock 3 (some .int) [(0, 7, 10, 128)]) 9 [.ref (K 6 0), .ref (K 40 0)] K M (HPF (rMeanClock M) (FP.ddiv (FP.l2d (mJ M 6 13 0)) (FP.i2d (mT M 6 11 0))) K M (M) (M)) xNo 2 12 := by
  refine ct_introH hfl (by decide) (Nat.le_of_ble_eq_true rfl) ?_
  intro p e s m args below meth c C htab hr hM ls hl
  have hx := C.1
  have hb := C.2.1
  have hS : va_S (gFree Γ) s.heap s.heap [] := va_S.rf
  have hl : lv_has ls 3 [(0, .ref (K 6 0)), (1, .ref (K 40 0))] := hl
  refine lv_aload_n hx hb dL_meanClock_0 rfl (lv_at hl 1 rfl) ?_
  refine lv_iconst (v := 0) hx hb dL_meanClock_1 (by decide) ?_
  refine lv_aload_n hx hb dL_meanClock_2 rfl (lv_at hl 0 rfl) ?_
  refine g_cV C hS (fun _ h => h) hM hl (fun _ h => h) (c_meanClock hfl Γ _ _ w) kX6_meanClock t_1288 (HM.recv C hM clo_6 (wn6 w)) dL_meanClock_3 rfl rfl (Nat.le_of_ble_eq_true rfl) (by decide) rfl ⟨by decide, by decide⟩
    (fun E q9 ce H1 locs1 hE hM1 hS1 hcell hv hcl => by
        obtain ⟨hr0, hE⟩ := hE
        have hle : rMeanClock M ≤ 1 := by unfold rMeanClock; (repeat' split) <;> omega
        have h1 : rMeanClock M = 1 := by omega
        rw [h1] at hE
        obtain rfl : E = "java/lang/ArithmeticException" := hE
        refine g_catch C htab [] [] ⟨0, 7, 10, 128⟩ rfl (fun z hz => absurd hz (by simp)) (by decide) (by decide) t_1264 (nst_of n_1276) hcell hv hcl ?_
        refine lv_astore_n (lv' := [(2, _), (0, _), (1, _)]) hx hb dL_meanClock_10 rfl hl (by decide) rfl (fun ls hl => ?_)
        refine lv_iconst (v := 1) hx hb dL_meanClock_11 (by decide) ?_
        exact g_iret C hr hM1 hS1 dL_meanClock_12 (by decide) (by decide) ⟨by rw [h1]; rfl, fun k i hi => rfl, (if_neg (by rw [h1]; decide)).symm⟩)
      (fun H locs hc0 hM hS => ?_)
  refine g_dast C hM hS h39b dL_meanClock_6 (fun H locs hM hS => ?_)
  refine lv_goto (tgt := 13) hx hb dL_meanClock_7 (by decide) ?_
  refine lv_iconst (v := 0) hx hb dL_meanClock_13 (by decide) ?_
  exact g_iret C hr hM hS dL_meanClock_14 (by decide) (by decide) ⟨by rw [hc0]; rfl, fun k i hi => rfl, by rw [if_pos hc0]⟩
