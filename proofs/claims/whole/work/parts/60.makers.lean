/-! the methods that make objects: K grows -/
def DK (c : Prop) (v : Option Value) (K : Nat → Nat → Nat) (M M1 : Mem) : Option Value → (Nat → Nat → Nat) → Mem → Prop := fun v' K' M' => c ∧ v' = v ∧ M' = M1 ∧ ∀ k i, i < mN M k → K' k i = K k i
section CALLK
variable {p : Program} {l : Launch} {e : Env} {R : Room} {s : State} {m : MethodId} {args : Array Value} {below : List Frame} {meth : Method} {c : Code} {H : Heap} {locs : List Loc} {cells slots : Nat} {Q : State → Prop}
variable {cc : ByteArray} {nL : Nat} {own : String} {Γ : Gm} {A : Nat → Prop} {K : Nat → Nat → Nat} {M : Mem} {pc : Nat} {ls : Array Slot} {rest : List Value}
variable {A' : Nat → Prop} {y : MethodName} {Cn : String} {bytes : ByteArray} {maxL n na n' idx mc ms b : Nat} {ret : Option FieldType} {As st : List Value} {lvs : List (Nat × Value)} {xp : String → Prop} {mc0 ms0 : Nat}
variable {cnd : Prop} {v1 : Option Value} {K1 : Nat → Nat → Nat} {M1 : Mem}
theorem g_cVK (C : Cx Γ p l s m args meth c cc nL own) (hS : va_S A s.heap H locs) (hA : ∀ q, A q → gB Γ ≤ q) (hM : HM Γ K M H) (hl : lv_has ls nL lvs) (hA' : ∀ q, A' q → A q)
    (callee : CT l Γ A' y (wsO y bytes maxL ret) n' (.ref b :: As) K M (DK cnd v1 K M M1) xp mc ms) (hk : CeeV y Cn bytes maxL ret na) (hlk : Cond.methodLink own idx y ∈ lw_good)
    (hrecv : ∃ cell : Cell, H[b]? = some cell ∧ cell.vm.isStatics = false ∧ s.vm.findClass Cn = some cell.cls) (hdg : decode cc pc = .ok (.invokevirtual idx, 3))
    (hn : As.length = na) (hst : st = As.reverse ++ .ref b :: rest) (hW : (rest.map fun v => v.category).sum ≤ 8) (hlev : n' + 1 ≤ n) (hR : R = rmL n mc0 ms0) (hf : cells + mc ≤ mc0 ∧ slots + ms ≤ ms0)
    (kx : GoesX p l e R s m args below meth c H (cells + mc) (slots + ms) Q Γ A K M pc ls rest xp)
    (kk : ∀ (K1 : Nat → Nat → Nat) (H1 : Heap) (locs1 : List Loc), cnd → (∀ k i, i < mN M k → K1 k i = K k i) → HM Γ K1 M1 H1 → va_S A s.heap H1 locs1 → W p l e R s m args below meth c H1 locs1 (cells + mc) (slots + ms) Q (F0 m (pc + 3) ls (psh v1 rest))) : W p l e R s m args below meth c H locs cells slots Q (F0 m pc ls st) :=
  g_callV C hS hA hM hl hA' callee hk hlk hrecv hdg hn hst hW hlev hR hf kx (fun v K' M' H1 locs1 hp hm hs _ _ => by
    obtain ⟨h0, rfl, rfl, h4⟩ := hp
    rw [psh_eq]
    exact kk K' H1 locs1 h0 h4 hm hs)
/-- a reading call; what lies outside the memory stays too -/
theorem g_cVp (C : Cx Γ p l s m args meth c cc nL own) (hS : va_S A s.heap H locs) (hA : ∀ q, A q → gB Γ ≤ q) (hM : HM Γ K M H) (hl : lv_has ls nL lvs)
    (callee : CT l Γ pF y (wsO y bytes maxL ret) n' (.ref b :: As) K M (DD cnd v1 K1 M1) xp mc ms) (hk : CeeV y Cn bytes maxL ret na) (hlk : Cond.methodLink own idx y ∈ lw_good)
    (hrecv : ∃ cell : Cell, H[b]? = some cell ∧ cell.vm.isStatics = false ∧ s.vm.findClass Cn = some cell.cls) (hdg : decode cc pc = .ok (.invokevirtual idx, 3))
    (hn : As.length = na) (hst : st = As.reverse ++ .ref b :: rest) (hW : (rest.map fun v => v.category).sum ≤ 8) (hlev : n' + 1 ≤ n) (hR : R = rmL n mc0 ms0) (hf : cells + mc ≤ mc0 ∧ slots + ms ≤ ms0)
    (kx : GoesX p l e R s m args below meth c H (cells + mc) (slots + ms) Q Γ A K M pc ls rest xp)
    (kk : ∀ (H1 : Heap) (locs1 : List Loc), cnd → HM Γ K1 M1 H1 → va_S A s.heap H1 locs1 → H.size ≤ H1.size → (∀ q : Nat, q < H.size → H1[q]? = H[q]?) → W p l e R s m args below meth c H1 locs1 (cells + mc) (slots + ms) Q (F0 m (pc + 3) ls (psh v1 rest))) : W p l e R s m args below meth c H locs cells slots Q (F0 m pc ls st) :=
  g_callV C hS hA hM hl (fun _ h => h.elim) callee hk hlk hrecv hdg hn hst hW hlev hR hf kx (fun v K' M' H1 locs1 hp hm hs hz hq => by
    obtain ⟨h0, rfl, rfl, rfl⟩ := hp
    rw [psh_eq]
    exact kk H1 locs1 h0 hm hs hz (fun q z => hq q z (fun y => y)))
end CALLK
def rAddAgent (M : Mem) (x : Int32) : Nat := if inB x 0 63 = true then (if nI (mN M 0) < 6 then 0 else 2) else 1
set_option maxHeartbeats 1500000 in
set_option maxRecDepth 100000 in
theorem c_addAgent {l : Launch} (hfl : l.stackTraces = false) (Γ : Gm) (K : Nat → Nat → Nat) (M : Mem) (x : Int32) (w : Wf M) (vp : VP M) : CT l Γ (gFree Γ) yX6_addAgent (wsO yX6_addAgent cX6_addAgent 2 (some .int)) 8 [.ref (K 6 0), .int x] K M (DK (rAddAgent M x = 0) (some (.int (nI (mN M 0 + 1) - 1))) K M (agM M x)) (XP ["java/lang/IllegalArgumentException", "java/lang/IllegalStateException"] (rAddAgent M x)) 3 140 := by
  refine ct_intro hfl (by decide) (Nat.le_of_ble_eq_true rfl) ?_
  intro p e s m args below meth c C ht hr hnm hM ls hl
  have hx := C.1
  have hb := C.2.1
  have hS : va_S (gFree Γ) s.heap s.heap [] := va_S.rf
  have hl : lv_has ls 2 [(0, .ref (K 6 0)), (1, .int x)] := hl
  have hb4 := wn4 w
  have hb0 := wn0 w
  have hb2 := wn2 w
  have hb3 := wn3 w
  refine lv_iload_n hx hb dX6_addAgent_0 rfl (lv_at hl 1 rfl) ?_
  refine lv_iconst (v := 0) hx hb dX6_addAgent_1 (by decide) ?_
  refine lv_bipush (v := 63) hx hb dX6_addAgent_2 (by decide) ?_
  refine g_cS C hS (fun _ h => h) hM hl (fun _ h => h.elim) (c_isWithin hfl Γ _ _ _ _ _) kX6_isWithin t_257 dX6_addAgent_4 rfl rfl (Nat.le_of_ble_eq_true rfl) (by decide) rfl ⟨by decide, by decide⟩ xNo_goes (fun H locs hc_4 hM hS => ?_)
  refine g_ifneB (tgt := 20) hx hb dX6_addAgent_7 (by decide) (fun c_7 => ?_) (fun c_7 => ?_)
  · skip
    refine lv_aload_n hx hb dX6_addAgent_20 rfl (lv_at hl 0 rfl) ?_
    refine g_get C hM clo_6 5 (by decide) (wn6 (by assumption)) t_104 rfl (v := _) (fv4 rfl) dX6_addAgent_21 ?_
    refine g_cV C hS (fun _ h => h) hM hl (fun _ h => h.elim) (c_size12 hfl Γ _ _ (by assumption)) kJx4a65c_size_8abf5 t_153 (HM.recvL C hM rfl (wn12 (by assumption))) dX6_addAgent_24 rfl rfl (Nat.le_of_ble_eq_true rfl) (by decide) rfl ⟨by decide, by decide⟩ xNo_goes (fun H locs hc_24 hM hS => ?_)
    refine lv_bipush (v := 6) hx hb dX6_addAgent_27 (by decide) ?_
    refine lv_icmp_lt (tgt := 42) hx hb dX6_addAgent_29 (by decide) (fun c_29 => ?_) (fun c_29 => ?_)
    · skip
      refine lv_aload_n hx hb dX6_addAgent_42 rfl (lv_at hl 0 rfl) ?_
      refine g_get C hM clo_6 5 (by decide) (wn6 (by assumption)) t_104 rfl (v := _) (fv4 rfl) dX6_addAgent_43 ?_
      have hge : gB Γ ≤ H.size := Nat.le_trans C.2.2.2.2.2.2.1.1 hS.1
      refine r_newO C ck_0 (fs := [.int 0, .int 0, .int 0, .int 0]) hS t_207 t_990 t_31 (by decide +kernel) (by decide) (by decide) dX6_addAgent_46 (fun H1 hz1 ho1 hc1 hS => ?_)
      have hM1 := hM.grow ho1
      refine lv_dup hx hb dX6_addAgent_49 rfl ?_
      refine lv_aload_n hx hb dX6_addAgent_50 rfl (lv_at hl 0 rfl) ?_
      refine g_get C hM1 clo_6 5 (by decide) (wn6 w) t_104 rfl (v := _) (fv4 rfl) dX6_addAgent_51 ?_
      refine g_cVp C hS (fun _ h => h) hM1 hl (c_size12 hfl Γ _ _ w) kJx4a65c_size_8abf5 t_153 (HM.recvL C hM1 rfl (wn12 w)) dX6_addAgent_54 rfl rfl (Nat.le_of_ble_eq_true rfl) (by decide) rfl ⟨by decide, by decide⟩ xNo_goes (fun H2 locs2 _ hM2 hS hz2 hk2 => ?_)
      replace hc1 := hc1.kept (hk2 _ (show H.size < H1.size by omega))
      refine lv_iload_n hx hb dX6_addAgent_57 rfl (lv_at hl 1 rfl) ?_
      refine g_rI C hS (fun _ h => h) (P := fun H' => gB Γ ≤ H.size ∧ va_at (gD Γ) clX (H.size, .inr (0, [.int 0, .int 0, .int 0, .int 0])) H') ⟨hge, hc1⟩ hl (fun z h => by rw [h]; exact hge) (r_i0 hfl Γ H.size (nI (mN M 0)) x) kX0_init t_991 dX6_addAgent_58 rfl rfl (Nat.le_of_ble_eq_true rfl) (by decide) rfl ⟨by decide, by decide⟩ (fun v H3 locs3 hv hS hz3 hk3 => ?_)
      obtain ⟨rfl, hc1⟩ := hv
      have hM3 := HM.agent (H1 := H3) (x := x) hM vp hge (fun z hz => (hk3 z (by omega) (by omega)).trans ((hk2 z (by omega)).trans (ho1 z hz))) (Nat.le_refl _) hc1
      have hKK : ∀ k i, i < mN M k → upK K 0 (mN M 0) H.size k i = K k i := fun k i hi => upK_ne (fun z => by obtain ⟨rfl, rfl⟩ := z; omega)
      have hKn : upK K 0 (mN M 0) H.size 0 (mN M 0) = H.size := upK_self
      generalize upK K 0 (mN M 0) H.size = K1 at hM3 hKK hKn
      rw [← hKK 6 0 (wn6 w)] at hl
      rw [← hKK 12 0 (wn12 w)]
      dsimp only [Option.toList, List.nil_append]
      rw [← hKn]
      have w2 := wf_ag (x := x) w (by have := (nI_ltI (a := mN M 0) (b := 6) (by omega) (by decide)).mp c_29; exact this)
      have hM := hM3
      refine g_cV C hS (fun _ h => h) hM hl (fun _ h => h) (c_ladd hfl Γ _ (agM1 M x) 12 0 (mN M 0) rfl (show 0 < mN (agM1 M x) 12 from wn12 (M := M) w) (show mN M 0 < mN M 0 + 1 by omega) (show (mL M 12 0).length < 80 by rw [w.2.2.2.1.2.2.1, List.length_range]; omega) (fun z hz => by rw [show mL (agM1 M x) 12 0 = mL M 12 0 from rfl, w.2.2.2.1.2.2.1] at hz; show z < mN M 0 + 1; have := List.mem_range.mp hz; omega)) kJx4a65c_add_9ea2d t_819 (HM.recvL C hM rfl (show 0 < mN (agM1 M x) 12 from wn12 (M := M) w)) dX6_addAgent_61 rfl rfl (Nat.le_of_ble_eq_true rfl) (by decide) rfl ⟨by decide, by decide⟩ xNo_goes (fun H locs hc_61 hM hS => ?_)
      replace hM : HM Γ K1 (agM M x) H := hM
      refine lv_pop hx hb dX6_addAgent_64 rfl ?_
      refine lv_aload_n hx hb dX6_addAgent_65 rfl (lv_at hl 0 rfl) ?_
      refine g_get C hM clo_6 5 (by decide) (wn6 w2) t_104 rfl (v := _) (fv4 rfl) dX6_addAgent_66 ?_
      refine g_cV C hS (fun _ h => h) hM hl (fun _ h => h.elim) (c_size12 hfl Γ _ (agM M x) w2) kJx4a65c_size_8abf5 t_153 (HM.recvL C hM rfl (wn12 w2)) dX6_addAgent_69 rfl rfl (Nat.le_of_ble_eq_true rfl) (by decide) rfl ⟨by decide, by decide⟩ xNo_goes (fun H locs hc_69 hM hS => ?_)
      refine lv_iconst (v := 1) hx hb dX6_addAgent_72 (by decide) ?_
      refine lv_isub hx hb dX6_addAgent_73 ?_
      exact g_iret C hr hM hS dX6_addAgent_74 (by decide) (by decide) ⟨by simp [rAddAgent, c_7, c_29], rfl, rfl, hKK⟩
    · skip
      exact g_throw C ht (xp_of 1 (by simp [rAddAgent, c_7, c_29]) rfl) hM hS (fun _ h => h) hl thr_122 (strX_13) dX6_addAgent_32 dX6_addAgent_35 dX6_addAgent_36 dX6_addAgent_38 dX6_addAgent_41 rfl (Nat.le_of_ble_eq_true rfl) ⟨by decide, by decide⟩ (by decide) (by decide)
  · skip
    exact g_throw C ht (xp_of 0 (by simp [rAddAgent, c_7]) rfl) hM hS (fun _ h => h) hl thr_59 (strX_12) dX6_addAgent_10 dX6_addAgent_13 dX6_addAgent_14 dX6_addAgent_16 dX6_addAgent_19 rfl (Nat.le_of_ble_eq_true rfl) ⟨by decide, by decide⟩ (by decide) (by decide)

def ad5 (M : Mem) (i : Nat) (v : Int32) : Mem := sT (imM (maM M i) i (mN M 2)) 4 5 i (mT (imM (maM M i) i (mN M 2)) 4 5 i ||| v)
def adM (M : Mem) (i : Nat) (v : Int32) : Mem := if mT (ad5 M i v) 4 6 i = 97 ∨ mT (ad5 M i v) 4 6 i = 99 then anewM (ad5 M i v) i else ad5 M i v
set_option maxHeartbeats 1500000 in
set_option maxRecDepth 100000 in
theorem c_addMail {l : Launch} (hfl : l.stackTraces = false) (Γ : Gm) (K : Nat → Nat → Nat) (M : Mem) (i : Nat) (v : Int32) (w : Wf M) (vp : VP M) (hi : i < mN M 4) (h80 : mN M 2 < 80) (hlen : (mL M 8 i).length < 80) : CT l Γ (gFree Γ) yX6_addMail (wsO yX6_addMail cX6_addMail 4 none) 8 [.ref (K 6 0), .ref (K 4 i), .int v] K M (DK True none K M (adM M i v)) xNo 3 250 := by
  refine ct_intro hfl (by decide) (Nat.le_of_ble_eq_true rfl) ?_
  intro p e s m args below meth c C ht hr hnm hM ls hl
  have hx := C.1
  have hb := C.2.1
  have hS : va_S (gFree Γ) s.heap s.heap [] := va_S.rf
  have hl : lv_has ls 4 [(0, .ref (K 6 0)), (1, .ref (K 4 i)), (2, .int v)] := hl
  have hge : gB Γ ≤ s.heap.size := Nat.le_trans C.2.2.2.2.2.2.1.1 hS.1
  refine r_newO C ck_2 (fs := [.int 0, .null]) hS t_726 t_839 t_29 (by decide +kernel) (by decide) (by decide) dX6_addMail_0 (fun H1 hz1 ho1 hc1 hS => ?_)
  have hM1 := hM.grow ho1
  refine lv_dup hx hb dX6_addMail_3 rfl ?_
  refine lv_aload_n hx hb dX6_addMail_4 rfl (lv_at hl 0 rfl) ?_
  refine g_get C hM1 clo_6 3 (by decide) (wn6 w) t_102 rfl (v := _) (fv4 rfl) dX6_addMail_5 ?_
  refine g_cVp C hS (fun _ h => h) hM1 hl (c_size10 hfl Γ _ _ w) kJx4a65c_size_8abf5 t_153 (HM.recvL C hM1 rfl (wn10 w)) dX6_addMail_8 rfl rfl (Nat.le_of_ble_eq_true rfl) (by decide) rfl ⟨by decide, by decide⟩ xNo_goes (fun H2 locs2 _ hM2 hS hz2 hk2 => ?_)
  replace hc1 := hc1.kept (hk2 _ (show s.heap.size < H1.size by omega))
  refine lv_aload_n hx hb dX6_addMail_11 rfl (lv_at hl 1 rfl) ?_
  refine g_rI C hS (fun _ h => h) (P := fun H' => gB Γ ≤ s.heap.size ∧ va_at (gD Γ) clX (s.heap.size, .inr (2, [.int 0, .null])) H') ⟨hge, hc1⟩ hl (fun z h => by rw [h]; exact hge) (r_i2 hfl Γ s.heap.size (nI (mN M 2)) (K 4 i)) kX2_init t_840 dX6_addMail_12 rfl rfl (Nat.le_of_ble_eq_true rfl) (by decide) rfl ⟨by decide, by decide⟩ (fun v H3 locs3 hv hS hz3 hk3 => ?_)
  obtain ⟨rfl, hc1⟩ := hv
  have hM3 := HM.amail (H1 := H3) (t := i) hM vp hge (fun z hz => (hk3 z (by omega) (by omega)).trans ((hk2 z (by omega)).trans (ho1 z hz))) (Nat.le_refl _) hi hc1
  have hKK : ∀ k i, i < mN M k → upK K 2 (mN M 2) s.heap.size k i = K k i := fun k i hi => upK_ne (fun z => by obtain ⟨rfl, rfl⟩ := z; omega)
  have hKn : upK K 2 (mN M 2) s.heap.size 2 (mN M 2) = s.heap.size := upK_self
  generalize upK K 2 (mN M 2) s.heap.size = K1 at hM3 hKK hKn
  rw [← hKK 6 0 (wn6 w), ← hKK 4 i hi] at hl
  dsimp only [Option.toList, List.nil_append]
  rw [← hKn]
  have hM := hM3
  refine lv_astore_n (lv' := [(3, _), (0, _), (1, _), (2, _)]) hx hb dX6_addMail_15 rfl hl (by decide) rfl (fun ls hl => ?_)
  refine lv_aload_n hx hb dX6_addMail_16 rfl (lv_at hl 1 rfl) ?_
  refine g_get C hM clo_6 3 (by decide) (show 0 < mN (maM1 M i) 6 from wn6 (M := M) w) t_102 rfl (v := _) (fv4 rfl) dX6_addMail_17 ?_
  refine lv_aload_n hx hb dX6_addMail_20 rfl (lv_at hl 0 rfl) ?_
  refine g_cV C hS (fun _ h => h) hM hl (fun _ h => h) (c_ladd hfl Γ _ (maM1 M i) 10 0 (mN M 2) rfl (show 0 < mN (maM1 M i) 10 from wn10 (M := M) w) (show mN M 2 < mN M 2 + 1 by omega) (show (mL M 10 0).length < 80 by rw [w.2.2.2.1.1, List.length_range]; omega) (fun z hz => by rw [show mL (maM1 M i) 10 0 = mL M 10 0 from rfl, w.2.2.2.1.1] at hz; show z < mN M 2 + 1; have := List.mem_range.mp hz; omega)) kJx4a65c_add_9ea2d t_819 (HM.recvL C hM rfl (show 0 < mN (maM1 M i) 10 from wn10 (M := M) w)) dX6_addMail_21 rfl rfl (Nat.le_of_ble_eq_true rfl) (by decide) rfl ⟨by decide, by decide⟩ xNo_goes (fun H locs hc_21 hM hS => ?_)
  replace hM : HM Γ K1 (maM M i) H := hM
  have w2 := wf_ma w h80 hi
  refine lv_pop hx hb dX6_addMail_24 rfl ?_
  refine lv_aload_n hx hb dX6_addMail_25 rfl (lv_at hl 2 rfl) ?_
  refine lv_aload_n hx hb dX6_addMail_26 rfl (lv_at hl 0 rfl) ?_
  refine g_cV C hS (fun _ h => h) hM hl (fun _ h => h) (c_insertMail hfl Γ _ (maM M i) i (mN M 2) w2 hi (show mN M 2 < mN M 2 + 1 by omega) hlen) kX4_insertMail t_855 (HM.recv C hM clo_4 (show i < mN (maM M i) 4 from hi)) dX6_addMail_27 rfl rfl (Nat.le_of_ble_eq_true rfl) (by decide) rfl ⟨by decide, by decide⟩ xNo_goes (fun H locs hc_27 hM hS => ?_)
  have hi3 : i < mN (imM (maM M i) i (mN M 2)) 4 := hi
  have w4 := wf_im (i := i) (x := mN M 2) w2 hi (show mN M 2 < mN M 2 + 1 by omega) hlen
  refine lv_aload_n hx hb dX6_addMail_30 rfl (lv_at hl 2 rfl) ?_
  refine lv_dup hx hb dX6_addMail_31 rfl ?_
  refine g_getN C hM clo_4 5 (by decide) hi3 n_774 rfl (v := .int (mT _ 4 5 _)) rfl dX6_addMail_32 ?_
  refine lv_iload_n hx hb dX6_addMail_35 rfl (lv_at hl 3 rfl) ?_
  refine lv_ior hx hb dX6_addMail_36 ?_
  refine g_putI C hM hS clo_4 5 (by decide) rfl hi3 rfl rfl rfl rfl dX6_addMail_37 (Or.inr n_774) (fun H locs hM hS => ?_)
  have w5 : Wf (ad5 M i v) := wf_sT (by decide) (by decide) w4
  replace hM : HM Γ K1 (ad5 M i v) H := hM
  refine lv_aload_n hx hb dX6_addMail_40 rfl (lv_at hl 2 rfl) ?_
  refine g_getN C hM clo_4 6 (by decide) hi3 n_776 rfl (v := .int (mT _ 4 6 _)) rfl dX6_addMail_41 ?_
  refine lv_bipush (v := 97) hx hb dX6_addMail_44 (by decide) ?_
  refine lv_icmp_eq (tgt := 58) hx hb dX6_addMail_46 (by decide) (fun c_46 => ?_) (fun c_46 => ?_)
  · skip
    refine lv_aload_n hx hb dX6_addMail_58 rfl (lv_at hl 2 rfl) ?_
    refine g_cV C hS (fun _ h => h) hM hl (fun _ h => h) (c_beginAnew hfl Γ _ _ i w5 hi3) kX4_beginAnew t_860 (HM.recv C hM clo_4 hi3) dX6_addMail_59 rfl rfl (Nat.le_of_ble_eq_true rfl) (by decide) rfl ⟨by decide, by decide⟩ xNo_goes (fun H locs hc_59 hM hS => ?_)
    exact g_vret C hr hM hS dX6_addMail_62 (by decide) (by decide) ⟨trivial, rfl, by rw [adM, if_pos (Or.inl c_46)], hKK⟩
  · skip
    refine lv_aload_n hx hb dX6_addMail_49 rfl (lv_at hl 2 rfl) ?_
    refine g_getN C hM clo_4 6 (by decide) hi3 n_776 rfl (v := .int (mT _ 4 6 _)) rfl dX6_addMail_50 ?_
    refine lv_bipush (v := 99) hx hb dX6_addMail_53 (by decide) ?_
    refine lv_icmp_ne (tgt := 62) hx hb dX6_addMail_55 (by decide) (fun c_55 => ?_) (fun c_55 => ?_)
    · skip
      exact g_vret C hr hM hS dX6_addMail_62 (by decide) (by decide) ⟨trivial, rfl, by rw [adM, if_neg (fun z => z.elim c_46 c_55)], hKK⟩
    · skip
      refine lv_aload_n hx hb dX6_addMail_58 rfl (lv_at hl 2 rfl) ?_
      refine g_cV C hS (fun _ h => h) hM hl (fun _ h => h) (c_beginAnew hfl Γ _ _ i w5 hi3) kX4_beginAnew t_860 (HM.recv C hM clo_4 hi3) dX6_addMail_59 rfl rfl (Nat.le_of_ble_eq_true rfl) (by decide) rfl ⟨by decide, by decide⟩ xNo_goes (fun H locs hc_59 hM hS => ?_)
      exact g_vret C hr hM hS dX6_addMail_62 (by decide) (by decide) ⟨trivial, rfl, by rw [adM, if_pos (Or.inr (by first | exact c_55 | exact Decidable.of_not_not c_55))], hKK⟩

def awS (M : Mem) (x : Int32) (a v : Nat) : Mem := if (x >>> (nI v &&& 31)) &&& 1 = 1 then sT M 16 v 0 (mT M 16 v 0 ||| ((1 : Int32) <<< (nI a &&& 31))) else M
def awN (M : Mem) (x : Int32) (a : Nat) : Nat → Mem
  | 0 => M
  | v + 1 => awS (awN M x a v) x a v
theorem wf_16 {M : Mem} {j i : Nat} {v : Int32} (w : Wf M) : Wf (sT M 16 j i v) := wf_sT (fun z => absurd z.1 (by decide)) (fun z => absurd z.1 (by decide)) w
theorem wf_awS {M : Mem} {x : Int32} {a v : Nat} (w : Wf M) : Wf (awS M x a v) := by
  unfold awS
  split
  · exact wf_16 w
  · exact w
theorem wf_aw {M : Mem} {x : Int32} {a : Nat} (w : Wf M) : ∀ v, Wf (awN M x a v)
  | 0 => w
  | v + 1 => wf_awS (wf_aw w v)
def rAddAnswer (M : Mem) (x : Int32) : Nat := if inB x 0 1023 = true then (if nI (mN M 3) < 8 then 0 else 2) else 1
set_option maxHeartbeats 1500000 in
set_option maxRecDepth 100000 in
theorem c_addAnswer {l : Launch} (hfl : l.stackTraces = false) (Γ : Gm) (K : Nat → Nat → Nat) (M : Mem) (x : Int32) (w : Wf M) (vp : VP M) : CT l Γ (gFree Γ) yX6_addAnswer (wsO yX6_addAnswer cX6_addAnswer 4 (some .int)) 8 [.ref (K 6 0), .int x] K M (DK (rAddAnswer M x = 0) (some (.int (nI (mN M 3)))) K M (awN (prM M x) x (mN M 3) 10)) (XP ["java/lang/IllegalArgumentException", "java/lang/IllegalStateException"] (rAddAnswer M x)) 4 140 := by
  refine ct_intro hfl (by decide) (Nat.le_of_ble_eq_true rfl) ?_
  intro p e s m args below meth c C ht hr hnm hM ls hl
  have hx := C.1
  have hb := C.2.1
  have hS : va_S (gFree Γ) s.heap s.heap [] := va_S.rf
  have hl : lv_has ls 4 [(0, .ref (K 6 0)), (1, .int x)] := hl
  have hb4 := wn4 w
  have hb0 := wn0 w
  have hb2 := wn2 w
  have hb3 := wn3 w
  refine lv_iload_n hx hb dX6_addAnswer_0 rfl (lv_at hl 1 rfl) ?_
  refine g_cS C hS (fun _ h => h) hM hl (fun _ h => h.elim) (c_areWords hfl Γ _ _ _) kX6_areWords t_702 dX6_addAnswer_1 rfl rfl (Nat.le_of_ble_eq_true rfl) (by decide) rfl ⟨by decide, by decide⟩ xNo_goes (fun H locs hc_1 hM hS => ?_)
  refine g_ifneB (tgt := 18) hx hb dX6_addAnswer_4 (by decide) (fun c_4 => ?_) (fun c_4 => ?_)
  · skip
    refine lv_aload_n hx hb dX6_addAnswer_18 rfl (lv_at hl 0 rfl) ?_
    refine g_get C hM clo_6 6 (by decide) (wn6 (by assumption)) t_105 rfl (v := _) (fv4 rfl) dX6_addAnswer_19 ?_
    refine g_cV C hS (fun _ h => h) hM hl (fun _ h => h.elim) (c_size13 hfl Γ _ _ (by assumption)) kJx4a65c_size_8abf5 t_153 (HM.recvL C hM rfl (wn13 (by assumption))) dX6_addAnswer_22 rfl rfl (Nat.le_of_ble_eq_true rfl) (by decide) rfl ⟨by decide, by decide⟩ xNo_goes (fun H locs hc_22 hM hS => ?_)
    refine lv_bipush (v := 8) hx hb dX6_addAnswer_25 (by decide) ?_
    refine lv_icmp_lt (tgt := 41) hx hb dX6_addAnswer_27 (by decide) (fun c_27 => ?_) (fun c_27 => ?_)
    · skip
      refine lv_aload_n hx hb dX6_addAnswer_41 rfl (lv_at hl 0 rfl) ?_
      refine g_get C hM clo_6 6 (by decide) (wn6 (by assumption)) t_105 rfl (v := _) (fv4 rfl) dX6_addAnswer_42 ?_
      refine g_cV C hS (fun _ h => h) hM hl (fun _ h => h.elim) (c_size13 hfl Γ _ _ (by assumption)) kJx4a65c_size_8abf5 t_153 (HM.recvL C hM rfl (wn13 (by assumption))) dX6_addAnswer_45 rfl rfl (Nat.le_of_ble_eq_true rfl) (by decide) rfl ⟨by decide, by decide⟩ xNo_goes (fun H locs hc_45 hM hS => ?_)
      refine lv_istore_n (lv' := [(2, _), (0, _), (1, _)]) hx hb dX6_addAnswer_48 rfl hl (by decide) rfl (fun ls hl => ?_)
      refine lv_aload_n hx hb dX6_addAnswer_49 rfl (lv_at hl 1 rfl) ?_
      refine g_get C hM clo_6 6 (by decide) (wn6 w) t_105 rfl (v := _) (fv4 rfl) dX6_addAnswer_50 ?_
      have hge : gB Γ ≤ H.size := Nat.le_trans C.2.2.2.2.2.2.1.1 hS.1
      have h14 : mN M 14 = mN M 3 := w.1.2.2.2.2.2.2.2.2.2.2.2.2.2.1
      have hqF : gFree Γ H.size := hge
      refine r_newO C ck_3 (fs := [.int 0, .null]) hS t_1156 t_1206 t_33 (by decide +kernel) (by decide) (by decide) dX6_addAnswer_53 (fun H1 hz1 ho1 hc1 hS => ?_)
      refine lv_dup hx hb dX6_addAnswer_56 rfl ?_
      refine lv_iload_n hx hb dX6_addAnswer_57 rfl (lv_at hl 2 rfl) ?_
      refine g_rI C hS (fun _ h => h) (P := fun H' => H'.size = H1.size ∧ gB Γ ≤ H.size ∧ gB Γ ≤ H1.size ∧ H.size < H1.size ∧ va_at (gD Γ) clX (H.size, .inr (3, [.int 0, .null])) H') ⟨rfl, hge, by omega, by omega, hc1⟩ hl (fun z h => by rcases h with h | h; rw [h]; exact hge; exact Nat.le_trans (by omega) h) (r_i3 hfl Γ H1.size H.size x) kX3_init t_1207 dX6_addAnswer_58 rfl rfl (Nat.le_of_ble_eq_true rfl) (by decide) rfl ⟨by decide, by decide⟩ (fun v H3 locs3 hv hS hz3 hk3 => ?_)
      obtain ⟨rfl, q2, hq2, hqq, hc1, hc2⟩ := hv
      have hM3 := HM.aprep (H1 := H3) (x := x) hM vp hge (fun z hz => (hk3 z (by omega) (by omega)).trans (ho1 z hz)) (Nat.le_refl _) (show H.size ≤ q2 by omega) hqq h14 hc1 hc2
      have hKK : ∀ k i, i < mN M k → upK (upK K 14 (mN M 3) q2) 3 (mN M 3) H.size k i = K k i := fun k i hi => by rw [upK_ne (fun z => by obtain ⟨rfl, rfl⟩ := z; omega), upK_ne (fun z => by obtain ⟨rfl, rfl⟩ := z; omega)]
      have hKn : upK (upK K 14 (mN M 3) q2) 3 (mN M 3) H.size 3 (mN M 3) = H.size := upK_self
      generalize upK (upK K 14 (mN M 3) q2) 3 (mN M 3) H.size = K1 at hM3 hKK hKn
      rw [← hKK 6 0 (wn6 w)] at hl
      rw [← hKK 13 0 (wn13 w)]
      dsimp only [Option.toList, List.nil_append]
      rw [← hKn]
      have w2 := wf_pr (x := x) w (by have := (nI_ltI (a := mN M 3) (b := 8) (by omega) (by decide)).mp c_27; exact this)
      have hM := hM3
      refine g_cV C hS (fun _ h => h) hM hl (fun _ h => h) (c_ladd hfl Γ _ (prM1 M x) 13 0 (mN M 3) rfl (show 0 < mN (prM1 M x) 13 from wn13 (M := M) w) (show mN M 3 < mN M 3 + 1 by omega) (show (mL M 13 0).length < 80 by rw [w.2.2.2.1.2.2.2, List.length_range]; omega) (fun z hz => by rw [show mL (prM1 M x) 13 0 = mL M 13 0 from rfl, w.2.2.2.1.2.2.2] at hz; show z < mN M 3 + 1; have := List.mem_range.mp hz; omega)) kJx4a65c_add_9ea2d t_819 (HM.recvL C hM rfl (show 0 < mN (prM1 M x) 13 from wn13 (M := M) w)) dX6_addAnswer_61 rfl rfl (Nat.le_of_ble_eq_true rfl) (by decide) rfl ⟨by decide, by decide⟩ xNo_goes (fun H locs hc_61 hM hS => ?_)
      replace hM : HM Γ K1 (prM M x) H := hM
      refine lv_pop hx hb dX6_addAnswer_64 rfl ?_
      refine lv_iconst (v := 0) hx hb dX6_addAnswer_65 (by decide) ?_
      refine lv_istore_n (lv' := [(3, _), (2, _), (0, _), (1, _)]) hx hb dX6_addAnswer_66 rfl hl (by decide) rfl (fun ls hl => ?_)
      suffices K67 : ∀ (n9 : Nat) (n : Nat), 10 - n < n9 → (n ≤ 10) → ∀ (H : Heap) (locs : List Loc) (ls : Array Slot), HM Γ K1 (awN (prM M x) x (mN M 3) n) H → va_S (gFree Γ) s.heap H locs → lv_has ls 4 [(0, .ref (K1 6 0)), (1, .int x), (2, .int (nI (mN M 3))), (3, .int (nI n))] → W p l e (rmL 8 4 140) s m args below meth c H locs 3 128 (vx_MQ below (cQ Γ (gFree Γ) (DK (rAddAnswer M x = 0) (some (.int (nI (mN M 3)))) K M (awN (prM M x) x (mN M 3) 10))) (cX Γ (gFree Γ) K M (XP ["java/lang/IllegalArgumentException", "java/lang/IllegalStateException"] (rAddAnswer M x))) args s 4 140 (gFree Γ)) (F0 m 67 ls []) by
        exact K67 _ 0 (Nat.lt_succ_self _) (Nat.zero_le _) _ _ _ hM hS (lv_sub hl [2, 3, 1, 0] rfl)
      intro n9
      induction n9 with
      | zero => intro n h9; exact absurd h9 (Nat.not_lt_zero _)
      | succ n9 ih =>
        intro n h9 hn H locs ls hM hS hl
        refine lv_iload_n hx hb dX6_addAnswer_67 rfl (lv_at hl 3 rfl) ?_
        refine lv_bipush (v := 10) hx hb dX6_addAnswer_68 (by decide) ?_
        refine g_icmp_ge (tgt := 100) hx hb dX6_addAnswer_70 (by decide) (fun c_70 => ?_) (fun c_70 => ?_)
        · skip
          refine lv_iload_n hx hb dX6_addAnswer_100 rfl (lv_at hl 2 rfl) ?_
          exact g_iret C hr hM hS dX6_addAnswer_101 (by decide) (by decide) ⟨by simp [rAddAnswer, c_4, c_27, c_70], rfl, by rw [show n = 10 by have := (not_congr (nI_ltI (a := n) (b := 10) (by omega) (by omega))).mp c_70; omega], hKK⟩
        · skip
          have h6 : n < 10 := (nI_ltI (b := 10) (by omega) (by omega)).mp c_70
          refine lv_iload_n hx hb dX6_addAnswer_73 rfl (lv_at hl 1 rfl) ?_
          refine lv_iload_n hx hb dX6_addAnswer_74 rfl (lv_at hl 3 rfl) ?_
          refine lv_ishr hx hb dX6_addAnswer_75 ?_
          refine lv_iconst (v := 1) hx hb dX6_addAnswer_76 (by decide) ?_
          refine lv_iand hx hb dX6_addAnswer_77 ?_
          refine lv_iconst (v := 1) hx hb dX6_addAnswer_78 (by decide) ?_
          refine lv_icmp_ne (tgt := 94) hx hb dX6_addAnswer_79 (by decide) (fun c_79 => ?_) (fun c_79 => ?_)
          · skip
            refine lv_iinc (k := 3) (v := nI (n + 1)) (lv' := [(3, _), (0, _), (1, _), (2, _)]) hx hb dX6_addAnswer_94 hl rfl (nI_1 n) (by decide) rfl (fun ls hl => ?_)
            refine lv_goto (tgt := 67) hx hb dX6_addAnswer_97 (by decide) ?_
            exact ih (n + 1) (by omega) h6 _ _ _ (by rw [awN, awS, if_neg c_79]; exact hM) hS (lv_sub hl [1, 2, 3, 0] rfl)
          · skip
            have c79 := c_79
            refine lv_aload_n hx hb dX6_addAnswer_82 rfl (lv_at hl 0 rfl) ?_
            refine g_get C hM clo_6 7 (by decide) (wn6 (wf_aw w2 n)) t_106 rfl (v := _) (fv4 rfl) dX6_addAnswer_83 ?_
            refine lv_iload_n hx hb dX6_addAnswer_86 rfl (lv_at hl 3 rfl) ?_
            refine lv_dup2_11 hx hb dX6_addAnswer_87 rfl rfl ?_
            refine g_iald C hM rw_16 (wn16 (wf_aw w2 n)) n rfl h6 (by decide) dX6_addAnswer_88 ?_
            refine lv_iconst (v := 1) hx hb dX6_addAnswer_89 (by decide) ?_
            refine lv_iload_n hx hb dX6_addAnswer_90 rfl (lv_at hl 2 rfl) ?_
            refine lv_ishl hx hb dX6_addAnswer_91 ?_
            refine lv_ior hx hb dX6_addAnswer_92 ?_
            refine g_iast C hM hS rw_16 (wn16 (wf_aw w2 n)) n rfl h6 (by decide) dX6_addAnswer_93 (fun H locs hM hS => ?_)
            refine lv_iinc (k := 3) (v := nI (n + 1)) (lv' := [(3, _), (0, _), (1, _), (2, _)]) hx hb dX6_addAnswer_94 hl rfl (nI_1 n) (by decide) rfl (fun ls hl => ?_)
            refine lv_goto (tgt := 67) hx hb dX6_addAnswer_97 (by decide) ?_
            exact ih (n + 1) (by omega) h6 _ _ _ (by rw [awN, awS, if_pos c79]; exact hM) hS (lv_sub hl [1, 2, 3, 0] rfl)
    · skip
      exact g_throwW C ht (xp_of 1 (by simp [rAddAnswer, c_4, c_27]) rfl) hM hS (fun _ h => h) hl thr_122 (strX_29) dX6_addAnswer_30 dX6_addAnswer_33 dX6_addAnswer_34 dX6_addAnswer_37 dX6_addAnswer_40 rfl (Nat.le_of_ble_eq_true rfl) ⟨by decide, by decide⟩ (by decide) (by decide)
  · skip
    exact g_throwW C ht (xp_of 0 (by simp [rAddAnswer, c_4]) rfl) hM hS (fun _ h => h) hl thr_59 (strX_28) dX6_addAnswer_7 dX6_addAnswer_10 dX6_addAnswer_11 dX6_addAnswer_14 dX6_addAnswer_17 rfl (Nat.le_of_ble_eq_true rfl) ⟨by decide, by decide⟩ (by decide) (by decide)

