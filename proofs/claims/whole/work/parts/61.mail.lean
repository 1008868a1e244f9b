theorem wf_anew {M : Mem} {i : Nat} (w : Wf M) : Wf (anewM M i) := by
  have h : ∀ {N : Mem}, Wf N → Wf (reopM N i) := fun w => wf_sT (by decide) (by decide) (wf_sT (by decide) (by decide) (wf_sT (by decide) (by decide) (wf_sP (Or.inr (Or.inl rfl)) (by intro a z; cases z) w)))
  unfold anewM
  split
  · exact h w
  · exact h (wf_sT (by simp) (by simp) w)
theorem mN_anew {M : Mem} {i : Nat} : mN (anewM M i) = mN M := by unfold anewM; split <;> rfl
theorem wf_ad5 {M : Mem} {i : Nat} {v : Int32} (w : Wf M) (hi : i < mN M 4) (h80 : mN M 2 < 80) (hlen : (mL M 8 i).length < 80) : Wf (ad5 M i v) :=
  wf_sT (by decide) (by decide) (wf_im (i := i) (x := mN M 2) (wf_ma w h80 hi) hi (show mN M 2 < mN M 2 + 1 by omega) hlen)
theorem wf_ad {M : Mem} {i : Nat} {v : Int32} (w : Wf M) (hi : i < mN M 4) (h80 : mN M 2 < 80) (hlen : (mL M 8 i).length < 80) : Wf (adM M i v) := by
  unfold adM
  split
  · exact wf_anew (wf_ad5 w hi h80 hlen)
  · exact wf_ad5 w hi h80 hlen
theorem mN_ad {M : Mem} {i : Nat} {v : Int32} (a : Nat) : mN (adM M i v) a = if a = 2 then mN M 2 + 1 else mN M a := by
  have h : mN (adM M i v) = mN (maM M i) := by unfold adM; split <;> first | rw [mN_anew]; rfl | rfl
  rw [h]
  rfl
def mlT (M : Mem) (t : Nat) (v : Int32) : Mem := jqM (adM (lqM M t) t v) t
def mailM (M : Mem) (x y z u v : Int32) : Mem := match jnM M (ix x) y z with
  | some t => mlT M t v
  | none => mlT (tiM M (ix x) y u) (mN M 4) v
def mailN (M : Mem) (x y z u v : Int32) : Int32 := match jnM M (ix x) y z with
  | some t => mT (mlT M t v) 4 0 t
  | none => mT (mlT (tiM M (ix x) y u) (mN M 4) v) 4 0 (mN M 4)
def rMail (M : Mem) (x y z u v : Int32) : Nat := if inB x 0 7 = true ∧ inB y 0 19 = true ∧ inB u 0 5 = true ∧ inB v 0 1023 = true then (if z = -1 ∨ inN z (mN M 2) = true then (if nI (mN M 2) < 80 ∧ ((jnM M (ix x) y z).isSome = true ∨ nI (mN M 4) < 40) then 0 else 3) else 2) else 1
theorem mN_mlT {M : Mem} {t : Nat} {v : Int32} (a : Nat) : mN (mlT M t v) a = if a = 2 then mN M 2 + 1 else mN M a := by
  rw [mlT, mN_jq, mN_ad, mN_lq]
set_option maxHeartbeats 1500000 in
set_option maxRecDepth 100000 in
theorem mail_tail {l : Launch} (hfl : l.stackTraces = false) {Γ : Gm} {p : Program} {e : Env} {s : State} {m : MethodId} {args : Array Value} {below : List Frame} {meth : Method} {c : Code} {H : Heap} {locs : List Loc} {K K0 : Nat → Nat → Nat} {M0 N : Mem} {ls : Array Slot} {cells slots t : Nat} {v : Int32} {own : String}
    {post : Option Value → (Nat → Nat → Nat) → Mem → Prop} {xp : String → Prop} (C : Cx Γ p l s m args meth c cX6_mail 8 own) (hr : meth.sig.returnType = some .int) (hM : HM Γ K N H) (hS : va_S (gFree Γ) s.heap H locs) (hl : lv_has ls 8 [(0, .ref (K 6 0)), (7, .ref (K 4 t)), (5, .int v)])
    (hown : own = "TicketWeaver") (w : Wf N) (h7 : mN N 7 = 1 ∧ ∀ k, 20 ≤ k → k ≤ 38 → mN N k = 1) (ht : t < mN N 4) (h80 : mN N 2 < 80) (hlen : (mL N 8 t).length < 80) (hcs : cells ≤ 6 ∧ slots ≤ 200)
    (hpost : ∀ K1, (∀ k i, i < mN N k → K1 k i = K k i) → post (some (.int (mT (mlT N t v) 4 0 t))) K1 (mlT N t v)) :
    W p l e (rmL 10 10 600) s m args below meth c H locs cells slots (vx_MQ below (cQ Γ (gFree Γ) post) (cX Γ (gFree Γ) K0 M0 xp) args s 10 600 (gFree Γ)) (F0 m 171 ls []) := by
  subst hown
  have hx := C.1
  have hb := C.2.1
  refine lv_aload_n hx hb dX6_mail_171 rfl (lv_at hl 0 rfl) ?_
  refine lv_aload hx hb dX6_mail_172 (lv_at hl 1 rfl) ?_
  refine g_cV C hS (fun _ h => h) hM hl (fun _ h => h) (c_leaveQueue hfl Γ _ N t w ht) kX6_leaveQueue t_827 (HM.recv C hM clo_6 (wn6 w)) dX6_mail_174 rfl rfl (Nat.le_of_ble_eq_true rfl) (by decide) rfl ⟨by omega, by omega⟩ xNo_goes (fun H locs hc_174 hM hS => ?_)
  have w3 : Wf (lqM N t) := wf_lq w ht
  have ht3 : t < mN (lqM N t) 4 := by rw [mN_lq]; exact ht
  have vp3 : VP (lqM N t) := vp_of w3 (by rw [mN_lq]; exact h7)
  refine lv_aload_n hx hb dX6_mail_177 rfl (lv_at hl 0 rfl) ?_
  refine lv_aload hx hb dX6_mail_178 (lv_at hl 1 rfl) ?_
  refine lv_iload hx hb dX6_mail_180 (lv_at hl 2 rfl) ?_
  refine g_cVK C hS (fun _ h => h) hM hl (fun _ h => h) (c_addMail hfl Γ _ (lqM N t) t v w3 vp3 ht3 (by rw [mN_lq]; exact h80) (by rw [l8_lq]; exact hlen)) kX6_addMail t_835 (HM.recv C hM clo_6 (wn6 w3)) dX6_mail_182 rfl rfl (Nat.le_of_ble_eq_true rfl) (by decide) rfl ⟨by omega, by omega⟩ xNo_goes (fun K1 H locs _ hKK hM hS => ?_)
  have w4 : Wf (adM (lqM N t) t v) := wf_ad w3 ht3 (by rw [mN_lq]; exact h80) (by rw [l8_lq]; exact hlen)
  have ht4 : t < mN (adM (lqM N t) t v) 4 := by rw [mN_ad, if_neg (by decide)]; exact ht3
  rw [← hKK 6 0 (wn6 w3), ← hKK 4 t ht3] at hl
  refine lv_aload_n hx hb dX6_mail_185 rfl (lv_at hl 0 rfl) ?_
  refine lv_aload hx hb dX6_mail_186 (lv_at hl 1 rfl) ?_
  refine g_cV C hS (fun _ h => h) hM hl (fun _ h => h) (c_joinQueue hfl Γ _ _ t w4 ht4) kX6_joinQueue t_869 (HM.recv C hM clo_6 (wn6 w4)) dX6_mail_188 rfl rfl (Nat.le_of_ble_eq_true rfl) (by decide) rfl ⟨by omega, by omega⟩ xNo_goes (fun H locs hc_188 hM hS => ?_)
  refine lv_aload hx hb dX6_mail_191 (lv_at hl 1 rfl) ?_
  refine g_getN C hM clo_4 0 (by decide) (by rw [mN_jq]; exact ht4) n_764 rfl (v := .int (mT _ 4 0 _)) rfl dX6_mail_193 ?_
  exact g_iret C hr hM hS dX6_mail_196 (by omega) (by omega) (hpost K1 (fun k i hi => hKK k i (by rw [mN_lq]; exact hi)))
theorem ti_mono {M : Mem} {cu k i : Nat} {su to : Int32} (h8 : mN M 8 = mN M 4) (h : i < mN M k) : i < mN (tiM M cu su to) k := by
  show i < mN (tiM1 M cu su to) k
  rw [mN_ti]
  split
  · rename_i e; subst e; omega
  · split
    · rename_i e; subst e; omega
    · exact h
set_option maxHeartbeats 1500000 in
set_option maxRecDepth 100000 in
theorem c_mail {l : Launch} (hfl : l.stackTraces = false) (Γ : Gm) (K : Nat → Nat → Nat) (M : Mem) (x y z u v : Int32) (w : Wf M) (h7 : mN M 7 = 1 ∧ ∀ k, 20 ≤ k → k ≤ 38 → mN M k = 1) (hlen : ∀ i, i < mN M 4 → (mL M 8 i).length ≤ mN M 2) : CT l Γ (gFree Γ) yX6_mail (wsO yX6_mail cX6_mail 8 (some .int)) 10 [.ref (K 6 0), .int x, .int y, .int z, .int u, .int v] K M (DK (rMail M x y z u v = 0) (some (.int (mailN M x y z u v))) K M (mailM M x y z u v)) (XP ["java/lang/IllegalArgumentException", "java/util/NoSuchElementException", "java/lang/IllegalStateException"] (rMail M x y z u v)) 10 600 := by
  refine ct_intro hfl (by decide) (Nat.le_of_ble_eq_true rfl) ?_
  intro p e s m args below meth c C ht hr hnm hM ls hl
  have hx := C.1
  have hb := C.2.1
  have hS : va_S (gFree Γ) s.heap s.heap [] := va_S.rf
  have hl : lv_has ls 8 [(0, .ref (K 6 0)), (1, .int x), (2, .int y), (3, .int z), (4, .int u), (5, .int v)] := hl
  have vp := vp_of w h7
  have hb4 := wn4 w
  have hb2 := wn2 w
  refine lv_iload_n hx hb dX6_mail_0 rfl (lv_at hl 1 rfl) ?_
  refine lv_iconst (v := 0) hx hb dX6_mail_1 (by decide) ?_
  refine lv_bipush (v := 7) hx hb dX6_mail_2 (by decide) ?_
  refine g_cS C hS (fun _ h => h) hM hl (fun _ h => h.elim) (c_isWithin hfl Γ _ _ _ _ _) kX6_isWithin t_257 dX6_mail_4 rfl rfl (Nat.le_of_ble_eq_true rfl) (by decide) rfl ⟨by decide, by decide⟩ xNo_goes (fun H locs hc_4 hM hS => ?_)
  refine g_ifeqB (tgt := 36) hx hb dX6_mail_7 (by decide) (fun c_7 => ?_) (fun c_7 => ?_)
  · skip
    exact g_throw C ht (xp_of 0 (by simp [rMail, c_7]) rfl) hM hS (fun _ h => h) hl thr_59 (strX_3) dX6_mail_36 dX6_mail_39 dX6_mail_40 dX6_mail_42 dX6_mail_45 rfl (Nat.le_of_ble_eq_true rfl) ⟨by decide, by decide⟩ (by decide) (by decide)
  · skip
    obtain ⟨hx2, hx1⟩ := inB_ix (x := x) (n := 8) c_7 (by omega)
    refine lv_iload_n hx hb dX6_mail_10 rfl (lv_at hl 2 rfl) ?_
    refine lv_iconst (v := 0) hx hb dX6_mail_11 (by decide) ?_
    refine lv_bipush (v := 19) hx hb dX6_mail_12 (by decide) ?_
    refine g_cS C hS (fun _ h => h) hM hl (fun _ h => h.elim) (c_isWithin hfl Γ _ _ _ _ _) kX6_isWithin t_257 dX6_mail_14 rfl rfl (Nat.le_of_ble_eq_true rfl) (by decide) rfl ⟨by decide, by decide⟩ xNo_goes (fun H locs hc_14 hM hS => ?_)
    refine g_ifeqB (tgt := 36) hx hb dX6_mail_17 (by decide) (fun c_17 => ?_) (fun c_17 => ?_)
    · skip
      exact g_throw C ht (xp_of 0 (by simp [rMail, c_7, c_17]) rfl) hM hS (fun _ h => h) hl thr_59 (strX_3) dX6_mail_36 dX6_mail_39 dX6_mail_40 dX6_mail_42 dX6_mail_45 rfl (Nat.le_of_ble_eq_true rfl) ⟨by decide, by decide⟩ (by decide) (by decide)
    · skip
      refine lv_iload hx hb dX6_mail_20 (lv_at hl 4 rfl) ?_
      refine g_cS C hS (fun _ h => h) hM hl (fun _ h => h.elim) (c_isTopic hfl Γ _ _ _) kX6_isTopic t_699 dX6_mail_22 rfl rfl (Nat.le_of_ble_eq_true rfl) (by decide) rfl ⟨by decide, by decide⟩ xNo_goes (fun H locs hc_22 hM hS => ?_)
      refine g_ifeqB (tgt := 36) hx hb dX6_mail_25 (by decide) (fun c_25 => ?_) (fun c_25 => ?_)
      · skip
        exact g_throw C ht (xp_of 0 (by simp [rMail, c_7, c_17, c_25]) rfl) hM hS (fun _ h => h) hl thr_59 (strX_3) dX6_mail_36 dX6_mail_39 dX6_mail_40 dX6_mail_42 dX6_mail_45 rfl (Nat.le_of_ble_eq_true rfl) ⟨by decide, by decide⟩ (by decide) (by decide)
      · skip
        obtain ⟨hu1, hu2⟩ := inB_ix (x := u) (n := 6) c_25 (by omega)
        refine lv_iload hx hb dX6_mail_28 (lv_at hl 5 rfl) ?_
        refine g_cS C hS (fun _ h => h) hM hl (fun _ h => h.elim) (c_areWords hfl Γ _ _ _) kX6_areWords t_702 dX6_mail_30 rfl rfl (Nat.le_of_ble_eq_true rfl) (by decide) rfl ⟨by decide, by decide⟩ xNo_goes (fun H locs hc_30 hM hS => ?_)
        refine g_ifneB (tgt := 46) hx hb dX6_mail_33 (by decide) (fun c_33 => ?_) (fun c_33 => ?_)
        · skip
          refine lv_iload_n hx hb dX6_mail_46 rfl (lv_at hl 3 rfl) ?_
          refine lv_iconst (v := -1) hx hb dX6_mail_47 (by decide) ?_
          refine lv_icmp_eq (tgt := 78) hx hb dX6_mail_48 (by decide) (fun c_48 => ?_) (fun c_48 => ?_)
          · skip
            have hz : z = -1 ∨ inN z (mN M 2) = true := Or.inl c_48
            refine lv_aload_n hx hb dX6_mail_78 rfl (lv_at hl 0 rfl) ?_
            refine g_get C hM clo_6 1 (by decide) (wn6 w) t_100 rfl (v := _) (fv4 rfl) dX6_mail_79 ?_
            refine lv_iload_n hx hb dX6_mail_82 rfl (lv_at hl 1 rfl) ?_
            refine g_aldR (k := 18) C hM rfl rfl rfl (wn18 w) (ix x) hx1 hx2 (by decide) dX6_mail_83 ?_
            refine lv_astore (lv' := [(6, _), (0, _), (1, _), (2, _), (3, _), (4, _), (5, _)]) hx hb dX6_mail_84 hl (by decide) rfl (fun ls hl => ?_)
            refine lv_aload_n hx hb dX6_mail_86 rfl (lv_at hl 1 rfl) ?_
            refine lv_aload hx hb dX6_mail_87 (lv_at hl 0 rfl) ?_
            refine lv_iload_n hx hb dX6_mail_89 rfl (lv_at hl 3 rfl) ?_
            refine lv_iload_n hx hb dX6_mail_90 rfl (lv_at hl 4 rfl) ?_
            refine g_cV C hS (fun _ h => h) hM hl (fun _ h => h.elim) (c_ticketToJoin hfl Γ _ _ (ix x) y z w (by rw [wn1 w]; exact hx2)) kX6_ticketToJoin t_722 (HM.recv C hM clo_6 (wn6 w)) dX6_mail_91 rfl rfl (Nat.le_of_ble_eq_true rfl) (by decide) rfl ⟨by decide, by decide⟩ xNo_goes (fun H locs hc_91 hM hS => ?_)
            have hto := jnM_lt (c := ix x) (y := y) (z := z) w
            generalize hj : jnM M (ix x) y z = o at hto
            refine g_astoreO (lv' := [(7, _), (6, _), (0, _), (1, _), (2, _), (3, _), (4, _), (5, _)]) hx hb dX6_mail_94 hl (by decide) rfl (fun ls hl => ?_)
            refine lv_aload_n hx hb dX6_mail_96 rfl (lv_at hl 2 rfl) ?_
            refine g_get C hM clo_6 3 (by decide) (wn6 w) t_102 rfl (v := _) (fv4 rfl) dX6_mail_97 ?_
            refine g_cV C hS (fun _ h => h) hM hl (fun _ h => h.elim) (c_size10 hfl Γ _ _ (by assumption)) kJx4a65c_size_8abf5 t_153 (HM.recvL C hM rfl (wn10 (by assumption))) dX6_mail_100 rfl rfl (Nat.le_of_ble_eq_true rfl) (by decide) rfl ⟨by decide, by decide⟩ xNo_goes (fun H locs hc_100 hM hS => ?_)
            refine lv_bipush (v := 80) hx hb dX6_mail_103 (by decide) ?_
            refine g_icmp_ge (tgt := 125) hx hb dX6_mail_105 (by decide) (fun c_105 => ?_) (fun c_105 => ?_)
            · skip
              exact g_throw C ht (xp_of 2 (by simp [rMail, c_7, c_17, c_25, c_33, c_105, hz, hj]) rfl) hM hS (fun _ h => h) hl thr_122 (strX_5) dX6_mail_125 dX6_mail_128 dX6_mail_129 dX6_mail_131 dX6_mail_134 rfl (Nat.le_of_ble_eq_true rfl) ⟨by decide, by decide⟩ (by decide) (by decide)
            · skip
              have h80 : mN M 2 < 80 := (nI_ltI (a := mN M 2) (b := 80) (by omega) (by decide)).mp c_105
              refine g_aloadO hx hb dX6_mail_108 (lv_at hl 0 rfl) ?_
              rcases o with _ | o
              · skip
                refine lv_ifnonnullN hx hb dX6_mail_110 ?_
                refine lv_aload_n hx hb dX6_mail_113 rfl (lv_at hl 2 rfl) ?_
                refine g_get C hM clo_6 4 (by decide) (wn6 w) t_103 rfl (v := _) (fv4 rfl) dX6_mail_114 ?_
                refine g_cV C hS (fun _ h => h) hM hl (fun _ h => h.elim) (c_size11 hfl Γ _ _ (by assumption)) kJx4a65c_size_8abf5 t_153 (HM.recvL C hM rfl (wn11 (by assumption))) dX6_mail_117 rfl rfl (Nat.le_of_ble_eq_true rfl) (by decide) rfl ⟨by decide, by decide⟩ xNo_goes (fun H locs hc_117 hM hS => ?_)
                refine lv_bipush (v := 40) hx hb dX6_mail_120 (by decide) ?_
                refine lv_icmp_lt (tgt := 135) hx hb dX6_mail_122 (by decide) (fun c_122 => ?_) (fun c_122 => ?_)
                · skip
                  refine lv_aloadN hx hb dX6_mail_135 (lv_at hl 0 rfl) ?_
                  refine lv_ifnonnullN hx hb dX6_mail_137 ?_
                  have hge : gB Γ ≤ H.size := Nat.le_trans C.2.2.2.2.2.2.1.1 hS.1
                  have hgE : EmpAt Γ (gE Γ) H := C.2.2.2.2.2.2.1.2.2.2.2.2.1.kept (hS.2.1 _ (Nat.lt_of_lt_of_le C.2.2.2.2.2.2.1.2.2.2.2.2.2 C.2.2.2.2.2.2.1.1) (fun z => absurd C.2.2.2.2.2.2.1.2.2.2.2.2.2 (Nat.not_lt_of_le z)))
                  have h8 : mN M 8 = mN M 4 := w.1.2.2.2.2.2.2.2.1
                  refine r_newO C ck_4 (fs := [.int 0, .null, .int 0, .null, .int 0, .int 0, .int 0, .int 0, .int 0, .null, .int 0, .null, .int 0, .null]) hS t_195 t_756 t_28 (by decide +kernel) (by decide) (by decide) dX6_mail_140 (fun H1 hz1 ho1 hc1 hS => ?_)
                  have hM1 := hM.grow ho1
                  refine lv_dup hx hb dX6_mail_143 rfl ?_
                  refine lv_aload_n hx hb dX6_mail_144 rfl (lv_at hl 2 rfl) ?_
                  refine g_get C hM1 clo_6 4 (by decide) (wn6 w) t_103 rfl (v := _) (fv4 rfl) dX6_mail_145 ?_
                  refine g_cVp C hS (fun _ h => h) hM1 hl (c_size11 hfl Γ _ _ w) kJx4a65c_size_8abf5 t_153 (HM.recvL C hM1 rfl (wn11 w)) dX6_mail_148 rfl rfl (Nat.le_of_ble_eq_true rfl) (by decide) rfl ⟨by decide, by decide⟩ xNo_goes (fun H2 locs2 _ hM2 hS hz2 hk2 => ?_)
                  replace hc1 := hc1.kept (hk2 _ (show H.size < H1.size by omega))
                  have hgE2 := hgE.kept ((hk2 _ (by have := hgE.lt; omega)).trans (ho1 _ hgE.lt))
                  refine lv_aload hx hb dX6_mail_151 (lv_at hl 1 rfl) ?_
                  refine lv_iload_n hx hb dX6_mail_153 rfl (lv_at hl 4 rfl) ?_
                  refine lv_iload hx hb dX6_mail_154 (lv_at hl 6 rfl) ?_
                  refine g_rI C hS (fun _ h => h) (P := fun H' => H'.size = H2.size ∧ gB Γ ≤ H.size ∧ gB Γ ≤ H2.size ∧ H.size < H2.size ∧ va_at (gD Γ) clX (H.size, .inr (4, [.int 0, .null, .int 0, .null, .int 0, .int 0, .int 0, .int 0, .int 0, .null, .int 0, .null, .int 0, .null])) H') ⟨rfl, hge, by omega, by omega, hc1⟩ hl (fun z h => by rcases h with h | h; rw [h]; exact hge; exact Nat.le_trans (by omega) h) (r_i4 hfl Γ H2.size H.size (nI (mN M 4)) y u (K 1 (ix x))) kX4_init t_757 dX6_mail_156 rfl rfl (Nat.le_of_ble_eq_true rfl) (by decide) rfl ⟨by decide, by decide⟩ (fun v9 H3 locs3 hv hS hz3 hk3 => ?_)
                  obtain ⟨rfl, q2, hq2, hqq, hc1, hc2⟩ := hv
                  have hM3 := HM.atick (H1 := H3) (cu := ix x) (su := y) (to := u) hM vp hge (fun z hz => (hk3 z (by omega) (by omega)).trans ((hk2 z (by omega)).trans (ho1 z hz))) (Nat.le_refl _) (show H.size ≤ q2 by omega) hqq h8 (by rw [wn1 w]; exact hx2) hc1 (hgE2.kept (hk3 _ (by have := hgE.lt; omega) (by have := hgE.lt; omega))) hc2
                  have hKK : ∀ k i, i < mN M k → upK (upK K 8 (mN M 4) q2) 4 (mN M 4) H.size k i = K k i := fun k i hi => by rw [upK_ne (fun z => by obtain ⟨rfl, rfl⟩ := z; omega), upK_ne (fun z => by obtain ⟨rfl, rfl⟩ := z; omega)]
                  have hKn : upK (upK K 8 (mN M 4) q2) 4 (mN M 4) H.size 4 (mN M 4) = H.size := upK_self
                  generalize upK (upK K 8 (mN M 4) q2) 4 (mN M 4) H.size = K1 at hM3 hKK hKn
                  rw [← hKK 6 0 (wn6 w)] at hl
                  dsimp only [Option.toList, List.nil_append]
                  rw [← hKn]
                  have h40 : mN M 4 < 40 := (nI_ltI (a := mN M 4) (b := 40) (by omega) (by decide)).mp c_122
                  have w2 : Wf (tiM M (ix x) y u) := by have := wf_ti (su := y) w h40 hx2 hu1; rw [← hu2] at this; exact this
                  have hM := hM3
                  refine lv_astore (lv' := [(7, _), (6, _), (0, _), (1, _), (2, _), (3, _), (4, _), (5, _)]) hx hb dX6_mail_159 hl (by decide) rfl (fun ls hl => ?_)
                  refine lv_aload_n hx hb dX6_mail_161 rfl (lv_at hl 2 rfl) ?_
                  refine g_get C hM clo_6 4 (by decide) (show 0 < mN M 6 from wn6 w) t_103 rfl (v := _) (fv4 rfl) dX6_mail_162 ?_
                  refine lv_aload hx hb dX6_mail_165 (lv_at hl 0 rfl) ?_
                  refine g_cV C hS (fun _ h => h) hM hl (fun _ h => h) (c_ladd hfl Γ _ (tiM1 M (ix x) y u) 11 0 (mN M 4) rfl (show 0 < mN M 11 from wn11 w) (show mN M 4 < mN M 4 + 1 by omega) (show (mL M 11 0).length < 80 by rw [w.2.2.2.1.2.1, List.length_range]; omega) (fun z9 hz9 => by rw [show mL (tiM1 M (ix x) y u) 11 0 = mL M 11 0 from rfl, w.2.2.2.1.2.1] at hz9; show z9 < mN M 4 + 1; have := List.mem_range.mp hz9; omega)) kJx4a65c_add_9ea2d t_819 (HM.recvL C hM rfl (show 0 < mN M 11 from wn11 w)) dX6_mail_167 rfl rfl (Nat.le_of_ble_eq_true rfl) (by decide) rfl ⟨by decide, by decide⟩ xNo_goes (fun H locs hc_167 hM hS => ?_)
                  replace hM : HM Γ K1 (tiM M (ix x) y u) H := hM
                  refine lv_pop hx hb dX6_mail_170 rfl ?_
                  exact mail_tail hfl C hr (N := tiM M (ix x) y u) (t := mN M 4) (v := v) hM hS (lv_sub hl [2, 0, 7] rfl) rfl w2 (show mN M 7 = 1 ∧ _ from ⟨h7.1, fun k a b => by rw [← h7.2 k a b]; show (if k = 4 then _ else if k = 8 then _ else _) = _; rw [if_neg (by omega), if_neg (by omega)]; rfl⟩) (show mN M 4 < mN M 4 + 1 by omega) (show mN M 2 < 80 from h80) (by rw [ti_new.2.2.2.2.2.1]; decide) ⟨by decide, by decide⟩ (fun K2 hK2 => ⟨by simp [rMail, c_7, c_17, c_25, c_33, c_105, c_122, hz, hj, hj], by rw [mailN, hj], by rw [mailM, hj], fun k i hi => (hK2 k i (ti_mono h8 hi)).trans (hKK k i hi)⟩)
                · skip
                  exact g_throw C ht (xp_of 2 (by simp [rMail, c_7, c_17, c_25, c_33, c_105, c_122, hz, hj]) rfl) hM hS (fun _ h => h) hl thr_122 (strX_5) dX6_mail_125 dX6_mail_128 dX6_mail_129 dX6_mail_131 dX6_mail_134 rfl (Nat.le_of_ble_eq_true rfl) ⟨by decide, by decide⟩ (by decide) (by decide)
              · skip
                refine lv_ifnonnull (tgt := 135) hx hb dX6_mail_110 (by decide) ?_
                have hto := hto o rfl
                refine lv_aload hx hb dX6_mail_135 (lv_at hl 0 rfl) ?_
                refine lv_ifnonnull (tgt := 171) hx hb dX6_mail_137 (by decide) ?_
                exact mail_tail hfl C hr (N := M) (t := o) (v := v) hM hS (lv_sub hl [2, 0, 7] rfl) rfl w h7 hto h80 (Nat.lt_of_le_of_lt (hlen o hto) h80) ⟨by decide, by decide⟩ (fun K2 hK2 => ⟨by simp [rMail, c_7, c_17, c_25, c_33, c_105, hz, hj, hj], by rw [mailN, hj], by rw [mailM, hj], hK2⟩)
          · skip
            refine lv_iload_n hx hb dX6_mail_51 rfl (lv_at hl 3 rfl) ?_
            refine lv_iconst (v := 0) hx hb dX6_mail_52 (by decide) ?_
            refine lv_aload_n hx hb dX6_mail_53 rfl (lv_at hl 0 rfl) ?_
            refine g_get C hM clo_6 3 (by decide) (wn6 w) t_102 rfl (v := _) (fv4 rfl) dX6_mail_54 ?_
            refine g_cV C hS (fun _ h => h) hM hl (fun _ h => h.elim) (c_size10 hfl Γ _ _ (by assumption)) kJx4a65c_size_8abf5 t_153 (HM.recvL C hM rfl (wn10 (by assumption))) dX6_mail_57 rfl rfl (Nat.le_of_ble_eq_true rfl) (by decide) rfl ⟨by decide, by decide⟩ xNo_goes (fun H locs hc_57 hM hS => ?_)
            refine lv_iconst (v := 1) hx hb dX6_mail_60 (by decide) ?_
            refine lv_isub hx hb dX6_mail_61 ?_
            refine g_cS C hS (fun _ h => h) hM hl (fun _ h => h.elim) (c_isWithin hfl Γ _ _ _ _ _) kX6_isWithin t_257 dX6_mail_62 rfl rfl (Nat.le_of_ble_eq_true rfl) (by decide) rfl ⟨by decide, by decide⟩ xNo_goes (fun H locs hc_62 hM hS => ?_)
            refine g_ifneB (tgt := 78) hx hb dX6_mail_65 (by decide) (fun c_65 => ?_) (fun c_65 => ?_)
            · skip
              have hz : z = -1 ∨ inN z (mN M 2) = true := Or.inr c_65
              refine lv_aload_n hx hb dX6_mail_78 rfl (lv_at hl 0 rfl) ?_
              refine g_get C hM clo_6 1 (by decide) (wn6 w) t_100 rfl (v := _) (fv4 rfl) dX6_mail_79 ?_
              refine lv_iload_n hx hb dX6_mail_82 rfl (lv_at hl 1 rfl) ?_
              refine g_aldR (k := 18) C hM rfl rfl rfl (wn18 w) (ix x) hx1 hx2 (by decide) dX6_mail_83 ?_
              refine lv_astore (lv' := [(6, _), (0, _), (1, _), (2, _), (3, _), (4, _), (5, _)]) hx hb dX6_mail_84 hl (by decide) rfl (fun ls hl => ?_)
              refine lv_aload_n hx hb dX6_mail_86 rfl (lv_at hl 1 rfl) ?_
              refine lv_aload hx hb dX6_mail_87 (lv_at hl 0 rfl) ?_
              refine lv_iload_n hx hb dX6_mail_89 rfl (lv_at hl 3 rfl) ?_
              refine lv_iload_n hx hb dX6_mail_90 rfl (lv_at hl 4 rfl) ?_
              refine g_cV C hS (fun _ h => h) hM hl (fun _ h => h.elim) (c_ticketToJoin hfl Γ _ _ (ix x) y z w (by rw [wn1 w]; exact hx2)) kX6_ticketToJoin t_722 (HM.recv C hM clo_6 (wn6 w)) dX6_mail_91 rfl rfl (Nat.le_of_ble_eq_true rfl) (by decide) rfl ⟨by decide, by decide⟩ xNo_goes (fun H locs hc_91 hM hS => ?_)
              have hto := jnM_lt (c := ix x) (y := y) (z := z) w
              generalize hj : jnM M (ix x) y z = o at hto
              refine g_astoreO (lv' := [(7, _), (6, _), (0, _), (1, _), (2, _), (3, _), (4, _), (5, _)]) hx hb dX6_mail_94 hl (by decide) rfl (fun ls hl => ?_)
              refine lv_aload_n hx hb dX6_mail_96 rfl (lv_at hl 2 rfl) ?_
              refine g_get C hM clo_6 3 (by decide) (wn6 w) t_102 rfl (v := _) (fv4 rfl) dX6_mail_97 ?_
              refine g_cV C hS (fun _ h => h) hM hl (fun _ h => h.elim) (c_size10 hfl Γ _ _ (by assumption)) kJx4a65c_size_8abf5 t_153 (HM.recvL C hM rfl (wn10 (by assumption))) dX6_mail_100 rfl rfl (Nat.le_of_ble_eq_true rfl) (by decide) rfl ⟨by decide, by decide⟩ xNo_goes (fun H locs hc_100 hM hS => ?_)
              refine lv_bipush (v := 80) hx hb dX6_mail_103 (by decide) ?_
              refine g_icmp_ge (tgt := 125) hx hb dX6_mail_105 (by decide) (fun c_105 => ?_) (fun c_105 => ?_)
              · skip
                exact g_throw C ht (xp_of 2 (by simp [rMail, c_7, c_17, c_25, c_33, c_105, hz, hj]) rfl) hM hS (fun _ h => h) hl thr_122 (strX_5) dX6_mail_125 dX6_mail_128 dX6_mail_129 dX6_mail_131 dX6_mail_134 rfl (Nat.le_of_ble_eq_true rfl) ⟨by decide, by decide⟩ (by decide) (by decide)
              · skip
                have h80 : mN M 2 < 80 := (nI_ltI (a := mN M 2) (b := 80) (by omega) (by decide)).mp c_105
                refine g_aloadO hx hb dX6_mail_108 (lv_at hl 0 rfl) ?_
                rcases o with _ | o
                · skip
                  refine lv_ifnonnullN hx hb dX6_mail_110 ?_
                  refine lv_aload_n hx hb dX6_mail_113 rfl (lv_at hl 2 rfl) ?_
                  refine g_get C hM clo_6 4 (by decide) (wn6 w) t_103 rfl (v := _) (fv4 rfl) dX6_mail_114 ?_
                  refine g_cV C hS (fun _ h => h) hM hl (fun _ h => h.elim) (c_size11 hfl Γ _ _ (by assumption)) kJx4a65c_size_8abf5 t_153 (HM.recvL C hM rfl (wn11 (by assumption))) dX6_mail_117 rfl rfl (Nat.le_of_ble_eq_true rfl) (by decide) rfl ⟨by decide, by decide⟩ xNo_goes (fun H locs hc_117 hM hS => ?_)
                  refine lv_bipush (v := 40) hx hb dX6_mail_120 (by decide) ?_
                  refine lv_icmp_lt (tgt := 135) hx hb dX6_mail_122 (by decide) (fun c_122 => ?_) (fun c_122 => ?_)
                  · skip
                    refine lv_aloadN hx hb dX6_mail_135 (lv_at hl 0 rfl) ?_
                    refine lv_ifnonnullN hx hb dX6_mail_137 ?_
                    have hge : gB Γ ≤ H.size := Nat.le_trans C.2.2.2.2.2.2.1.1 hS.1
                    have hgE : EmpAt Γ (gE Γ) H := C.2.2.2.2.2.2.1.2.2.2.2.2.1.kept (hS.2.1 _ (Nat.lt_of_lt_of_le C.2.2.2.2.2.2.1.2.2.2.2.2.2 C.2.2.2.2.2.2.1.1) (fun z => absurd C.2.2.2.2.2.2.1.2.2.2.2.2.2 (Nat.not_lt_of_le z)))
                    have h8 : mN M 8 = mN M 4 := w.1.2.2.2.2.2.2.2.1
                    refine r_newO C ck_4 (fs := [.int 0, .null, .int 0, .null, .int 0, .int 0, .int 0, .int 0, .int 0, .null, .int 0, .null, .int 0, .null]) hS t_195 t_756 t_28 (by decide +kernel) (by decide) (by decide) dX6_mail_140 (fun H1 hz1 ho1 hc1 hS => ?_)
                    have hM1 := hM.grow ho1
                    refine lv_dup hx hb dX6_mail_143 rfl ?_
                    refine lv_aload_n hx hb dX6_mail_144 rfl (lv_at hl 2 rfl) ?_
                    refine g_get C hM1 clo_6 4 (by decide) (wn6 w) t_103 rfl (v := _) (fv4 rfl) dX6_mail_145 ?_
                    refine g_cVp C hS (fun _ h => h) hM1 hl (c_size11 hfl Γ _ _ w) kJx4a65c_size_8abf5 t_153 (HM.recvL C hM1 rfl (wn11 w)) dX6_mail_148 rfl rfl (Nat.le_of_ble_eq_true rfl) (by decide) rfl ⟨by decide, by decide⟩ xNo_goes (fun H2 locs2 _ hM2 hS hz2 hk2 => ?_)
                    replace hc1 := hc1.kept (hk2 _ (show H.size < H1.size by omega))
                    have hgE2 := hgE.kept ((hk2 _ (by have := hgE.lt; omega)).trans (ho1 _ hgE.lt))
                    refine lv_aload hx hb dX6_mail_151 (lv_at hl 1 rfl) ?_
                    refine lv_iload_n hx hb dX6_mail_153 rfl (lv_at hl 4 rfl) ?_
                    refine lv_iload hx hb dX6_mail_154 (lv_at hl 6 rfl) ?_
                    refine g_rI C hS (fun _ h => h) (P := fun H' => H'.size = H2.size ∧ gB Γ ≤ H.size ∧ gB Γ ≤ H2.size ∧ H.size < H2.size ∧ va_at (gD Γ) clX (H.size, .inr (4, [.int 0, .null, .int 0, .null, .int 0, .int 0, .int 0, .int 0, .int 0, .null, .int 0, .null, .int 0, .null])) H') ⟨rfl, hge, by omega, by omega, hc1⟩ hl (fun z h => by rcases h with h | h; rw [h]; exact hge; exact Nat.le_trans (by omega) h) (r_i4 hfl Γ H2.size H.size (nI (mN M 4)) y u (K 1 (ix x))) kX4_init t_757 dX6_mail_156 rfl rfl (Nat.le_of_ble_eq_true rfl) (by decide) rfl ⟨by decide, by decide⟩ (fun v9 H3 locs3 hv hS hz3 hk3 => ?_)
                    obtain ⟨rfl, q2, hq2, hqq, hc1, hc2⟩ := hv
                    have hM3 := HM.atick (H1 := H3) (cu := ix x) (su := y) (to := u) hM vp hge (fun z hz => (hk3 z (by omega) (by omega)).trans ((hk2 z (by omega)).trans (ho1 z hz))) (Nat.le_refl _) (show H.size ≤ q2 by omega) hqq h8 (by rw [wn1 w]; exact hx2) hc1 (hgE2.kept (hk3 _ (by have := hgE.lt; omega) (by have := hgE.lt; omega))) hc2
                    have hKK : ∀ k i, i < mN M k → upK (upK K 8 (mN M 4) q2) 4 (mN M 4) H.size k i = K k i := fun k i hi => by rw [upK_ne (fun z => by obtain ⟨rfl, rfl⟩ := z; omega), upK_ne (fun z => by obtain ⟨rfl, rfl⟩ := z; omega)]
                    have hKn : upK (upK K 8 (mN M 4) q2) 4 (mN M 4) H.size 4 (mN M 4) = H.size := upK_self
                    generalize upK (upK K 8 (mN M 4) q2) 4 (mN M 4) H.size = K1 at hM3 hKK hKn
                    rw [← hKK 6 0 (wn6 w)] at hl
                    dsimp only [Option.toList, List.nil_append]
                    rw [← hKn]
                    have h40 : mN M 4 < 40 := (nI_ltI (a := mN M 4) (b := 40) (by omega) (by decide)).mp c_122
                    have w2 : Wf (tiM M (ix x) y u) := by have := wf_ti (su := y) w h40 hx2 hu1; rw [← hu2] at this; exact this
                    have hM := hM3
                    refine lv_astore (lv' := [(7, _), (6, _), (0, _), (1, _), (2, _), (3, _), (4, _), (5, _)]) hx hb dX6_mail_159 hl (by decide) rfl (fun ls hl => ?_)
                    refine lv_aload_n hx hb dX6_mail_161 rfl (lv_at hl 2 rfl) ?_
                    refine g_get C hM clo_6 4 (by decide) (show 0 < mN M 6 from wn6 w) t_103 rfl (v := _) (fv4 rfl) dX6_mail_162 ?_
                    refine lv_aload hx hb dX6_mail_165 (lv_at hl 0 rfl) ?_
                    refine g_cV C hS (fun _ h => h) hM hl (fun _ h => h) (c_ladd hfl Γ _ (tiM1 M (ix x) y u) 11 0 (mN M 4) rfl (show 0 < mN M 11 from wn11 w) (show mN M 4 < mN M 4 + 1 by omega) (show (mL M 11 0).length < 80 by rw [w.2.2.2.1.2.1, List.length_range]; omega) (fun z9 hz9 => by rw [show mL (tiM1 M (ix x) y u) 11 0 = mL M 11 0 from rfl, w.2.2.2.1.2.1] at hz9; show z9 < mN M 4 + 1; have := List.mem_range.mp hz9; omega)) kJx4a65c_add_9ea2d t_819 (HM.recvL C hM rfl (show 0 < mN M 11 from wn11 w)) dX6_mail_167 rfl rfl (Nat.le_of_ble_eq_true rfl) (by decide) rfl ⟨by decide, by decide⟩ xNo_goes (fun H locs hc_167 hM hS => ?_)
                    replace hM : HM Γ K1 (tiM M (ix x) y u) H := hM
                    refine lv_pop hx hb dX6_mail_170 rfl ?_
                    exact mail_tail hfl C hr (N := tiM M (ix x) y u) (t := mN M 4) (v := v) hM hS (lv_sub hl [2, 0, 7] rfl) rfl w2 (show mN M 7 = 1 ∧ _ from ⟨h7.1, fun k a b => by rw [← h7.2 k a b]; show (if k = 4 then _ else if k = 8 then _ else _) = _; rw [if_neg (by omega), if_neg (by omega)]; rfl⟩) (show mN M 4 < mN M 4 + 1 by omega) (show mN M 2 < 80 from h80) (by rw [ti_new.2.2.2.2.2.1]; decide) ⟨by decide, by decide⟩ (fun K2 hK2 => ⟨by simp [rMail, c_7, c_17, c_25, c_33, c_105, c_122, hz, hj, hj], by rw [mailN, hj], by rw [mailM, hj], fun k i hi => (hK2 k i (ti_mono h8 hi)).trans (hKK k i hi)⟩)
                  · skip
                    exact g_throw C ht (xp_of 2 (by simp [rMail, c_7, c_17, c_25, c_33, c_105, c_122, hz, hj]) rfl) hM hS (fun _ h => h) hl thr_122 (strX_5) dX6_mail_125 dX6_mail_128 dX6_mail_129 dX6_mail_131 dX6_mail_134 rfl (Nat.le_of_ble_eq_true rfl) ⟨by decide, by decide⟩ (by decide) (by decide)
                · skip
                  refine lv_ifnonnull (tgt := 135) hx hb dX6_mail_110 (by decide) ?_
                  have hto := hto o rfl
                  refine lv_aload hx hb dX6_mail_135 (lv_at hl 0 rfl) ?_
                  refine lv_ifnonnull (tgt := 171) hx hb dX6_mail_137 (by decide) ?_
                  exact mail_tail hfl C hr (N := M) (t := o) (v := v) hM hS (lv_sub hl [2, 0, 7] rfl) rfl w h7 hto h80 (Nat.lt_of_le_of_lt (hlen o hto) h80) ⟨by decide, by decide⟩ (fun K2 hK2 => ⟨by simp [rMail, c_7, c_17, c_25, c_33, c_105, hz, hj, hj], by rw [mailN, hj], by rw [mailM, hj], hK2⟩)
            · skip
              replace c_65 : inN z (mN M 2) = false := c_65
              exact g_throwE C ht (xp_of 1 (by simp [rMail, c_7, c_17, c_25, c_33, c_48, c_65]) rfl) hM hS (fun _ h => h) hl (strX_4) dX6_mail_68 dX6_mail_71 dX6_mail_72 dX6_mail_74 dX6_mail_77 rfl (Nat.le_of_ble_eq_true rfl) ⟨by decide, by decide⟩ (by decide) (by decide)
        · skip
          exact g_throw C ht (xp_of 0 (by simp [rMail, c_7, c_17, c_25, c_33]) rfl) hM hS (fun _ h => h) hl thr_59 (strX_3) dX6_mail_36 dX6_mail_39 dX6_mail_40 dX6_mail_42 dX6_mail_45 rfl (Nat.le_of_ble_eq_true rfl) ⟨by decide, by decide⟩ (by decide) (by decide)

