def rMail1 (D : Mem) (x y z u v : Int32) : Nat := if inB x 0 7 = true ∧ inB y 0 19 = true ∧ inB u 0 5 = true ∧ inB v 0 1023 = true then (if inB z (-1) (nI (mN D 2) - 1) = true then (if mN D 2 = 80 then 3 else 0) else 2) else 1
def rMail2 (D : Mem) (x y z : Int32) : Nat := if jnR D (ix x) y z = none ∧ mN D 4 = 40 then 3 else 0
def putR (D M : Mem) (t v : Int32) : Mem := sT (sT (sT M 22 (mN D 2) 0 t) 23 (mN D 2) 0 v) 7 21 0 (mT M 7 21 0 + 1)
def mailR (D M : Mem) (x y z u v : Int32) : Mem := match jnR D (ix x) y z with
  | none => putR D (mkR D (sT (sT M 7 19 0 0) 7 19 0 0) x y u) (nI (mN D 4)) v
  | some b => putR D (opR D (sT (sT M 7 19 0 0) 7 19 0 0) b) (nI b) v
def mailE (D M : Mem) (x y z u v : Int32) : Mem := if rMail1 D x y z u v = 0 then (if rMail2 D x y z = 0 then mailR D M x y z u v else sT (sT M 7 19 0 0) 7 19 0 3) else sT M 7 19 0 (thI (rMail1 D x y z u v))
def mailV (D : Mem) (x y z u v : Int32) : Int32 := if rMail1 D x y z u v = 0 then (if rMail2 D x y z = 0 then nI ((jnR D (ix x) y z).getD (mN D 4)) else 0) else 0
set_option maxHeartbeats 1500000 in
set_option maxRecDepth 100000 in
theorem m_mail {l : Launch} (hfl : l.stackTraces = false) (Γ : Gm) (K : Nat → Nat → Nat) (M : Mem) (x y z u v : Int32) (D : Mem) (w : Wf D) (r : RC D M) : CT l Γ (gFree Γ) yX7_mail (wsO yX7_mail cX7_mail 7 (some .int)) 6 [.ref (K 7 0), .int x, .int y, .int z, .int u, .int v] K M (DD True (some (.int (mailV D x y z u v))) K (mailE D M x y z u v)) xNo 0 0 := by
  refine ct_intro hfl (by decide) (Nat.le_of_ble_eq_true rfl) ?_
  intro p e s m args below meth c C ht hr hnm hM ls hl
  have hx := C.1
  have hb := C.2.1
  have hS : va_S (gFree Γ) s.heap s.heap [] := va_S.rf
  have hl : lv_has ls 7 [(0, .ref (K 7 0)), (1, .int x), (2, .int y), (3, .int z), (4, .int u), (5, .int v)] := hl
  have r70 := r7 r
  have rn0 := fun k h1 h2 => rn r k h1 h2
  have hb4 := wn4 w
  have hb0 := wn0 w
  have hb2 := wn2 w
  have hb3 := wn3 w
  have h8e : nI (mN D 2) = 80 ↔ mN D 2 = 80 := ⟨fun q => nI_inj (b := 80) (by omega) (by omega) q, fun q => by rw [q]; rfl⟩
  have h4e : nI (mN D 4) = 40 ↔ mN D 4 = 40 := ⟨fun q => nI_inj (b := 40) (by omega) (by omega) q, fun q => by rw [q]; rfl⟩
  refine lv_aload_n hx hb dX7_mail_0 rfl (lv_at hl 0 rfl) ?_
  refine lv_iload_n hx hb dX7_mail_1 rfl (lv_at hl 1 rfl) ?_
  refine lv_iconst (v := 0) hx hb dX7_mail_2 (by decide) ?_
  refine lv_bipush (v := 7) hx hb dX7_mail_3 (by decide) ?_
  refine g_cS C hS (fun _ h => h) hM hl (fun _ h => h.elim) (m_in hfl Γ _ _ _ _ _) kX7_in t_1399 dX7_mail_5 rfl rfl (Nat.le_of_ble_eq_true rfl) (by decide) rfl ⟨by decide, by decide⟩ xNo_goes (fun H locs hc_5 hM hS => ?_)
  refine g_ifeqB (tgt := 43) hx hb dX7_mail_8 (by decide) (fun c_8 => ?_) (fun c_8 => ?_)
  · skip
    refine lv_iconst (v := 1) hx hb dX7_mail_43 (by decide) ?_
    refine lv_goto (tgt := 79) hx hb dX7_mail_44 (by decide) ?_
    refine g_putI C hM hS clo_7 19 (by decide) rfl (by first | assumption | exact r70) rfl rfl rfl rfl dX7_mail_79 (Or.inl t_1317) (fun H locs hM hS => ?_)
    refine lv_aload_n hx hb dX7_mail_82 rfl (lv_at hl 0 rfl) ?_
    refine g_get C hM clo_7 19 (by decide) (by first | assumption | exact r70) t_1317 rfl (v := .int (mT _ 7 19 _)) rfl dX7_mail_83 ?_
    refine g_if_le (tgt := 91) hx hb dX7_mail_86 (by decide) (fun c_86 => ?_) (fun c_86 => ?_)
    · exact absurd (show ¬ (0 : Int32) < 1 from c_86) (by decide)
    · skip
      refine lv_iconst (v := 0) hx hb dX7_mail_89 (by decide) ?_
      exact g_iret C hr hM hS dX7_mail_90 (by decide) (by decide) ⟨trivial, by rw [mailV, show rMail1 D x y z u v = 1 by simp [rMail1, c_8]]; rfl, rfl, by rw [mailE, show rMail1 D x y z u v = 1 by simp [rMail1, c_8]]; rfl⟩
  · skip
    refine lv_iload_n hx hb dX7_mail_11 rfl (lv_at hl 2 rfl) ?_
    refine lv_iconst (v := 0) hx hb dX7_mail_12 (by decide) ?_
    refine lv_bipush (v := 19) hx hb dX7_mail_13 (by decide) ?_
    refine g_cS C hS (fun _ h => h) hM hl (fun _ h => h.elim) (m_in hfl Γ _ _ _ _ _) kX7_in t_1399 dX7_mail_15 rfl rfl (Nat.le_of_ble_eq_true rfl) (by decide) rfl ⟨by decide, by decide⟩ xNo_goes (fun H locs hc_15 hM hS => ?_)
    refine g_ifeqB (tgt := 43) hx hb dX7_mail_18 (by decide) (fun c_18 => ?_) (fun c_18 => ?_)
    · skip
      refine lv_iconst (v := 1) hx hb dX7_mail_43 (by decide) ?_
      refine lv_goto (tgt := 79) hx hb dX7_mail_44 (by decide) ?_
      refine g_putI C hM hS clo_7 19 (by decide) rfl (by first | assumption | exact r70) rfl rfl rfl rfl dX7_mail_79 (Or.inl t_1317) (fun H locs hM hS => ?_)
      refine lv_aload_n hx hb dX7_mail_82 rfl (lv_at hl 0 rfl) ?_
      refine g_get C hM clo_7 19 (by decide) (by first | assumption | exact r70) t_1317 rfl (v := .int (mT _ 7 19 _)) rfl dX7_mail_83 ?_
      refine g_if_le (tgt := 91) hx hb dX7_mail_86 (by decide) (fun c_86 => ?_) (fun c_86 => ?_)
      · exact absurd (show ¬ (0 : Int32) < 1 from c_86) (by decide)
      · skip
        refine lv_iconst (v := 0) hx hb dX7_mail_89 (by decide) ?_
        exact g_iret C hr hM hS dX7_mail_90 (by decide) (by decide) ⟨trivial, by rw [mailV, show rMail1 D x y z u v = 1 by simp [rMail1, c_8, c_18]]; rfl, rfl, by rw [mailE, show rMail1 D x y z u v = 1 by simp [rMail1, c_8, c_18]]; rfl⟩
    · skip
      refine lv_iload hx hb dX7_mail_21 (lv_at hl 4 rfl) ?_
      refine lv_iconst (v := 0) hx hb dX7_mail_23 (by decide) ?_
      refine lv_iconst (v := 5) hx hb dX7_mail_24 (by decide) ?_
      refine g_cS C hS (fun _ h => h) hM hl (fun _ h => h.elim) (m_in hfl Γ _ _ _ _ _) kX7_in t_1399 dX7_mail_25 rfl rfl (Nat.le_of_ble_eq_true rfl) (by decide) rfl ⟨by decide, by decide⟩ xNo_goes (fun H locs hc_25 hM hS => ?_)
      refine g_ifeqB (tgt := 43) hx hb dX7_mail_28 (by decide) (fun c_28 => ?_) (fun c_28 => ?_)
      · skip
        refine lv_iconst (v := 1) hx hb dX7_mail_43 (by decide) ?_
        refine lv_goto (tgt := 79) hx hb dX7_mail_44 (by decide) ?_
        refine g_putI C hM hS clo_7 19 (by decide) rfl (by first | assumption | exact r70) rfl rfl rfl rfl dX7_mail_79 (Or.inl t_1317) (fun H locs hM hS => ?_)
        refine lv_aload_n hx hb dX7_mail_82 rfl (lv_at hl 0 rfl) ?_
        refine g_get C hM clo_7 19 (by decide) (by first | assumption | exact r70) t_1317 rfl (v := .int (mT _ 7 19 _)) rfl dX7_mail_83 ?_
        refine g_if_le (tgt := 91) hx hb dX7_mail_86 (by decide) (fun c_86 => ?_) (fun c_86 => ?_)
        · exact absurd (show ¬ (0 : Int32) < 1 from c_86) (by decide)
        · skip
          refine lv_iconst (v := 0) hx hb dX7_mail_89 (by decide) ?_
          exact g_iret C hr hM hS dX7_mail_90 (by decide) (by decide) ⟨trivial, by rw [mailV, show rMail1 D x y z u v = 1 by simp [rMail1, c_8, c_18, c_28]]; rfl, rfl, by rw [mailE, show rMail1 D x y z u v = 1 by simp [rMail1, c_8, c_18, c_28]]; rfl⟩
      · skip
        refine lv_iload hx hb dX7_mail_31 (lv_at hl 5 rfl) ?_
        refine lv_iconst (v := 0) hx hb dX7_mail_33 (by decide) ?_
        refine lv_sipush (v := 1023) hx hb dX7_mail_34 (by decide) ?_
        refine g_cS C hS (fun _ h => h) hM hl (fun _ h => h.elim) (m_in hfl Γ _ _ _ _ _) kX7_in t_1399 dX7_mail_37 rfl rfl (Nat.le_of_ble_eq_true rfl) (by decide) rfl ⟨by decide, by decide⟩ xNo_goes (fun H locs hc_37 hM hS => ?_)
        refine g_ifneB (tgt := 47) hx hb dX7_mail_40 (by decide) (fun c_40 => ?_) (fun c_40 => ?_)
        · skip
          refine lv_iload_n hx hb dX7_mail_47 rfl (lv_at hl 3 rfl) ?_
          refine lv_iconst (v := -1) hx hb dX7_mail_48 (by decide) ?_
          refine lv_aload_n hx hb dX7_mail_49 rfl (lv_at hl 0 rfl) ?_
          refine g_get C hM clo_7 21 (by decide) (by first | assumption | exact r70) t_1319 rfl (v := .int (mT _ 7 21 _)) rfl dX7_mail_50 ?_
          rw [rmails r]
          refine lv_iconst (v := 1) hx hb dX7_mail_53 (by decide) ?_
          refine lv_isub hx hb dX7_mail_54 ?_
          refine g_cS C hS (fun _ h => h) hM hl (fun _ h => h.elim) (m_in hfl Γ _ _ _ _ _) kX7_in t_1399 dX7_mail_55 rfl rfl (Nat.le_of_ble_eq_true rfl) (by decide) rfl ⟨by decide, by decide⟩ xNo_goes (fun H locs hc_55 hM hS => ?_)
          refine g_ifneB (tgt := 65) hx hb dX7_mail_58 (by decide) (fun c_58 => ?_) (fun c_58 => ?_)
          · skip
            refine lv_aload_n hx hb dX7_mail_65 rfl (lv_at hl 0 rfl) ?_
            refine g_get C hM clo_7 21 (by decide) (by first | assumption | exact r70) t_1319 rfl (v := .int (mT _ 7 21 _)) rfl dX7_mail_66 ?_
            rw [rmails r]
            refine lv_bipush (v := 80) hx hb dX7_mail_69 (by decide) ?_
            refine lv_icmp_ne (tgt := 78) hx hb dX7_mail_71 (by decide) (fun c_71 => ?_) (fun c_71 => ?_)
            · skip
              have hf : ¬ mN D 2 = 80 := fun q => c_71 (h8e.mpr q)
              refine lv_iconst (v := 0) hx hb dX7_mail_78 (by decide) ?_
              refine g_putI C hM hS clo_7 19 (by decide) rfl (by first | assumption | exact r70) rfl rfl rfl rfl dX7_mail_79 (Or.inl t_1317) (fun H locs hM hS => ?_)
              refine lv_aload_n hx hb dX7_mail_82 rfl (lv_at hl 0 rfl) ?_
              refine g_get C hM clo_7 19 (by decide) (by first | assumption | exact r70) t_1317 rfl (v := .int (mT _ 7 19 _)) rfl dX7_mail_83 ?_
              refine g_if_le (tgt := 91) hx hb dX7_mail_86 (by decide) (fun c_86 => ?_) (fun c_86 => ?_)
              · skip
                replace r : RC D (sT M 7 19 0 0) := r
                obtain ⟨hx1, hx2⟩ := inB_ix (n := 8) c_8 (by omega)
                have hzz : ¬ z < 0 → inN z (mN D 2) = true := by intro h; unfold inB at c_58; unfold inN inB; rw [Bool.and_eq_true] at c_58 ⊢; exact ⟨by rw [decide_eq_false h]; rfl, c_58.2⟩
                have hjl := jnR_lt (c := ix x) (y := y) w hzz
                have hab : ∀ q, jnR D (ix x) y z = some q → q < 2 ^ 31 := fun q hq => by have := hjl q hq; omega
                refine lv_aload_n hx hb dX7_mail_91 rfl (lv_at hl 0 rfl) ?_
                refine lv_iload_n hx hb dX7_mail_92 rfl (lv_at hl 1 rfl) ?_
                refine lv_iload_n hx hb dX7_mail_93 rfl (lv_at hl 2 rfl) ?_
                refine lv_iload_n hx hb dX7_mail_94 rfl (lv_at hl 3 rfl) ?_
                refine g_cV C hS (fun _ h => h) hM hl (fun _ h => h.elim) (m_joined hfl Γ _ _ x y z (ix x) D w r hx2 hx1 hzz) kX7_joined t_1434 (HM.recv C hM clo_7 r70) dX7_mail_95 rfl rfl (Nat.le_of_ble_eq_true rfl) (by decide) rfl ⟨by decide, by decide⟩ xNo_goes (fun H locs hc_95 hM hS => ?_)
                refine lv_istore (lv' := [(6, _), (0, _), (1, _), (2, _), (3, _), (4, _), (5, _)]) hx hb dX7_mail_98 hl (by decide) rfl (fun ls hl => ?_)
                refine lv_aload_n hx hb dX7_mail_100 rfl (lv_at hl 1 rfl) ?_
                refine lv_iload hx hb dX7_mail_101 (lv_at hl 0 rfl) ?_
                refine g_if_ge (tgt := 119) hx hb dX7_mail_103 (by decide) (fun c_103 => ?_) (fun c_103 => ?_)
                · skip
                  have hno : ¬ jnR D (ix x) y z = none := fun q => c_103 ((oI_neg hab).mpr q)
                  refine lv_iconst (v := 0) hx hb dX7_mail_119 (by decide) ?_
                  refine g_putI C hM hS clo_7 19 (by decide) rfl (by first | assumption | exact r70) rfl rfl rfl rfl dX7_mail_120 (Or.inl t_1317) (fun H locs hM hS => ?_)
                  refine lv_aload_n hx hb dX7_mail_123 rfl (lv_at hl 1 rfl) ?_
                  refine g_get C hM clo_7 19 (by decide) (by first | assumption | exact r70) t_1317 rfl (v := .int (mT _ 7 19 _)) rfl dX7_mail_124 ?_
                  refine g_if_le (tgt := 132) hx hb dX7_mail_127 (by decide) (fun c_127 => ?_) (fun c_127 => ?_)
                  · skip
                    replace r : RC D (sT (sT M 7 19 0 0) 7 19 0 0) := r
                    refine lv_iload hx hb dX7_mail_132 (lv_at hl 0 rfl) ?_
                    refine g_if_ge (tgt := 154) hx hb dX7_mail_134 (by decide) (fun c_134 => ?_) (fun c_134 => ?_)
                    · skip
                      obtain ⟨b, hbb⟩ : ∃ b, jnR D (ix x) y z = some b := Option.ne_none_iff_exists'.mp hno
                      have hb5 := hjl b hbb
                      refine lv_aload_n hx hb dX7_mail_154 rfl (lv_at hl 1 rfl) ?_
                      refine lv_iload hx hb dX7_mail_155 (lv_at hl 0 rfl) ?_
                      refine g_cV C hS (fun _ h => h) hM hl (fun _ h => h) (m_opens hfl Γ _ _ _ b D w r (by rw [hbb]; rfl) hb5) kX7_opens t_1454 (HM.recv C hM clo_7 r70) dX7_mail_157 rfl rfl (Nat.le_of_ble_eq_true rfl) (by decide) rfl ⟨by decide, by decide⟩ xNo_goes (fun H locs hc_157 hM hS => ?_)
                      have q7 : 0 < mN (opR D (sT (sT M 7 19 0 0) 7 19 0 0) b) 7 := by rw [mN_op]; exact r70
                      have q22 : 0 < mN (opR D (sT (sT M 7 19 0 0) 7 19 0 0) b) 22 := by rw [mN_op]; exact rn0 22 (by decide) (by decide)
                      have q23 : 0 < mN (opR D (sT (sT M 7 19 0 0) 7 19 0 0) b) 23 := by rw [mN_op]; exact rn0 23 (by decide) (by decide)
                      have hmm : mT (opR D (sT (sT M 7 19 0 0) 7 19 0 0) b) 7 21 0 = nI (mN D 2) := mT_op.trans (by have q := rmails r; exact q)
                      refine lv_aload_n hx hb dX7_mail_160 rfl (lv_at hl 1 rfl) ?_
                      refine g_get C hM clo_7 2 (by decide) (by first | assumption | exact r70) t_1300 rfl (v := _) (fv4 rfl) dX7_mail_161 ?_
                      refine lv_aload_n hx hb dX7_mail_164 rfl (lv_at hl 1 rfl) ?_
                      refine g_get C hM clo_7 21 (by decide) (by first | assumption | exact r70) t_1319 rfl (v := .int (mT _ 7 21 _)) rfl dX7_mail_165 ?_
                      refine lv_iload hx hb dX7_mail_168 (lv_at hl 0 rfl) ?_
                      refine g_iast C hM hS rw_22 q22 (mN D 2) hmm (by omega) (by decide) dX7_mail_170 (fun H locs hM hS => ?_)
                      refine lv_aload_n hx hb dX7_mail_171 rfl (lv_at hl 1 rfl) ?_
                      refine g_get C hM clo_7 3 (by decide) (by first | assumption | exact r70) t_1301 rfl (v := _) (fv4 rfl) dX7_mail_172 ?_
                      refine lv_aload_n hx hb dX7_mail_175 rfl (lv_at hl 1 rfl) ?_
                      refine g_get C hM clo_7 21 (by decide) (by first | assumption | exact r70) t_1319 rfl (v := .int (mT _ 7 21 _)) rfl dX7_mail_176 ?_
                      refine lv_iload hx hb dX7_mail_179 (lv_at hl 6 rfl) ?_
                      refine g_iast C hM hS rw_23 q23 (mN D 2) hmm (by omega) (by decide) dX7_mail_181 (fun H locs hM hS => ?_)
                      refine lv_aload_n hx hb dX7_mail_182 rfl (lv_at hl 1 rfl) ?_
                      refine lv_dup hx hb dX7_mail_183 rfl ?_
                      refine g_get C hM clo_7 21 (by decide) (by first | assumption | exact r70) t_1319 rfl (v := .int (mT _ 7 21 _)) rfl dX7_mail_184 ?_
                      refine lv_iconst (v := 1) hx hb dX7_mail_187 (by decide) ?_
                      refine lv_iadd hx hb dX7_mail_188 ?_
                      refine g_putI C hM hS clo_7 21 (by decide) rfl (by first | assumption | exact r70) rfl rfl rfl rfl dX7_mail_189 (Or.inl t_1319) (fun H locs hM hS => ?_)
                      refine lv_iload hx hb dX7_mail_192 (lv_at hl 0 rfl) ?_
                      exact g_iret C hr hM hS dX7_mail_194 (by decide) (by decide) ⟨trivial, by rw [mailV, show rMail1 D x y z u v = 0 by simp [rMail1, c_8, c_18, c_28, c_40, c_58, hf, hno], show rMail2 D x y z = 0 by simp [rMail2, c_8, c_18, c_28, c_40, c_58, hf, hno], hbb]; rfl, rfl, by rw [mailE, show rMail1 D x y z u v = 0 by simp [rMail1, c_8, c_18, c_28, c_40, c_58, hf, hno], show rMail2 D x y z = 0 by simp [rMail2, c_8, c_18, c_28, c_40, c_58, hf, hno], if_pos rfl, if_pos rfl, mailR, hbb]; rfl⟩
                    · skip
                      exact absurd c_134 c_103
                  · exact absurd (show (0 : Int32) < 0 from c_127) (by decide)
                · skip
                  have hno := (oI_neg hab).mp c_103
                  refine lv_aload_n hx hb dX7_mail_106 rfl (lv_at hl 1 rfl) ?_
                  refine g_get C hM clo_7 22 (by decide) (by first | assumption | exact r70) t_1320 rfl (v := .int (mT _ 7 22 _)) rfl dX7_mail_107 ?_
                  rw [rticks r]
                  refine lv_bipush (v := 40) hx hb dX7_mail_110 (by decide) ?_
                  refine lv_icmp_ne (tgt := 119) hx hb dX7_mail_112 (by decide) (fun c_112 => ?_) (fun c_112 => ?_)
                  · skip
                    have hnf : ¬ mN D 4 = 40 := fun q => c_112 (h4e.mpr q)
                    refine lv_iconst (v := 0) hx hb dX7_mail_119 (by decide) ?_
                    refine g_putI C hM hS clo_7 19 (by decide) rfl (by first | assumption | exact r70) rfl rfl rfl rfl dX7_mail_120 (Or.inl t_1317) (fun H locs hM hS => ?_)
                    refine lv_aload_n hx hb dX7_mail_123 rfl (lv_at hl 1 rfl) ?_
                    refine g_get C hM clo_7 19 (by decide) (by first | assumption | exact r70) t_1317 rfl (v := .int (mT _ 7 19 _)) rfl dX7_mail_124 ?_
                    refine g_if_le (tgt := 132) hx hb dX7_mail_127 (by decide) (fun c_127 => ?_) (fun c_127 => ?_)
                    · skip
                      replace r : RC D (sT (sT M 7 19 0 0) 7 19 0 0) := r
                      refine lv_iload hx hb dX7_mail_132 (lv_at hl 0 rfl) ?_
                      refine g_if_ge (tgt := 154) hx hb dX7_mail_134 (by decide) (fun c_134 => ?_) (fun c_134 => ?_)
                      · skip
                        exact absurd c_103 c_134
                      · skip
                        refine lv_aload_n hx hb dX7_mail_137 rfl (lv_at hl 1 rfl) ?_
                        refine g_get C hM clo_7 22 (by decide) (by first | assumption | exact r70) t_1320 rfl (v := .int (mT _ 7 22 _)) rfl dX7_mail_138 ?_
                        rw [rticks r]
                        refine lv_istore (lv' := [(6, _), (0, _), (1, _), (2, _), (3, _), (4, _), (5, _)]) hx hb dX7_mail_141 hl (by decide) rfl (fun ls hl => ?_)
                        have hlt4 : mN D 4 < 40 := by omega
                        refine lv_aload_n hx hb dX7_mail_143 rfl (lv_at hl 1 rfl) ?_
                        refine lv_iload_n hx hb dX7_mail_144 rfl (lv_at hl 2 rfl) ?_
                        refine lv_iload_n hx hb dX7_mail_145 rfl (lv_at hl 3 rfl) ?_
                        refine lv_iload hx hb dX7_mail_146 (lv_at hl 5 rfl) ?_
                        refine g_cV C hS (fun _ h => h) hM hl (fun _ h => h) (m_makes hfl Γ _ _ _ _ _ D w r hlt4) kX7_makes t_1450 (HM.recv C hM clo_7 r70) dX7_mail_148 rfl rfl (Nat.le_of_ble_eq_true rfl) (by decide) rfl ⟨by decide, by decide⟩ xNo_goes (fun H locs hc_148 hM hS => ?_)
                        refine lv_goto (tgt := 160) hx hb dX7_mail_151 (by decide) ?_
                        have q7 : 0 < mN (mkR D (sT (sT M 7 19 0 0) 7 19 0 0) x y u) 7 := r70
                        have q22 : 0 < mN (mkR D (sT (sT M 7 19 0 0) 7 19 0 0) x y u) 22 := rn0 22 (by decide) (by decide)
                        have q23 : 0 < mN (mkR D (sT (sT M 7 19 0 0) 7 19 0 0) x y u) 23 := rn0 23 (by decide) (by decide)
                        have hmm : mT (mkR D (sT (sT M 7 19 0 0) 7 19 0 0) x y u) 7 21 0 = nI (mN D 2) := by have q := rmails r; exact q
                        refine lv_aload_n hx hb dX7_mail_160 rfl (lv_at hl 1 rfl) ?_
                        refine g_get C hM clo_7 2 (by decide) (by first | assumption | exact r70) t_1300 rfl (v := _) (fv4 rfl) dX7_mail_161 ?_
                        refine lv_aload_n hx hb dX7_mail_164 rfl (lv_at hl 1 rfl) ?_
                        refine g_get C hM clo_7 21 (by decide) (by first | assumption | exact r70) t_1319 rfl (v := .int (mT _ 7 21 _)) rfl dX7_mail_165 ?_
                        refine lv_iload hx hb dX7_mail_168 (lv_at hl 0 rfl) ?_
                        refine g_iast C hM hS rw_22 q22 (mN D 2) hmm (by omega) (by decide) dX7_mail_170 (fun H locs hM hS => ?_)
                        refine lv_aload_n hx hb dX7_mail_171 rfl (lv_at hl 1 rfl) ?_
                        refine g_get C hM clo_7 3 (by decide) (by first | assumption | exact r70) t_1301 rfl (v := _) (fv4 rfl) dX7_mail_172 ?_
                        refine lv_aload_n hx hb dX7_mail_175 rfl (lv_at hl 1 rfl) ?_
                        refine g_get C hM clo_7 21 (by decide) (by first | assumption | exact r70) t_1319 rfl (v := .int (mT _ 7 21 _)) rfl dX7_mail_176 ?_
                        refine lv_iload hx hb dX7_mail_179 (lv_at hl 6 rfl) ?_
                        refine g_iast C hM hS rw_23 q23 (mN D 2) hmm (by omega) (by decide) dX7_mail_181 (fun H locs hM hS => ?_)
                        refine lv_aload_n hx hb dX7_mail_182 rfl (lv_at hl 1 rfl) ?_
                        refine lv_dup hx hb dX7_mail_183 rfl ?_
                        refine g_get C hM clo_7 21 (by decide) (by first | assumption | exact r70) t_1319 rfl (v := .int (mT _ 7 21 _)) rfl dX7_mail_184 ?_
                        refine lv_iconst (v := 1) hx hb dX7_mail_187 (by decide) ?_
                        refine lv_iadd hx hb dX7_mail_188 ?_
                        refine g_putI C hM hS clo_7 21 (by decide) rfl (by first | assumption | exact r70) rfl rfl rfl rfl dX7_mail_189 (Or.inl t_1319) (fun H locs hM hS => ?_)
                        refine lv_iload hx hb dX7_mail_192 (lv_at hl 0 rfl) ?_
                        exact g_iret C hr hM hS dX7_mail_194 (by decide) (by decide) ⟨trivial, by rw [mailV, show rMail1 D x y z u v = 0 by simp [rMail1, c_8, c_18, c_28, c_40, c_58, hf, hno, hnf], show rMail2 D x y z = 0 by simp [rMail2, c_8, c_18, c_28, c_40, c_58, hf, hno, hnf], hno]; rfl, rfl, by rw [mailE, show rMail1 D x y z u v = 0 by simp [rMail1, c_8, c_18, c_28, c_40, c_58, hf, hno, hnf], show rMail2 D x y z = 0 by simp [rMail2, c_8, c_18, c_28, c_40, c_58, hf, hno, hnf], if_pos rfl, if_pos rfl, mailR, hno]; rfl⟩
                    · exact absurd (show (0 : Int32) < 0 from c_127) (by decide)
                  · skip
                    have hnf := h4e.mp c_112
                    refine lv_iconst (v := 3) hx hb dX7_mail_115 (by decide) ?_
                    refine lv_goto (tgt := 120) hx hb dX7_mail_116 (by decide) ?_
                    refine g_putI C hM hS clo_7 19 (by decide) rfl (by first | assumption | exact r70) rfl rfl rfl rfl dX7_mail_120 (Or.inl t_1317) (fun H locs hM hS => ?_)
                    refine lv_aload_n hx hb dX7_mail_123 rfl (lv_at hl 1 rfl) ?_
                    refine g_get C hM clo_7 19 (by decide) (by first | assumption | exact r70) t_1317 rfl (v := .int (mT _ 7 19 _)) rfl dX7_mail_124 ?_
                    refine g_if_le (tgt := 132) hx hb dX7_mail_127 (by decide) (fun c_127 => ?_) (fun c_127 => ?_)
                    · exact absurd (show ¬ (0 : Int32) < 3 from c_127) (by decide)
                    · skip
                      refine lv_iconst (v := 0) hx hb dX7_mail_130 (by decide) ?_
                      exact g_iret C hr hM hS dX7_mail_131 (by decide) (by decide) ⟨trivial, by rw [mailV, show rMail1 D x y z u v = 0 by simp [rMail1, c_8, c_18, c_28, c_40, c_58, hf, hno, hnf], show rMail2 D x y z = 3 by simp [rMail2, c_8, c_18, c_28, c_40, c_58, hf, hno, hnf]]; rfl, rfl, by rw [mailE, show rMail1 D x y z u v = 0 by simp [rMail1, c_8, c_18, c_28, c_40, c_58, hf, hno, hnf], show rMail2 D x y z = 3 by simp [rMail2, c_8, c_18, c_28, c_40, c_58, hf, hno, hnf]]; rfl⟩
              · exact absurd (show (0 : Int32) < 0 from c_86) (by decide)
            · skip
              have hf := h8e.mp c_71
              replace c_58 : inB z (-1) (nI 80 - 1) = true := by rw [hf] at c_58; exact c_58
              refine lv_iconst (v := 3) hx hb dX7_mail_74 (by decide) ?_
              refine lv_goto (tgt := 79) hx hb dX7_mail_75 (by decide) ?_
              refine g_putI C hM hS clo_7 19 (by decide) rfl (by first | assumption | exact r70) rfl rfl rfl rfl dX7_mail_79 (Or.inl t_1317) (fun H locs hM hS => ?_)
              refine lv_aload_n hx hb dX7_mail_82 rfl (lv_at hl 0 rfl) ?_
              refine g_get C hM clo_7 19 (by decide) (by first | assumption | exact r70) t_1317 rfl (v := .int (mT _ 7 19 _)) rfl dX7_mail_83 ?_
              refine g_if_le (tgt := 91) hx hb dX7_mail_86 (by decide) (fun c_86 => ?_) (fun c_86 => ?_)
              · exact absurd (show ¬ (0 : Int32) < 3 from c_86) (by decide)
              · skip
                refine lv_iconst (v := 0) hx hb dX7_mail_89 (by decide) ?_
                exact g_iret C hr hM hS dX7_mail_90 (by decide) (by decide) ⟨trivial, by rw [mailV, show rMail1 D x y z u v = 3 by simp [rMail1, c_8, c_18, c_28, c_40, c_58, hf]]; rfl, rfl, by rw [mailE, show rMail1 D x y z u v = 3 by simp [rMail1, c_8, c_18, c_28, c_40, c_58, hf]]; rfl⟩
          · skip
            refine lv_iconst (v := 2) hx hb dX7_mail_61 (by decide) ?_
            refine lv_goto (tgt := 79) hx hb dX7_mail_62 (by decide) ?_
            refine g_putI C hM hS clo_7 19 (by decide) rfl (by first | assumption | exact r70) rfl rfl rfl rfl dX7_mail_79 (Or.inl t_1317) (fun H locs hM hS => ?_)
            refine lv_aload_n hx hb dX7_mail_82 rfl (lv_at hl 0 rfl) ?_
            refine g_get C hM clo_7 19 (by decide) (by first | assumption | exact r70) t_1317 rfl (v := .int (mT _ 7 19 _)) rfl dX7_mail_83 ?_
            refine g_if_le (tgt := 91) hx hb dX7_mail_86 (by decide) (fun c_86 => ?_) (fun c_86 => ?_)
            · exact absurd (show ¬ (0 : Int32) < 2 from c_86) (by decide)
            · skip
              refine lv_iconst (v := 0) hx hb dX7_mail_89 (by decide) ?_
              exact g_iret C hr hM hS dX7_mail_90 (by decide) (by decide) ⟨trivial, by rw [mailV, show rMail1 D x y z u v = 2 by simp [rMail1, c_8, c_18, c_28, c_40, c_58]]; rfl, rfl, by rw [mailE, show rMail1 D x y z u v = 2 by simp [rMail1, c_8, c_18, c_28, c_40, c_58]]; rfl⟩
        · skip
          refine lv_iconst (v := 1) hx hb dX7_mail_43 (by decide) ?_
          refine lv_goto (tgt := 79) hx hb dX7_mail_44 (by decide) ?_
          refine g_putI C hM hS clo_7 19 (by decide) rfl (by first | assumption | exact r70) rfl rfl rfl rfl dX7_mail_79 (Or.inl t_1317) (fun H locs hM hS => ?_)
          refine lv_aload_n hx hb dX7_mail_82 rfl (lv_at hl 0 rfl) ?_
          refine g_get C hM clo_7 19 (by decide) (by first | assumption | exact r70) t_1317 rfl (v := .int (mT _ 7 19 _)) rfl dX7_mail_83 ?_
          refine g_if_le (tgt := 91) hx hb dX7_mail_86 (by decide) (fun c_86 => ?_) (fun c_86 => ?_)
          · exact absurd (show ¬ (0 : Int32) < 1 from c_86) (by decide)
          · skip
            refine lv_iconst (v := 0) hx hb dX7_mail_89 (by decide) ?_
            exact g_iret C hr hM hS dX7_mail_90 (by decide) (by decide) ⟨trivial, by rw [mailV, show rMail1 D x y z u v = 1 by simp [rMail1, c_8, c_18, c_28, c_40]]; rfl, rfl, by rw [mailE, show rMail1 D x y z u v = 1 by simp [rMail1, c_8, c_18, c_28, c_40]]; rfl⟩

