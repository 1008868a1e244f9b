def mpos (M : Mem) (l : List Nat) (x : Nat) : Nat → Nat
  | 0 => 0
  | p + 1 => if mT M 2 0 x < mT M 2 0 (l.getD p 0) then mpos M l x p else p + 1
def imM (M : Mem) (i x : Nat) : Mem := sP (sC (sL M 8 i (insL (mL M 8 i) (mpos M (mL M 8 i) x (mL M 8 i).length) x)) 8 i 0) 2 1 x (some i)
theorem mpos_le {M : Mem} {l : List Nat} {x : Nat} : ∀ e, mpos M l x e ≤ e
  | 0 => Nat.le_refl _
  | e + 1 => by
    unfold mpos
    split
    · exact Nat.le_succ_of_le (mpos_le e)
    · exact Nat.le_refl _
theorem mN_im {M : Mem} {i x : Nat} : mN (imM M i x) = mN M := rfl
theorem mT_im {M : Mem} {i x : Nat} : mT (imM M i x) = mT M := rfl
theorem im_perm {M : Mem} {i x : Nat} : (mL (imM M i x) 8 i).Perm (x :: mL M 8 i) := by
  show (if (8 : Nat) = 8 ∧ i = i then _ else _ : List Nat).Perm _
  rw [if_pos ⟨rfl, rfl⟩]
  exact insL_perm _ _ _
theorem im_ne {M : Mem} {i x k t : Nat} (h : ¬ (k = 8 ∧ t = i)) : mL (imM M i x) k t = mL M k t := if_neg h
theorem wf_im {M : Mem} {i x : Nat} (w : Wf M) (hi : i < mN M 4) (hx : x < mN M 2) (hl : (mL M 8 i).length < 80) : Wf (imM M i x) := by
  refine wf_ticketOf (show i < mN (sC (sL M 8 i _) 8 i 0) 4 from hi) (wf_sC (wf_mails ?_ ?_ w))
  · intro y hy
    rcases List.mem_cons.mp ((insL_perm _ _ _).mem_iff.mp hy) with rfl | h
    · exact hx
    · exact (w.2.2.1 i hi).2.2.2.2.2.2.2.1 y h
  · rw [insL_len]; exact hl
set_option maxHeartbeats 4000000 in
set_option maxRecDepth 100000 in
theorem c_insertMail {l : Launch} (hfl : l.stackTraces = false) (Γ : Gm) (K : Nat → Nat → Nat) (M : Mem) (i x : Nat) (w : Wf M) (hi : i < mN M 4) (hx2 : x < mN M 2) (hlen : (mL M 8 i).length < 80) : CT l Γ (gFree Γ) yX4_insertMail (wsO yX4_insertMail cX4_insertMail 3 none) 7 [.ref (K 4 i), .ref (K 2 x)] K M (DD True none K (imM M i x)) xNo 1 120 := by
  refine ct_intro hfl (by decide) (Nat.le_of_ble_eq_true rfl) ?_
  intro p e s m args below meth c C ht hr hnm hM ls hl
  have hx := C.1
  have hb := C.2.1
  have hS : va_S (gFree Γ) s.heap s.heap [] := va_S.rf
  have hl : lv_has ls 3 [(0, .ref (K 4 i)), (1, .ref (K 2 x))] := hl
  refine lv_aload_n hx hb dX4_insertMail_0 rfl (lv_at hl 0 rfl) ?_
  refine g_get C hM clo_4 3 (by decide) hi t_769 rfl (v := _) (fv3 rfl) dX4_insertMail_1 ?_
  refine g_cV C hS (fun _ h => h) hM hl (fun _ h => h.elim) (c_lsize hfl Γ _ _ 8 _ rfl (wn8 (by assumption) (by assumption))) kJx4a65c_size_8abf5 t_200 (HM.recvL C hM rfl (wn8 (by assumption) (by assumption))) dX4_insertMail_4 rfl rfl (Nat.le_of_ble_eq_true rfl) (by decide) rfl ⟨by decide, by decide⟩ xNo_goes (fun H locs hc_4 hM hS => ?_)
  refine lv_istore_n (lv' := [(2, _), (0, _), (1, _)]) hx hb dX4_insertMail_7 rfl hl (by decide) rfl (fun ls hl => ?_)
  suffices K8 : ∀ (n9 : Nat) (p5 : Nat), p5 < n9 → (p5 ≤ (mL M 8 i).length) → (mpos M (mL M 8 i) x (mL M 8 i).length = mpos M (mL M 8 i) x p5) → ∀ (H : Heap) (locs : List Loc) (ls : Array Slot), HM Γ K M H → va_S (gFree Γ) s.heap H locs → lv_has ls 3 [(0, .ref (K 4 i)), (1, .ref (K 2 x)), (2, .int (nI p5))] → W p l e (rmL 7 1 120) s m args below meth c H locs 0 0 (vx_MQ below (cQ Γ (gFree Γ) (DD True none K (imM M i x))) (cX Γ (gFree Γ) K M xNo) args s 1 120 (gFree Γ)) (F0 m 8 ls []) by
    exact K8 _ (mL M 8 i).length (Nat.lt_succ_self _) (Nat.le_refl _) rfl _ _ _ hM hS (lv_sub hl [1, 2, 0] rfl)
  intro n9
  induction n9 with
  | zero => intro p5 h9; exact absurd h9 (Nat.not_lt_zero _)
  | succ n9 ih =>
    intro p5 h9 hp hm H locs ls hM hS hl
    refine lv_iload_n hx hb dX4_insertMail_8 rfl (lv_at hl 2 rfl) ?_
    refine g_if_le (tgt := 41) hx hb dX4_insertMail_9 (by decide) (fun c_9 => ?_) (fun c_9 => ?_)
    · skip
      refine lv_aload_n hx hb dX4_insertMail_41 rfl (lv_at hl 0 rfl) ?_
      refine g_get C hM clo_4 3 (by decide) hi t_769 rfl (v := _) (fv3 rfl) dX4_insertMail_42 ?_
      refine lv_iload_n hx hb dX4_insertMail_45 rfl (lv_at hl 2 rfl) ?_
      refine lv_aload_n hx hb dX4_insertMail_46 rfl (lv_at hl 1 rfl) ?_
      refine g_cV C hS (fun _ h => h) hM hl (fun _ h => h) (c_lins hfl Γ _ _ 8 i _ x rfl (wn8 w hi) hx2 hlen (by omega) (w.2.2.1 i hi).2.2.2.2.2.2.2.1) kJx4a65c_add_7a177 t_859 (HM.recvL C hM rfl (wn8 w hi)) dX4_insertMail_47 rfl rfl (Nat.le_of_ble_eq_true rfl) (by decide) rfl ⟨by decide, by decide⟩ xNo_goes (fun H locs hc_47 hM hS => ?_)
      refine lv_aload_n hx hb dX4_insertMail_50 rfl (lv_at hl 1 rfl) ?_
      refine lv_aload_n hx hb dX4_insertMail_51 rfl (lv_at hl 0 rfl) ?_
      refine g_putP C hM hS clo_2 1 (by decide) (some _) rfl rfl hx2 rfl rfl rfl rfl dX4_insertMail_52 (Or.inr n_849) (fun H locs hM hS => ?_)
      exact g_vret C hr hM hS dX4_insertMail_55 (by decide) (by decide) ⟨trivial, rfl, rfl, by rw [imM, hm, show p5 = 0 from Nat.eq_zero_of_not_pos (fun z => c_9 (by rw [← nI_0]; exact nI_lt z (by omega)))]; rfl⟩
    · skip
      obtain ⟨p5, rfl⟩ : ∃ z, p5 = z + 1 := ⟨p5 - 1, by have h0 : p5 ≠ 0 := fun z => absurd c_9 (by rw [z]; decide); omega⟩
      have hpl : p5 < (mL M 8 i).length := by omega
      refine lv_aload_n hx hb dX4_insertMail_12 rfl (lv_at hl 0 rfl) ?_
      refine g_get C hM clo_4 3 (by decide) hi t_769 rfl (v := _) (fv3 rfl) dX4_insertMail_13 ?_
      refine lv_iload_n hx hb dX4_insertMail_16 rfl (lv_at hl 2 rfl) ?_
      refine lv_iconst (v := 1) hx hb dX4_insertMail_17 (by decide) ?_
      refine lv_isub hx hb dX4_insertMail_18 ?_
      rw [nI_pred]
      refine g_cV C hS (fun _ h => h) hM hl (fun _ h => h.elim) (c_lget hfl Γ _ _ 8 _ p5 rfl (wn8 w hi) hpl) kJx4a65c_get_915e3 t_201 (HM.recvL C hM rfl (wn8 w hi)) dX4_insertMail_19 rfl rfl (Nat.le_of_ble_eq_true rfl) (by decide) rfl ⟨by decide, by decide⟩ xNo_goes (fun H locs hc_19 hM hS => ?_)
      refine g_chk C hM clo_2 (cmem w hi hpl) t_202 dX4_insertMail_22 ?_
      refine g_getN C hM clo_2 0 (by decide) (cmem w hi hpl) n_846 rfl (v := .int (mT _ 2 0 _)) rfl dX4_insertMail_25 ?_
      refine lv_aload_n hx hb dX4_insertMail_28 rfl (lv_at hl 1 rfl) ?_
      refine g_getN C hM clo_2 0 (by decide) hx2 n_846 rfl (v := .int (mT _ 2 0 _)) rfl dX4_insertMail_29 ?_
      refine g_icmp_le (tgt := 41) hx hb dX4_insertMail_32 (by decide) (fun c_32 => ?_) (fun c_32 => ?_)
      · skip
        refine lv_aload_n hx hb dX4_insertMail_41 rfl (lv_at hl 0 rfl) ?_
        refine g_get C hM clo_4 3 (by decide) hi t_769 rfl (v := _) (fv3 rfl) dX4_insertMail_42 ?_
        refine lv_iload_n hx hb dX4_insertMail_45 rfl (lv_at hl 2 rfl) ?_
        refine lv_aload_n hx hb dX4_insertMail_46 rfl (lv_at hl 1 rfl) ?_
        refine g_cV C hS (fun _ h => h) hM hl (fun _ h => h) (c_lins hfl Γ _ _ 8 i _ x rfl (wn8 w hi) hx2 hlen (by omega) (w.2.2.1 i hi).2.2.2.2.2.2.2.1) kJx4a65c_add_7a177 t_859 (HM.recvL C hM rfl (wn8 w hi)) dX4_insertMail_47 rfl rfl (Nat.le_of_ble_eq_true rfl) (by decide) rfl ⟨by decide, by decide⟩ xNo_goes (fun H locs hc_47 hM hS => ?_)
        refine lv_aload_n hx hb dX4_insertMail_50 rfl (lv_at hl 1 rfl) ?_
        refine lv_aload_n hx hb dX4_insertMail_51 rfl (lv_at hl 0 rfl) ?_
        refine g_putP C hM hS clo_2 1 (by decide) (some _) rfl rfl hx2 rfl rfl rfl rfl dX4_insertMail_52 (Or.inr n_849) (fun H locs hM hS => ?_)
        exact g_vret C hr hM hS dX4_insertMail_55 (by decide) (by decide) ⟨trivial, rfl, rfl, by rw [imM, hm]; simp only [mpos, c_32]; rfl⟩
      · skip
        refine lv_iinc (k := 2) (v := nI p5) (lv' := [(2, _), (0, _), (1, _)]) hx hb dX4_insertMail_35 hl rfl (pk_m1 p5) (by decide) rfl (fun ls hl => ?_)
        refine lv_goto (tgt := 8) hx hb dX4_insertMail_38 (by decide) ?_
        exact ih p5 (by omega) (by omega) (by rw [hm]; simp only [mpos, c_32, if_true]) _ _ _ hM hS (lv_sub hl [1, 2, 0] rfl)

def lmM (M : Mem) (i : Nat) : Int32 := if (mL M 8 i).isEmpty = true then -1 else mT M 2 0 ((mL M 8 i).getD ((mL M 8 i).length - 1) 0)
set_option maxHeartbeats 4000000 in
set_option maxRecDepth 100000 in
theorem c_lastMail {l : Launch} (hfl : l.stackTraces = false) (Γ : Gm) (K : Nat → Nat → Nat) (M : Mem) (i : Nat) (w : Wf M) (hi : i < mN M 4) : CT l Γ pF yX4_lastMail (wsO yX4_lastMail cX4_lastMail 1 (some .int)) 4 [.ref (K 4 i)] K M (DD True (some (.int (lmM M i))) K M) xNo 0 0 := by
  refine ct_intro hfl (by decide) (Nat.le_of_ble_eq_true rfl) ?_
  intro p e s m args below meth c C ht hr hnm hM ls hl
  have hx := C.1
  have hb := C.2.1
  have hS : va_S pF s.heap s.heap [] := va_S.rf
  have hl : lv_has ls 1 [(0, .ref (K 4 i))] := hl
  refine lv_aload_n hx hb dX4_lastMail_0 rfl (lv_at hl 0 rfl) ?_
  refine g_get C hM clo_4 3 (by decide) hi t_769 rfl (v := _) (fv3 rfl) dX4_lastMail_1 ?_
  refine g_cV C hS (fun _ h => h.elim) hM hl (fun _ h => h) (c_lempty hfl Γ _ _ 8 _ rfl (wn8 (by assumption) (by assumption))) kJx4a65c_isEmpty_aae02 t_739 (HM.recvL C hM rfl (wn8 (by assumption) (by assumption))) dX4_lastMail_4 rfl rfl (Nat.le_of_ble_eq_true rfl) (by decide) rfl ⟨by decide, by decide⟩ xNo_goes (fun H locs hc_4 hM hS => ?_)
  refine g_ifeqB (tgt := 14) hx hb dX4_lastMail_7 (by decide) (fun c_7 => ?_) (fun c_7 => ?_)
  · skip
    have hne : 0 < (mL M 8 i).length := List.length_pos_iff.mpr (by simpa using c_7)
    have hpl : (mL M 8 i).length - 1 < (mL M 8 i).length := by omega
    have hcl := clen w hi
    have e9 : nI (mL M 8 i).length - 1 = nI ((mL M 8 i).length - 1) := by rw [← nI_pred ((mL M 8 i).length - 1), Nat.sub_add_cancel hne]
    refine lv_aload_n hx hb dX4_lastMail_14 rfl (lv_at hl 0 rfl) ?_
    refine g_get C hM clo_4 3 (by decide) hi t_769 rfl (v := _) (fv3 rfl) dX4_lastMail_15 ?_
    refine lv_aload_n hx hb dX4_lastMail_18 rfl (lv_at hl 0 rfl) ?_
    refine g_get C hM clo_4 3 (by decide) hi t_769 rfl (v := _) (fv3 rfl) dX4_lastMail_19 ?_
    refine g_cV C hS (fun _ h => h.elim) hM hl (fun _ h => h) (c_lsize hfl Γ _ _ 8 _ rfl (wn8 (by assumption) (by assumption))) kJx4a65c_size_8abf5 t_200 (HM.recvL C hM rfl (wn8 (by assumption) (by assumption))) dX4_lastMail_22 rfl rfl (Nat.le_of_ble_eq_true rfl) (by decide) rfl ⟨by decide, by decide⟩ xNo_goes (fun H locs hc_22 hM hS => ?_)
    refine lv_iconst (v := 1) hx hb dX4_lastMail_25 (by decide) ?_
    refine lv_isub hx hb dX4_lastMail_26 ?_
    rw [e9]
    refine g_cV C hS (fun _ h => h.elim) hM hl (fun _ h => h) (c_lget hfl Γ _ _ 8 _ ((mL M 8 i).length - 1) rfl (wn8 w hi) hpl) kJx4a65c_get_915e3 t_201 (HM.recvL C hM rfl (wn8 w hi)) dX4_lastMail_27 rfl rfl (Nat.le_of_ble_eq_true rfl) (by decide) rfl ⟨by decide, by decide⟩ xNo_goes (fun H locs hc_27 hM hS => ?_)
    refine g_chk C hM clo_2 (cmem w hi hpl) t_202 dX4_lastMail_30 ?_
    refine g_getN C hM clo_2 0 (by decide) (cmem w hi hpl) n_846 rfl (v := .int (mT _ 2 0 _)) rfl dX4_lastMail_33 ?_
    exact g_iret C hr hM hS dX4_lastMail_36 (by decide) (by decide) ⟨trivial, by rw [lmM, c_7]; rfl, rfl, rfl⟩
  · skip
    refine lv_iconst (v := -1) hx hb dX4_lastMail_10 (by decide) ?_
    refine lv_goto (tgt := 36) hx hb dX4_lastMail_11 (by decide) ?_
    exact g_iret C hr hM hS dX4_lastMail_36 (by decide) (by decide) ⟨trivial, by rw [lmM, c_7]; rfl, rfl, rfl⟩

def toN (M : Mem) (i t : Nat) : Nat → Mem
  | 0 => M
  | n + 1 => imM (toN M i t n) i ((mL M 8 t).getD n 0)
theorem mN_to {M : Mem} {i t : Nat} : ∀ n, mN (toN M i t n) = mN M
  | 0 => rfl
  | n + 1 => (mN_im (M := toN M i t n)).trans (mN_to n)
theorem mT_to {M : Mem} {i t : Nat} : ∀ n, mT (toN M i t n) = mT M
  | 0 => rfl
  | n + 1 => (mT_im (M := toN M i t n)).trans (mT_to n)
theorem to_t {M : Mem} {i t : Nat} (h : t ≠ i) : ∀ n, mL (toN M i t n) 8 t = mL M 8 t
  | 0 => rfl
  | n + 1 => (im_ne (M := toN M i t n) (fun z => h z.2)).trans (to_t h n)
theorem to_len {M : Mem} {i t : Nat} : ∀ n, (mL (toN M i t n) 8 i).length = (mL M 8 i).length + n
  | 0 => rfl
  | n + 1 => by
    have h := (im_perm (M := toN M i t n) (i := i) (x := (mL M 8 t).getD n 0)).length_eq
    rw [List.length_cons, to_len n] at h
    exact h
theorem wf_to {M : Mem} {i t : Nat} (w : Wf M) (hi : i < mN M 4) (ht : t < mN M 4) (hl : (mL M 8 i).length + (mL M 8 t).length ≤ 80) : ∀ n, n ≤ (mL M 8 t).length → Wf (toN M i t n)
  | 0, _ => w
  | n + 1, h => by
    refine wf_im (wf_to w hi ht hl n (by omega)) (by rw [mN_to]; exact hi) (by rw [mN_to]; exact cmem w ht (by omega)) ?_
    rw [to_len]; omega
def tov1 (M : Mem) (i t : Nat) : Mem := sT M 4 5 i (mT M 4 5 i ||| mT M 4 5 t)
def tov2 (M : Mem) (i t : Nat) : Mem := sT M 4 7 i (if mT M 4 7 i < mT M 4 7 t then mT M 4 7 t else mT M 4 7 i)
def tov3 (M : Mem) (i t : Nat) : Mem := sT M 4 8 i (bI (!decide (mT M 4 8 i = 0) || !decide (mT M 4 8 t = 0)))
def tov4 (M : Mem) (i t : Nat) : Mem := sP (sT (sT (sC (sL M 8 t []) 8 t 0) 4 5 t 0) 4 6 t 109) 4 13 t (some i)
def tovM (M : Mem) (i t : Nat) : Mem := tov4 (tov3 (tov2 (tov1 (toN M i t (mL M 8 t).length) i t) i t) i t) i t
set_option maxHeartbeats 4000000 in
set_option maxRecDepth 100000 in
theorem c_takeOver {l : Launch} (hfl : l.stackTraces = false) (Γ : Gm) (K : Nat → Nat → Nat) (M : Mem) (i t : Nat) (w : Wf M) (hi : i < mN M 4) (ht4 : t < mN M 4) (hne : t ≠ i) (hlen : (mL M 8 i).length + (mL M 8 t).length ≤ 80) : CT l Γ (gFree Γ) yX4_takeOver (wsO yX4_takeOver cX4_takeOver 3 none) 8 [.ref (K 4 i), .ref (K 4 t)] K M (DD True none K (tovM M i t)) xNo 80 9600 := by
  refine ct_intro hfl (by decide) (Nat.le_of_ble_eq_true rfl) ?_
  intro p e s m args below meth c C ht hr hnm hM ls hl
  have hx := C.1
  have hb := C.2.1
  have hS : va_S (gFree Γ) s.heap s.heap [] := va_S.rf
  have hl : lv_has ls 3 [(0, .ref (K 4 i)), (1, .ref (K 4 t))] := hl
  refine lv_iconst (v := 0) hx hb dX4_takeOver_0 (by decide) ?_
  refine lv_istore_n (lv' := [(2, _), (0, _), (1, _)]) hx hb dX4_takeOver_1 rfl hl (by decide) rfl (fun ls hl => ?_)
  suffices K2 : ∀ (n9 : Nat) (n : Nat), (mL M 8 t).length - n < n9 → (Wf (toN M i t n)) → (n ≤ (mL M 8 t).length) → ∀ (H : Heap) (locs : List Loc) (ls : Array Slot), HM Γ K (toN M i t n) H → va_S (gFree Γ) s.heap H locs → lv_has ls 3 [(0, .ref (K 4 i)), (1, .ref (K 4 t)), (2, .int (nI n))] → W p l e (rmL 8 80 9600) s m args below meth c H locs n (120 * n) (vx_MQ below (cQ Γ (gFree Γ) (DD True none K (tovM M i t))) (cX Γ (gFree Γ) K M xNo) args s 80 9600 (gFree Γ)) (F0 m 2 ls []) by
    exact K2 _ 0 (Nat.lt_succ_self _) w (Nat.zero_le _) _ _ _ hM hS (lv_sub hl [1, 2, 0] rfl)
  intro n9
  induction n9 with
  | zero => intro n h9; exact absurd h9 (Nat.not_lt_zero _)
  | succ n9 ih =>
    intro n h9 wz hn H locs ls hM hS hl
    have hiz : i < mN (toN M i t n) 4 := by rw [mN_to]; exact hi
    have htz : t < mN (toN M i t n) 4 := by rw [mN_to]; exact ht4
    have e8 := to_t (M := M) hne n
    refine lv_iload_n hx hb dX4_takeOver_2 rfl (lv_at hl 2 rfl) ?_
    refine lv_aload_n hx hb dX4_takeOver_3 rfl (lv_at hl 1 rfl) ?_
    refine g_get C hM clo_4 3 (by decide) (by assumption) t_769 rfl (v := _) (fv3 rfl) dX4_takeOver_4 ?_
    refine g_cV C hS (fun _ h => h) hM hl (fun _ h => h.elim) (c_lsize hfl Γ _ _ 8 _ rfl (wn8 (by assumption) (by assumption))) kJx4a65c_size_8abf5 t_200 (HM.recvL C hM rfl (wn8 (by assumption) (by assumption))) dX4_takeOver_7 rfl rfl (Nat.le_of_ble_eq_true rfl) (by decide) rfl ⟨by omega, by omega⟩ xNo_goes (fun H locs hc_7 hM hS => ?_)
    refine g_icmp_ge (tgt := 34) hx hb dX4_takeOver_10 (by decide) (fun c_10 => ?_) (fun c_10 => ?_)
    · skip
      have hend : n = (mL M 8 t).length := by rw [e8] at c_10; have := (not_congr (nI_ltI (a := n) (b := (mL M 8 t).length) (by omega) (by omega))).mp c_10; omega
      subst hend
      refine lv_aload_n hx hb dX4_takeOver_34 rfl (lv_at hl 0 rfl) ?_
      refine lv_dup hx hb dX4_takeOver_35 rfl ?_
      refine g_get C hM clo_4 5 (by decide) (by assumption) t_773 rfl (v := .int (mT _ 4 5 _)) rfl dX4_takeOver_36 ?_
      refine lv_aload_n hx hb dX4_takeOver_39 rfl (lv_at hl 1 rfl) ?_
      refine g_get C hM clo_4 5 (by decide) (by assumption) t_773 rfl (v := .int (mT _ 4 5 _)) rfl dX4_takeOver_40 ?_
      refine lv_ior hx hb dX4_takeOver_43 ?_
      refine g_putI C hM hS clo_4 5 (by decide) rfl (by assumption) rfl rfl rfl rfl dX4_takeOver_44 (Or.inl t_773) (fun H locs hM hS => ?_)
      refine lv_aload_n hx hb dX4_takeOver_47 rfl (lv_at hl 0 rfl) ?_
      refine lv_aload_n hx hb dX4_takeOver_48 rfl (lv_at hl 0 rfl) ?_
      refine g_get C hM clo_4 7 (by decide) (by assumption) t_777 rfl (v := .int (mT _ 4 7 _)) rfl dX4_takeOver_49 ?_
      refine lv_aload_n hx hb dX4_takeOver_52 rfl (lv_at hl 1 rfl) ?_
      refine g_get C hM clo_4 7 (by decide) (by assumption) t_777 rfl (v := .int (mT _ 4 7 _)) rfl dX4_takeOver_53 ?_
      refine g_mmax C hl t_1192 rfl (Nat.le_of_ble_eq_true rfl) (by omega) (by omega) dX4_takeOver_56 ?_
      refine g_putI C hM hS clo_4 7 (by decide) rfl (by assumption) rfl rfl rfl rfl dX4_takeOver_59 (Or.inl t_777) (fun H locs hM hS => ?_)
      refine lv_aload_n hx hb dX4_takeOver_62 rfl (lv_at hl 0 rfl) ?_
      refine lv_aload_n hx hb dX4_takeOver_63 rfl (lv_at hl 0 rfl) ?_
      refine g_get C hM clo_4 8 (by decide) (by assumption) t_779 rfl (v := .int (mT _ 4 8 _)) rfl dX4_takeOver_64 ?_
      refine lv_if_ne (tgt := 77) hx hb dX4_takeOver_67 (by decide) (fun c_67 => ?_) (fun c_67 => ?_)
      · skip
        refine lv_iconst (v := 1) hx hb dX4_takeOver_77 (by decide) ?_
        refine lv_goto (tgt := 82) hx hb dX4_takeOver_78 (by decide) ?_
        refine g_putI C hM hS clo_4 8 (by decide) rfl (by assumption) rfl rfl rfl rfl dX4_takeOver_82 (Or.inl t_779) (fun H locs hM hS => ?_)
        refine lv_aload_n hx hb dX4_takeOver_85 rfl (lv_at hl 1 rfl) ?_
        refine g_get C hM clo_4 3 (by decide) (by assumption) t_769 rfl (v := _) (fv3 rfl) dX4_takeOver_86 ?_
        refine g_cV C hS (fun _ h => h) hM hl (fun _ h => h) (c_lclear hfl Γ _ _ 8 t rfl (wn8 wz htz) (wz.2.2.1 t htz).2.2.2.2.2.2.2.1) kJx4a65c_clear_da8c8 t_1193 (HM.recvL C hM rfl (wn8 wz htz)) dX4_takeOver_89 rfl rfl (Nat.le_of_ble_eq_true rfl) (by decide) rfl ⟨by omega, by omega⟩ xNo_goes (fun H locs hc_89 hM hS => ?_)
        refine lv_aload_n hx hb dX4_takeOver_92 rfl (lv_at hl 1 rfl) ?_
        refine lv_iconst (v := 0) hx hb dX4_takeOver_93 (by decide) ?_
        refine g_putI C hM hS clo_4 5 (by decide) rfl (by assumption) rfl rfl rfl rfl dX4_takeOver_94 (Or.inl t_773) (fun H locs hM hS => ?_)
        refine lv_aload_n hx hb dX4_takeOver_97 rfl (lv_at hl 1 rfl) ?_
        refine lv_bipush (v := 109) hx hb dX4_takeOver_98 (by decide) ?_
        refine g_putI C hM hS clo_4 6 (by decide) rfl (by assumption) rfl rfl rfl rfl dX4_takeOver_100 (Or.inl t_775) (fun H locs hM hS => ?_)
        refine lv_aload_n hx hb dX4_takeOver_103 rfl (lv_at hl 1 rfl) ?_
        refine lv_aload_n hx hb dX4_takeOver_104 rfl (lv_at hl 0 rfl) ?_
        refine g_putP C hM hS clo_4 13 (by decide) (some _) rfl rfl (by assumption) rfl rfl rfl rfl dX4_takeOver_105 (Or.inl t_789) (fun H locs hM hS => ?_)
        exact g_vret C hr hM hS dX4_takeOver_108 (by omega) (by omega) ⟨trivial, rfl, rfl, by rw [tovM, tov3, decide_eq_false (show ¬ mT (tov2 (tov1 (toN M i t (mL M 8 t).length) i t) i t) 4 8 i = 0 from c_67)]; rfl⟩
      · skip
        refine lv_aload_n hx hb dX4_takeOver_70 rfl (lv_at hl 1 rfl) ?_
        refine g_get C hM clo_4 8 (by decide) (by assumption) t_779 rfl (v := .int (mT _ 4 8 _)) rfl dX4_takeOver_71 ?_
        refine lv_if_eq (tgt := 81) hx hb dX4_takeOver_74 (by decide) (fun c_74 => ?_) (fun c_74 => ?_)
        · skip
          refine lv_iconst (v := 0) hx hb dX4_takeOver_81 (by decide) ?_
          refine g_putI C hM hS clo_4 8 (by decide) rfl (by assumption) rfl rfl rfl rfl dX4_takeOver_82 (Or.inl t_779) (fun H locs hM hS => ?_)
          refine lv_aload_n hx hb dX4_takeOver_85 rfl (lv_at hl 1 rfl) ?_
          refine g_get C hM clo_4 3 (by decide) (by assumption) t_769 rfl (v := _) (fv3 rfl) dX4_takeOver_86 ?_
          refine g_cV C hS (fun _ h => h) hM hl (fun _ h => h) (c_lclear hfl Γ _ _ 8 t rfl (wn8 wz htz) (wz.2.2.1 t htz).2.2.2.2.2.2.2.1) kJx4a65c_clear_da8c8 t_1193 (HM.recvL C hM rfl (wn8 wz htz)) dX4_takeOver_89 rfl rfl (Nat.le_of_ble_eq_true rfl) (by decide) rfl ⟨by omega, by omega⟩ xNo_goes (fun H locs hc_89 hM hS => ?_)
          refine lv_aload_n hx hb dX4_takeOver_92 rfl (lv_at hl 1 rfl) ?_
          refine lv_iconst (v := 0) hx hb dX4_takeOver_93 (by decide) ?_
          refine g_putI C hM hS clo_4 5 (by decide) rfl (by assumption) rfl rfl rfl rfl dX4_takeOver_94 (Or.inl t_773) (fun H locs hM hS => ?_)
          refine lv_aload_n hx hb dX4_takeOver_97 rfl (lv_at hl 1 rfl) ?_
          refine lv_bipush (v := 109) hx hb dX4_takeOver_98 (by decide) ?_
          refine g_putI C hM hS clo_4 6 (by decide) rfl (by assumption) rfl rfl rfl rfl dX4_takeOver_100 (Or.inl t_775) (fun H locs hM hS => ?_)
          refine lv_aload_n hx hb dX4_takeOver_103 rfl (lv_at hl 1 rfl) ?_
          refine lv_aload_n hx hb dX4_takeOver_104 rfl (lv_at hl 0 rfl) ?_
          refine g_putP C hM hS clo_4 13 (by decide) (some _) rfl rfl (by assumption) rfl rfl rfl rfl dX4_takeOver_105 (Or.inl t_789) (fun H locs hM hS => ?_)
          exact g_vret C hr hM hS dX4_takeOver_108 (by omega) (by omega) ⟨trivial, rfl, rfl, by rw [tovM, tov3, decide_eq_true (show mT (tov2 (tov1 (toN M i t (mL M 8 t).length) i t) i t) 4 8 i = 0 from c_67), decide_eq_true (show mT (tov2 (tov1 (toN M i t (mL M 8 t).length) i t) i t) 4 8 t = 0 from c_74)]; rfl⟩
        · skip
          refine lv_iconst (v := 1) hx hb dX4_takeOver_77 (by decide) ?_
          refine lv_goto (tgt := 82) hx hb dX4_takeOver_78 (by decide) ?_
          refine g_putI C hM hS clo_4 8 (by decide) rfl (by assumption) rfl rfl rfl rfl dX4_takeOver_82 (Or.inl t_779) (fun H locs hM hS => ?_)
          refine lv_aload_n hx hb dX4_takeOver_85 rfl (lv_at hl 1 rfl) ?_
          refine g_get C hM clo_4 3 (by decide) (by assumption) t_769 rfl (v := _) (fv3 rfl) dX4_takeOver_86 ?_
          refine g_cV C hS (fun _ h => h) hM hl (fun _ h => h) (c_lclear hfl Γ _ _ 8 t rfl (wn8 wz htz) (wz.2.2.1 t htz).2.2.2.2.2.2.2.1) kJx4a65c_clear_da8c8 t_1193 (HM.recvL C hM rfl (wn8 wz htz)) dX4_takeOver_89 rfl rfl (Nat.le_of_ble_eq_true rfl) (by decide) rfl ⟨by omega, by omega⟩ xNo_goes (fun H locs hc_89 hM hS => ?_)
          refine lv_aload_n hx hb dX4_takeOver_92 rfl (lv_at hl 1 rfl) ?_
          refine lv_iconst (v := 0) hx hb dX4_takeOver_93 (by decide) ?_
          refine g_putI C hM hS clo_4 5 (by decide) rfl (by assumption) rfl rfl rfl rfl dX4_takeOver_94 (Or.inl t_773) (fun H locs hM hS => ?_)
          refine lv_aload_n hx hb dX4_takeOver_97 rfl (lv_at hl 1 rfl) ?_
          refine lv_bipush (v := 109) hx hb dX4_takeOver_98 (by decide) ?_
          refine g_putI C hM hS clo_4 6 (by decide) rfl (by assumption) rfl rfl rfl rfl dX4_takeOver_100 (Or.inl t_775) (fun H locs hM hS => ?_)
          refine lv_aload_n hx hb dX4_takeOver_103 rfl (lv_at hl 1 rfl) ?_
          refine lv_aload_n hx hb dX4_takeOver_104 rfl (lv_at hl 0 rfl) ?_
          refine g_putP C hM hS clo_4 13 (by decide) (some _) rfl rfl (by assumption) rfl rfl rfl rfl dX4_takeOver_105 (Or.inl t_789) (fun H locs hM hS => ?_)
          exact g_vret C hr hM hS dX4_takeOver_108 (by omega) (by omega) ⟨trivial, rfl, rfl, by rw [tovM, tov3, decide_eq_true (show mT (tov2 (tov1 (toN M i t (mL M 8 t).length) i t) i t) 4 8 i = 0 from c_67), decide_eq_false (show ¬ mT (tov2 (tov1 (toN M i t (mL M 8 t).length) i t) i t) 4 8 t = 0 from c_74)]; rfl⟩
    · skip
      have h6 : n < (mL M 8 t).length := by rw [e8] at c_10; exact (nI_ltI (by omega) (by omega)).mp c_10
      have hpl : n < (mL (toN M i t n) 8 t).length := by rw [e8]; exact h6
      refine lv_aload_n hx hb dX4_takeOver_13 rfl (lv_at hl 0 rfl) ?_
      refine lv_aload_n hx hb dX4_takeOver_14 rfl (lv_at hl 1 rfl) ?_
      refine g_get C hM clo_4 3 (by decide) (by assumption) t_769 rfl (v := _) (fv3 rfl) dX4_takeOver_15 ?_
      refine lv_iload_n hx hb dX4_takeOver_18 rfl (lv_at hl 2 rfl) ?_
      refine g_cV C hS (fun _ h => h) hM hl (fun _ h => h.elim) (c_lget hfl Γ _ _ 8 _ n rfl (wn8 wz htz) hpl) kJx4a65c_get_915e3 t_201 (HM.recvL C hM rfl (wn8 wz htz)) dX4_takeOver_19 rfl rfl (Nat.le_of_ble_eq_true rfl) (by decide) rfl ⟨by omega, by omega⟩ xNo_goes (fun H locs hc_19 hM hS => ?_)
      rw [e8]
      refine g_chk C hM clo_2 (show _ < mN (toN M i t n) 2 by rw [mN_to]; exact cmem w ht4 h6) t_202 dX4_takeOver_22 ?_
      refine g_cV C hS (fun _ h => h) hM hl (fun _ h => h) (c_insertMail hfl Γ _ _ i ((mL M 8 t).getD n 0) wz hiz (by rw [mN_to]; exact cmem w ht4 h6) (by rw [to_len]; omega)) kX4_insertMail t_1191 (HM.recv C hM clo_4 hiz) dX4_takeOver_25 rfl rfl (Nat.le_of_ble_eq_true rfl) (by decide) rfl ⟨by omega, by omega⟩ xNo_goes (fun H locs hc_25 hM hS => ?_)
      refine lv_iinc (k := 2) (v := nI (n + 1)) (lv' := [(2, _), (0, _), (1, _)]) hx hb dX4_takeOver_28 hl rfl (nI_1 n) (by decide) rfl (fun ls hl => ?_)
      refine lv_goto (tgt := 2) hx hb dX4_takeOver_31 (by decide) ?_
      exact W.widen (by omega) (by omega) (ih (n + 1) (by omega) (wf_to w hi ht4 hlen (n + 1) h6) h6 _ _ _ hM hS (lv_sub hl [1, 2, 0] rfl))

