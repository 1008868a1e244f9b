/-! counting the mails -/
def cnM (M : Mem) (t : Nat) : Nat → Nat
  | 0 => 0
  | n + 1 => cnM M t n + if tkM M n = t then 1 else 0
theorem co_cn {M : Mem} {t : Nat} : ∀ n, coN M t n = nI (cnM M t n)
  | 0 => rfl
  | n + 1 => by
    unfold coN cnM
    rw [co_cn n, ← nI_add]
    by_cases h : tkM M n = t
    · rw [if_pos h, if_pos h]; rfl
    · rw [if_neg h, if_neg h]; rfl
theorem cn_le {M : Mem} {t : Nat} : ∀ n, cnM M t n ≤ n
  | 0 => Nat.le_refl _
  | n + 1 => by
    have := cn_le (M := M) (t := t) n
    unfold cnM
    split <;> omega
theorem cn_two {M : Mem} {i j : Nat} (h : i ≠ j) : ∀ n, cnM M i n + cnM M j n ≤ n
  | 0 => Nat.le_refl _
  | n + 1 => by
    have := cn_two (M := M) h n
    unfold cnM
    by_cases a : tkM M n = i
    · rw [if_pos a, if_neg (fun b => h (a.symm.trans b))]; omega
    · rw [if_neg a]
      split <;> omega
def smF (f : Nat → Nat) : Nat → Nat
  | 0 => 0
  | n + 1 => smF f n + f n
theorem smF_add {f g : Nat → Nat} : ∀ n, smF (fun i => f i + g i) n = smF f n + smF g n
  | 0 => rfl
  | n + 1 => by unfold smF; rw [smF_add n]; omega
theorem smF_one {a : Nat} : ∀ n, smF (fun i => if a = i then 1 else 0) n = if a < n then 1 else 0
  | 0 => rfl
  | n + 1 => by
    unfold smF
    rw [smF_one n]
    by_cases h : a = n
    · rw [if_pos h, if_neg (by omega), if_pos (by omega)]
    · rw [if_neg h]
      by_cases g : a < n
      · rw [if_pos g, if_pos (by omega)]
      · rw [if_neg g, if_neg (by omega)]
theorem smF_zero : ∀ n, smF (fun _ => 0) n = 0
  | 0 => rfl
  | n + 1 => by unfold smF; rw [smF_zero n]
theorem sum_cn {M : Mem} {N : Nat} : ∀ n, (∀ k, k < n → tkM M k < N) → smF (fun i => cnM M i n) N = n
  | 0, _ => smF_zero N
  | n + 1, h => by
    show smF (fun i => cnM M i n + if tkM M n = i then 1 else 0) N = n + 1
    rw [smF_add, sum_cn n (fun k hk => h k (by omega)), smF_one, if_pos (h n (by omega))]
theorem smF_cong {f g : Nat → Nat} : ∀ n, (∀ i, i < n → f i = g i) → smF f n = smF g n
  | 0, _ => rfl
  | n + 1, h => by unfold smF; rw [smF_cong n (fun i hi => h i (by omega)), h n (by omega)]
theorem ml_len {t i : Nat} {M : Mem} (I : INV t M) (hi : i < mN M 4) : (mL M 8 i).length = cnM M i (mN M 2) := by
  have h := (I.ml i hi).2.2
  rw [co_cn] at h
  have h1 := cn_le (M := M) (t := i) (mN M 2)
  have h2 := wn2 I.wf
  have h3 := (I.wf.2.2.1 i hi).2.2.2.2.2.2.2.2
  exact (nI_inj (by omega) (by omega) h).symm
theorem len_le {t i : Nat} {M : Mem} (I : INV t M) (hi : i < mN M 4) : (mL M 8 i).length ≤ mN M 2 := by rw [ml_len I hi]; exact cn_le _
theorem len_two {t i j : Nat} {M : Mem} (I : INV t M) (hi : i < mN M 4) (hj : j < mN M 4) (h : i ≠ j) : (mL M 8 i).length + (mL M 8 j).length ≤ 80 := by
  rw [ml_len I hi, ml_len I hj]
  exact Nat.le_trans (cn_two h _) (wn2 I.wf)
theorem em_sum {t : Nat} {M : Mem} (I : INV t M) : ∀ n, n ≤ mN M 4 → emN M n = nI (smF (fun i => (mL M 8 i).length) n)
  | 0, _ => rfl
  | n + 1, h => by
    unfold emN smF
    rw [em_sum I n (by omega), ← nI_add]
    by_cases c : mT M 4 6 n = 109
    · rw [if_pos c, (I.cel.1 n).2.2.1 c]
      show _ = _ + nI 0
      rw [nI_add]
      rfl
    · rw [if_neg c]
theorem em_all {t : Nat} {M : Mem} (I : INV t M) : emN M (mN M 4) = nI (mN M 2) := by
  rw [em_sum I _ (Nat.le_refl _), smF_cong _ (fun i hi => ml_len I hi), sum_cn]
  exact fun k hk => (tkM_eq I.wf hk).2
theorem own_ok {t i : Nat} {M : Mem} (I : INV t M) (hi : i < mN M 4) : OwnOk M i := by
  have hw := (I.wf.2.2.1 i hi).2.2.2.2.2.2.2.1
  have h2 := wn2 I.wf
  refine ⟨fun n hn => ?_, fun n hn => ?_⟩
  · have a := hw _ (getD_mem (l := mL M 8 i) (j := n) (by omega))
    have b := hw _ (getD_mem (l := mL M 8 i) (j := n + 1) hn)
    rw [I.num.2.1 _ a, I.num.2.1 _ b]
    exact nI_lt ((I.ml i hi).1 n (n + 1) (by omega) hn) (by omega)
  · have a := hw _ (getD_mem (l := mL M 8 i) (j := n) hn)
    exact ((I.ml i hi).2.1 _ a).mpr (getD_mem hn)
/-- isSound -/
theorem pu_41 {t : Nat} {M : Mem} (I : INV t M) (ht : t < 512)  : (∀ i, i < mN M 4 → ¬ mT M 4 6 i = 109 → OwnOk M i) ∧ (emN M (mN M 4) = nI (mN M 2)) ∧ (∀ a, a < mN M 0 → nqN M a 6 = ntN M a (mN M 4)) ∧ INV (t + 1) (sT M 7 19 0 0) := by
  exact ⟨fun i hi _ => own_ok I hi, em_all I, fun a _ => nq_nt I.wf I.num I.qi, inv_sm I Sm.thr⟩
