theorem anew_T {A : Mem} {t k a u : Nat} (h : ¬ (k = 4 ∧ 6 ≤ a ∧ a ≤ 8 ∧ u = t)) (h14 : k ≠ 14) : mT (anewM A t) k a u = mT A k a u := by
  have re : ∀ B : Mem, mT (reopM B t) k a u = mT B k a u := fun B => by
    unfold reopM
    rw [mT_sT, if_neg (fun z => h ⟨z.1, by omega, by omega, z.2.2⟩), mT_sT, if_neg (fun z => h ⟨z.1, by omega, by omega, z.2.2⟩), mT_sT, if_neg (fun z => h ⟨z.1, by omega, by omega, z.2.2⟩), mT_sP]
  unfold anewM
  cases mP A 4 11 t with
  | none => exact re A
  | some q => exact (re _).trans (sT_ne (fun z => h14 z.1))
theorem anew_P {A : Mem} {t k a u : Nat} (h : ¬ (k = 4 ∧ a = 11)) : mP (anewM A t) k a u = mP A k a u := by
  unfold anewM
  cases mP A 4 11 t with
  | none => exact u3_ne (fun z => h ⟨z.1, z.2.1⟩)
  | some q => exact u3_ne (fun z => h ⟨z.1, z.2.1⟩)
theorem anew_L {A : Mem} {t : Nat} : mL (anewM A t) = mL A := by
  unfold anewM
  cases mP A 4 11 t with
  | none => rfl
  | some q => rfl
theorem anew_J {A : Mem} {t : Nat} : mJ (anewM A t) = mJ A := by
  unfold anewM
  cases mP A 4 11 t with
  | none => rfl
  | some q => rfl
theorem ad_T {L : Mem} {t k a u : Nat} {v : Int32} (h : ¬ (k = 4 ∧ 5 ≤ a ∧ a ≤ 8 ∧ u = t)) (h14 : k ≠ 14) (h2 : k ≠ 2) : mT (adM L t v) k a u = mT L k a u := by
  have e : mT (ad5 L t v) k a u = mT L k a u := by rw [a5_T, if_neg (fun z => h ⟨z.1, by omega, by omega, z.2.2⟩), if_neg (fun z => h2 z.1)]
  unfold adM
  split
  · rw [anew_T (fun z => h ⟨z.1, by omega, z.2.2.1, z.2.2.2⟩) h14]; exact e
  · exact e
theorem ad_P {L : Mem} {t k a u : Nat} {v : Int32} (h : ¬ (k = 4 ∧ a = 11)) (h2 : k ≠ 2) : mP (adM L t v) k a u = mP L k a u := by
  have e : mP (ad5 L t v) k a u = mP L k a u := by rw [a5_P, if_neg (fun z => h2 z.1)]
  unfold adM
  split
  · rw [anew_P h]; exact e
  · exact e
theorem ad_9 {L : Mem} {t q : Nat} {v : Int32} : mL (adM L t v) 9 q = mL L 9 q := by
  unfold adM
  split
  · rw [anew_L]; exact a5_9
  · exact a5_9
theorem ad_J {L : Mem} {t : Nat} {v : Int32} : mJ (adM L t v) = mJ L := by
  unfold adM
  split
  · rw [anew_J]; rfl
  · rfl
/-- the desk once the mail has come: well formed, its lines in order -/
theorem ad_ok {t0 t p : Nat} {L : Mem} {v : Int32} (q : QX L t) (d : Dk t0 L) (w : Wf L) (ht : t < mN L 4) (h80 : mN L 2 < 80) (hlen : (mL L 8 t).length < 80) (live : mT L 4 6 t ≠ 109) (hp : p < 1024) (hv : v = nI p) :
    Wf (sT (jqM (adM L t v) t) 23 (mN L 2) 0 v) ∧ QI (sT (jqM (adM L t v) t) 23 (mN L 2) 0 v) ∧ Dk t0 (sT (jqM (adM L t v) t) 23 (mN L 2) 0 v) := by
  have dW := dk_adW d w ht h80 live hp hv
  have wA : Wf (adM L t v) := wf_ad w ht h80 hlen
  have n4 : mN (adM L t v) 4 = mN L 4 := by rw [mN_ad, if_neg (by decide)]
  have e : ∀ k j i, k ≠ 23 → mT (adM L t v) k j i = mT (adW L t v) k j i := fun k j i h => by
    rw [← adW_ln.2.2.1, mT_sT, if_neg (fun z => h z.1), mT_jq]
  have eN : mN (adM L t v) = mN (adW L t v) := by
    rw [← adW_ln.1, mN_sT, mN_jq]
  have num : NumOk (adM L t v) := num_cg (A := adW L t v) eN (fun i => e 0 0 i (by decide)) (fun i => e 2 0 i (by decide)) (fun i => e 4 0 i (by decide)) dW.1
  have qA : QX (adM L t v) t := QX_sm q (SmX_of n4 (fun p _ => ad_9) (fun a x hx ha => ad_T (fun z => hx z.2.2.2) (by decide) (by decide)) (fun x hx => ad_P (fun z => absurd z.2 (by decide)) (by decide)) (fun x hx => ad_P (fun z => absurd z.2 (by decide)) (by decide)) (fun c => ad_T (fun z => absurd z.1 (by decide)) (by decide) (by decide)) (fun c => ad_T (fun z => absurd z.1 (by decide)) (by decide) (by decide)))
  have ht' : t < mN (adM L t v) 4 := by rw [n4]; exact ht
  have wX : Wf (jqM (adM L t v) t) := wf_jq wA ht' (fun _ z => (((qA _ (wA.2.2.1 t ht').2.2.2.1).1 _).mp z).2.2.2 rfl)
  refine ⟨wf_sT (fun z => absurd z.1 (by decide)) (fun z => absurd z.1 (by decide)) wX, ?_, dk_LnEq adW_ln dW⟩
  exact qi_cg (A := jqM (adM L t v) t) rfl (fun _ => rfl) (fun _ => rfl) (fun j i => sT_ne (fun z => absurd z.1 (by decide))) (fun i => sT_ne (fun z => absurd z.1 (by decide))) (fun j => sT_ne (fun z => absurd z.1 (by decide))) (fun _ => rfl) (QI_jq wA num qA ht')
/-! the reference's side -/
theorem RC_put {L N : Mem} {t : Nat} {v : Int32} (r : RC L N) : RC (ad5 L t v) (putR L N (nI t) v) := by
  obtain ⟨r1, ⟨b1, b2, b3⟩, r3, r4, r5, r6, r7, r8, r9, r10, r11⟩ := r
  have e21 : mT N 7 21 0 + 1 = nI (mN L 2 + 1) := by rw [b2]; exact nI_add _ 1
  refine ⟨r1, ⟨b1, e21, b3⟩, r3, r4, fun k hk => ?_, fun u hu => ?_, r7, r8, r9, r10, r11⟩
  · have hk : k < mN L 2 + 1 := hk
    show mT (sT (sT N 22 (mN L 2) 0 (nI t)) 23 (mN L 2) 0 v) 22 k 0 = _
    rw [tk_a5, mT_sT, if_neg (fun z => absurd z.1 (by decide)), mT_sT]
    by_cases e : k = mN L 2
    · rw [if_pos ⟨rfl, e, rfl⟩, if_pos e]
    · rw [if_neg (fun z => e z.2.1), if_neg e]; exact r5 k (by omega)
  · exact r6 u hu
def opC (D N : Mem) (t : Nat) : Mem := sT (sT (sT (lrnR D N t (-1)) 33 t 0 111) 27 t 0 0) 34 t 0 0
theorem lrn_cg {A B N : Mem} {t : Nat} {x : Int32} (hp : mP A 4 11 t = mP B 4 11 t) (h4 : mT A 4 4 t = mT B 4 4 t) (h14 : ∀ a q, mT A 14 a q = mT B 14 a q) : lrnR A N t x = lrnR B N t x := by
  have e : toM A t = toM B t := by unfold toM; rw [h4]
  unfold lrnR
  rw [hp]
  cases mP B 4 11 t with
  | none => rfl
  | some q => simp only [e, h14]
theorem mT_lrn2 {D N : Mem} {t : Nat} {x : Int32} (k j i : Nat) : ∃ f : Int32 → Int32, (∀ N', mT (lrnR D N' t x) k j i = f (mT N' k j i)) ∧ (k ≠ 38 → k ≠ 32 → f = id) := by
  unfold lrnR
  cases mP D 4 11 t with
  | none => exact ⟨id, fun _ => rfl, fun _ _ => rfl⟩
  | some q =>
    by_cases c : inB (mT D 14 (toM D t) q + x) 0 9 = true
    · simp only [if_pos c]
      by_cases a : k = 32 ∧ j = t ∧ i = 0
      · exact ⟨fun _ => -1, fun N' => by rw [mT_sT, if_pos a], fun _ h => absurd a.1 h⟩
      · by_cases b : k = 38 ∧ j = 6 * q + toM D t ∧ i = 0
        · exact ⟨fun _ => mT D 14 (toM D t) q + x, fun N' => by rw [mT_sT, if_neg a, mT_sT, if_pos b], fun h _ => absurd b.1 h⟩
        · exact ⟨id, fun N' => by rw [mT_sT, if_neg a, mT_sT, if_neg b]; rfl, fun _ _ => rfl⟩
    · simp only [if_neg c]
      by_cases a : k = 32 ∧ j = t ∧ i = 0
      · exact ⟨fun _ => -1, fun N' => by rw [mT_sT, if_pos a], fun _ h => absurd a.1 h⟩
      · exact ⟨id, fun N' => by rw [mT_sT, if_neg a]; rfl, fun _ _ => rfl⟩
theorem opC_T {D : Mem} {t : Nat} (k j i : Nat) : ∃ f : Int32 → Int32, (∀ N', mT (opC D N' t) k j i = f (mT N' k j i)) ∧ (k = 7 ∨ k = 22 ∨ k = 23 → f = id) := by
  obtain ⟨f, f1, f2⟩ := mT_lrn2 (D := D) (N := D) (t := t) (x := -1) k j i
  unfold opC
  by_cases a : k = 34 ∧ j = t ∧ i = 0
  · exact ⟨fun _ => 0, fun N' => by rw [mT_sT, if_pos a], fun h => by omega⟩
  · by_cases b : k = 27 ∧ j = t ∧ i = 0
    · exact ⟨fun _ => 0, fun N' => by rw [mT_sT, if_neg a, mT_sT, if_pos b], fun h => by omega⟩
    · by_cases c : k = 33 ∧ j = t ∧ i = 0
      · exact ⟨fun _ => 111, fun N' => by rw [mT_sT, if_neg a, mT_sT, if_neg b, mT_sT, if_pos c], fun h => by omega⟩
      · exact ⟨f, fun N' => by rw [mT_sT, if_neg a, mT_sT, if_neg b, mT_sT, if_neg c]; exact f1 N', fun h => f2 (by omega) (by omega)⟩
theorem put_T {D N : Mem} {a v : Int32} (k j i : Nat) : mT (putR D N a v) k j i = if k = 7 ∧ j = 21 ∧ i = 0 then mT N 7 21 0 + 1 else if k = 23 ∧ j = mN D 2 ∧ i = 0 then v else if k = 22 ∧ j = mN D 2 ∧ i = 0 then a else mT N k j i := by
  unfold putR
  rw [mT_sT, mT_sT, mT_sT]
/-- the reference notes the mail after it has opened the ticket: it might as well do it before -/
theorem put_op {D N : Mem} {t : Nat} {a v : Int32} (k j i : Nat) : mT (putR D (opC D N t) a v) k j i = mT (opC D (putR D N a v) t) k j i := by
  obtain ⟨f, f1, f2⟩ := opC_T (D := D) (t := t) k j i
  rw [f1, put_T, put_T, f1]
  by_cases h : k = 7 ∨ k = 22 ∨ k = 23
  · have e := f2 h
    have e7 : mT (opC D N t) 7 21 0 = mT N 7 21 0 := by
      obtain ⟨g, g1, g2⟩ := opC_T (D := D) (t := t) 7 21 0
      rw [g1, g2 (Or.inl rfl)]; rfl
    rw [e, e7]
    rfl
  · rw [if_neg (fun z => h (Or.inl z.1)), if_neg (fun z => h (Or.inr (Or.inr z.1))), if_neg (fun z => h (Or.inr (Or.inl z.1))), if_neg (fun z => h (Or.inl z.1)), if_neg (fun z => h (Or.inr (Or.inr z.1))), if_neg (fun z => h (Or.inr (Or.inl z.1)))]
theorem RC_ad {L N : Mem} {t : Nat} {v : Int32} (r : RC L N) (w : WfT L t) (ht : t < mN L 4) (hs : mT L 4 6 t = 111 ∨ mT L 4 6 t = 104 ∨ mT L 4 6 t = 97 ∨ mT L 4 6 t = 99) (c : ∀ q, mP L 4 11 t = some q → ∃ z, z ≤ 9 ∧ mT L 14 (toM L t) q = nI z) : RC (adM L t v) (putR L (opR L N t) (nI t) v) := by
  unfold adM opR
  rw [a5_st]
  by_cases o : ohM L t = true
  · have o2 : ¬ (mT L 4 6 t = 97 ∨ mT L 4 6 t = 99) := fun z => by
      unfold ohM stM at o
      rcases z with z | z <;> rw [z] at o <;> exact absurd o (by decide)
    rw [if_pos o, if_neg o2]
    exact RC_put r
  · have o2 : mT L 4 6 t = 97 ∨ mT L 4 6 t = 99 := by
      rcases hs with z | z | z | z
      · exact absurd (by unfold ohM stM; rw [z]; decide) o
      · exact absurd (by unfold ohM stM; rw [z]; decide) o
      · exact Or.inl z
      · exact Or.inr z
    rw [if_neg o, if_pos o2]
    have p11 : mP (ad5 L t v) 4 11 t = mP L 4 11 t := by rw [a5_P, if_neg (fun z => absurd z.1 (by decide))]
    have t4 : mT (ad5 L t v) 4 4 t = mT L 4 4 t := by rw [a5_T, if_neg (fun z => absurd z.2.1 (by decide)), if_neg (fun z => absurd z.1 (by decide))]
    have t14 : ∀ a q, mT (ad5 L t v) 14 a q = mT L 14 a q := fun a q => by rw [a5_T, if_neg (fun z => absurd z.1 (by decide)), if_neg (fun z => absurd z.1 (by decide))]
    have eto : toM (ad5 L t v) t = toM L t := by unfold toM; rw [t4]
    obtain ⟨w1, w2, w3, w4, w5, w6, w7⟩ := w
    have q := RC_anew' (i := t) (RC_put (t := t) (v := v) r) (fun q h => ⟨w6 q (by rw [← p11]; exact h), by rw [eto]; exact w4⟩) ht (fun q h => by rw [p11] at h; rw [eto, t14]; exact c q h)
    rw [lrn_cg p11 t4 t14] at q
    exact rc_mo ⟨fun k hk => by show mN (putR L (opC L N t) (nI t) v) k = mN (opC L (putR L N (nI t) v) t) k; show mN (lrnR L N t (-1)) k = mN (lrnR L (putR L N (nI t) v) t (-1)) k; rw [mN_lrn, mN_lrn]; rfl, fun j i _ => put_op 7 j i, fun k j i _ _ => put_op k j i, fun j i => by show mJ (lrnR L N t (-1)) 7 j i = mJ (lrnR L (putR L N (nI t) v) t (-1)) 7 j i; rw [mJ_lrn, mJ_lrn]; rfl⟩ q
