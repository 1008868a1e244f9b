/-! the two quotients are numbers -/
def FG (f : FP.Core.Fmt) : Prop := 2 ^ f.p = 2 * f.tails ∧ 0 < f.tails ∧ 4 ≤ f.exps ∧ f.qmax - f.qmin + 3 = (f.exps : Int) ∧ 100 ≤ f.qmax ∧ f.qmin < 0 ∧ 1 ≤ f.p
theorem fg_32 : FG FP.Core.b32 := by unfold FG; decide
theorem fg_64 : FG FP.Core.b64 := by unfold FG; decide
def Bd (f : FP.Core.Fmt) : FP.Core.Datum → Prop
  | .nan => False
  | .inf _ => True
  | .fin _ c q => c < 2 ^ f.p ∧ q ≤ f.qmax
theorem bd_bound {f : FP.Core.Fmt} {s : Bool} {c : Nat} {q : Int} (h : c < 2 ^ f.p) : Bd f (FP.Core.bound f s c q) := by
  unfold FP.Core.bound
  split
  · exact ⟨h, by assumption⟩
  · trivial
theorem bd_settle {f : FP.Core.Fmt} (g : FG f) {s : Bool} {c : Nat} {q : Int} : Bd f (FP.Core.settle f s c q) := by
  unfold FP.Core.settle
  split
  · exact bd_bound (by assumption)
  · exact bd_bound (by rw [g.1]; have := g.2.1; omega)
theorem bd_rr {f : FP.Core.Fmt} (g : FG f) {s : Bool} {n d : Nat} {e : Int} : Bd f (FP.Core.roundRatio f s n d e) := by
  unfold FP.Core.roundRatio
  split
  · exact ⟨by rw [g.1]; have := g.2.1; omega, by have := g.2.2.2.2.1; have := g.2.2.2.2.2.1; omega⟩
  · exact bd_settle g
theorem asm_f {f : FP.Core.Fmt} {s : Bool} {e t : Nat} (ht : t < f.tails) (he : e < f.exps) : FP.Core.fieldE f (FP.Core.assemble f s e t) = e ∧ FP.Core.fieldT f (FP.Core.assemble f s e t) = t ∧ FP.Core.assemble f s e t < 2 * f.exps * f.tails ∧ FP.Core.assemble f s e t % (f.exps * f.tails) = e * f.tails + t := by
  have h0 : 0 < f.tails := by omega
  have hs : s.toNat ≤ 1 := by cases s <;> decide
  have hd : FP.Core.assemble f s e t / f.tails = s.toNat * f.exps + e := by
    unfold FP.Core.assemble
    rw [Nat.add_comm, Nat.add_mul_div_right _ _ h0, Nat.div_eq_of_lt ht, Nat.zero_add]
  have hx : s.toNat * f.exps ≤ f.exps := by
    have := Nat.mul_le_mul_right f.exps hs
    omega
  have hy : (e + 1) * f.tails ≤ f.exps * f.tails := Nat.mul_le_mul_right _ he
  have hz : (e + 1) * f.tails = e * f.tails + f.tails := Nat.succ_mul _ _
  refine ⟨?_, ?_, ?_, ?_⟩
  · unfold FP.Core.fieldE
    rw [hd, Nat.mul_comm, Nat.mul_add_mod, Nat.mod_eq_of_lt he]
  · unfold FP.Core.fieldT FP.Core.assemble
    rw [Nat.mul_comm, Nat.mul_add_mod, Nat.mod_eq_of_lt ht]
  · have h1 : (s.toNat * f.exps + e + 1) * f.tails ≤ 2 * f.exps * f.tails := Nat.mul_le_mul_right _ (by omega)
    have h2 : (s.toNat * f.exps + e + 1) * f.tails = (s.toNat * f.exps + e) * f.tails + f.tails := Nat.succ_mul _ _
    unfold FP.Core.assemble
    omega
  · unfold FP.Core.assemble
    rw [Nat.add_mul, Nat.mul_assoc, Nat.add_assoc, Nat.mul_comm s.toNat, Nat.mul_add_mod, Nat.mod_eq_of_lt (by omega)]
/-- what the encoding of such a datum says -/
theorem enc_bd {f : FP.Core.Fmt} (g : FG f) : ∀ {D : FP.Core.Datum}, Bd f D → FP.Core.encode f D < 2 * f.exps * f.tails ∧ FP.Core.encode f D % (f.exps * f.tails) ≤ (f.exps - 1) * f.tails ∧ ((∃ s, D = .inf s) ∧ (∃ s, FP.Core.decode f (FP.Core.encode f D) = .inf s) ∨ ∃ s c q s' c' q', D = .fin s c q ∧ FP.Core.decode f (FP.Core.encode f D) = .fin s' c' q' ∧ (c ≠ 0 → c' ≠ 0))
  | .inf s, _ => by
    obtain ⟨h1, h2, h3, h4⟩ := asm_f (f := f) (s := s) (e := f.exps - 1) (t := 0) g.2.1 (by have := g.2.2.1; omega)
    refine ⟨h3, by show FP.Core.assemble f s (f.exps - 1) 0 % _ ≤ _; rw [h4]; exact Nat.le_refl _, Or.inl ⟨⟨s, rfl⟩, FP.Core.fieldS f (FP.Core.assemble f s (f.exps - 1) 0), ?_⟩⟩
    show FP.Core.decode f (FP.Core.assemble f s (f.exps - 1) 0) = _
    unfold FP.Core.decode
    rw [if_pos h1, if_pos h2]
  | .fin s c q, hb => by
    obtain ⟨hc, hq⟩ := hb
    have g4 := g.2.2.2.1
    have g3 := g.2.2.1
    have g1 := g.1
    by_cases k : c < f.tails
    · obtain ⟨h1, h2, h3, h4⟩ := asm_f (f := f) (s := s) (e := 0) (t := c) k (by omega)
      have e : FP.Core.encode f (.fin s c q) = FP.Core.assemble f s 0 c := if_pos k
      rw [e]
      refine ⟨h3, ?_, Or.inr ⟨s, c, q, FP.Core.fieldS f (FP.Core.assemble f s 0 c), c, f.qmin, rfl, ?_, id⟩⟩
      · rw [h4]
        have : 1 * f.tails ≤ (f.exps - 1) * f.tails := Nat.mul_le_mul_right _ (by omega)
        omega
      · unfold FP.Core.decode
        rw [if_neg (by rw [h1]; omega), if_pos h1, h2]
    · have he : (q - f.qmin).toNat + 1 ≤ f.exps - 2 := by omega
      obtain ⟨h1, h2, h3, h4⟩ := asm_f (f := f) (s := s) (e := (q - f.qmin).toNat + 1) (t := c - f.tails) (by omega) (by omega)
      have e : FP.Core.encode f (.fin s c q) = FP.Core.assemble f s ((q - f.qmin).toNat + 1) (c - f.tails) := if_neg k
      rw [e]
      refine ⟨h3, ?_, Or.inr ⟨s, c, q, FP.Core.fieldS f (FP.Core.assemble f s ((q - f.qmin).toNat + 1) (c - f.tails)), f.tails + (c - f.tails), f.qmin + ((((q - f.qmin).toNat + 1 : Nat) : Int) - 1), rfl, ?_, fun _ => by have := g.2.1; omega⟩⟩
      · rw [h4]
        have : ((q - f.qmin).toNat + 1 + 1) * f.tails ≤ (f.exps - 1) * f.tails := Nat.mul_le_mul_right _ (by omega)
        rw [Nat.succ_mul] at this
        omega
      · unfold FP.Core.decode
        rw [if_neg (by rw [h1]; omega), if_neg (by rw [h1]; omega), h2, h1]
theorem near_pos {A B : Nat} (hB : 0 < B) (h : B ≤ A) : FP.Core.nearest A B ≠ 0 := by
  have := Nat.div_pos h hB
  unfold FP.Core.nearest
  split
  · omega
  · split <;> omega
theorem lead_le {n : Nat} : FP.Core.leading n 1 ≤ (n.log2 : Int) := by
  unfold FP.Core.leading
  rw [show Nat.log2 1 = 0 from by decide]
  dsimp only
  split <;> omega
/-- a whole number in the format -/
theorem int_bd {f : FP.Core.Fmt} (g : FG f) {i : Int} (hi : i.natAbs < 2 ^ 64) : FP.Core.fromInt f i < 2 * f.exps * f.tails ∧ ∃ s c q, FP.Core.decode f (FP.Core.fromInt f i) = .fin s c q ∧ (i ≠ 0 → c ≠ 0) := by
  have hfin : ∃ s c q, FP.Core.round f (FP.Core.ofInt i) = .fin s c q ∧ (i ≠ 0 → c ≠ 0) := by
    show ∃ s c q, FP.Core.roundRatio f (decide (i < 0)) i.natAbs 1 0 = .fin s c q ∧ (i ≠ 0 → c ≠ 0)
    unfold FP.Core.roundRatio
    split
    · exact ⟨_, _, _, rfl, fun h => absurd (by omega) h⟩
    · rename_i hn
      have hlog : i.natAbs.log2 < 64 := (Nat.log2_lt hn).mpr hi
      have hself := Nat.log2_self_le hn
      have hlead := lead_le (n := i.natAbs)
      have hq : FP.Core.quantum f i.natAbs 1 0 ≤ 64 := by
        unfold FP.Core.quantum
        have := g.2.2.2.2.2.2
        have := g.2.2.2.2.2.1
        omega
      have hq2 : 0 < FP.Core.quantum f i.natAbs 1 0 → (FP.Core.quantum f i.natAbs 1 0).toNat ≤ i.natAbs.log2 := by
        unfold FP.Core.quantum
        have := g.2.2.2.2.2.2
        have := g.2.2.2.2.2.1
        omega
      unfold FP.Core.roundAt
      generalize FP.Core.quantum f i.natAbs 1 0 = q at *
      have hle : FP.Core.unitsDen 1 0 q ≤ FP.Core.unitsNum i.natAbs 0 q := by
        unfold FP.Core.unitsDen FP.Core.unitsNum
        by_cases c : 0 < q
        · have h2 := hq2 c
          have h3 : 2 ^ q.toNat ≤ 2 ^ i.natAbs.log2 := Nat.pow_le_pow_right (by decide) h2
          rw [show (0 - q).toNat = 0 by omega, show (q - 0).toNat = q.toNat by omega]
          omega
        · rw [show (q - 0).toNat = 0 by omega]
          have := Nat.mul_le_mul (show 1 ≤ i.natAbs by omega) (Nat.one_le_two_pow (n := (0 - q).toNat))
          omega
      have hne := near_pos (by unfold FP.Core.unitsDen; exact Nat.mul_pos (by decide) (Nat.two_pow_pos _)) hle
      have g5 := g.2.2.2.2.1
      unfold FP.Core.settle
      split
      · unfold FP.Core.bound
        rw [if_pos (by omega)]
        exact ⟨_, _, _, rfl, fun _ => hne⟩
      · unfold FP.Core.bound
        rw [if_pos (by omega)]
        exact ⟨_, _, _, rfl, fun _ => by have := g.2.1; omega⟩
  obtain ⟨s, c, q, h1, h2⟩ := hfin
  have hb : Bd f (FP.Core.round f (FP.Core.ofInt i)) := bd_rr g
  obtain ⟨e1, e2, e3⟩ := enc_bd g hb
  refine ⟨e1, ?_⟩
  rcases e3 with ⟨⟨s', h⟩, _⟩ | ⟨s', c', q', s2, c2, q2, h3, h4, h5⟩
  · rw [h1] at h; cases h
  · rw [h1] at h3
    cases h3
    exact ⟨s2, c2, q2, h4, fun z => h5 (h2 z)⟩
theorem quo_bd {f : FP.Core.Fmt} (g : FG f) {x y : Nat} {s t : Bool} {c d : Nat} {q r : Int} (hx : FP.Core.decode f x = .fin s c q) (hy : FP.Core.decode f y = .fin t d r) (hd : d ≠ 0) : Bd f (FP.Core.quotient f (FP.Core.decode f x) (FP.Core.decode f y)) := by
  rw [hx, hy]
  show Bd f (if d = 0 then (if c = 0 then .nan else .inf (s != t)) else FP.Core.roundRatio f (s != t) c d (q - r))
  rw [if_neg hd]
  exact bd_rr g
theorem n32_of {n : Nat} (h : n < 2 * FP.Core.b32.exps * FP.Core.b32.tails) (h2 : n % (FP.Core.b32.exps * FP.Core.b32.tails) ≤ (FP.Core.b32.exps - 1) * FP.Core.b32.tails) : vf_n32 (UInt32.ofNat n) := by
  have e1 : 2 * FP.Core.b32.exps * FP.Core.b32.tails = 2 ^ 32 := by decide
  have e2 : FP.Core.b32.exps * FP.Core.b32.tails = 2 ^ 31 := by decide
  have e3 : (FP.Core.b32.exps - 1) * FP.Core.b32.tails = 2139095040 := by decide
  rw [e1] at h
  rw [e2, e3] at h2
  unfold vf_n32
  rw [UInt32.le_iff_toNat_le, UInt32.toNat_and, show (0x7fffffff : UInt32).toNat = 2 ^ 31 - 1 by decide, Nat.and_two_pow_sub_one_eq_mod, UInt32.toNat_ofNat_of_lt' h]
  exact h2
theorem n64_of {n : Nat} (h : n < 2 * FP.Core.b64.exps * FP.Core.b64.tails) (h2 : n % (FP.Core.b64.exps * FP.Core.b64.tails) ≤ (FP.Core.b64.exps - 1) * FP.Core.b64.tails) : vf_n64 (UInt64.ofNat n) := by
  have e1 : 2 * FP.Core.b64.exps * FP.Core.b64.tails = 2 ^ 64 := by decide
  have e2 : FP.Core.b64.exps * FP.Core.b64.tails = 2 ^ 63 := by decide
  have e3 : (FP.Core.b64.exps - 1) * FP.Core.b64.tails = 9218868437227405312 := by decide
  rw [e1] at h
  rw [e2, e3] at h2
  unfold vf_n64
  rw [UInt64.le_iff_toNat_le, UInt64.toNat_and, show (0x7fffffffffffffff : UInt64).toNat = 2 ^ 63 - 1 by decide, Nat.and_two_pow_sub_one_eq_mod, UInt64.toNat_ofNat_of_lt' h]
  exact h2
theorem order_self {D : FP.Core.Datum} (h : D ≠ .nan) : FP.Core.order D D = some .eq := by
  cases D with
  | nan => exact absurd rfl h
  | inf s => show some (compare _ _) = _; rw [Std.compare_self]
  | fin s c q => show some (compare _ _) = _; rw [Std.compare_self]
theorem toNat32 {n : Nat} (h : n < 2 * FP.Core.b32.exps * FP.Core.b32.tails) : (UInt32.ofNat n).toNat = n := UInt32.toNat_ofNat_of_lt' (by rw [show 2 * FP.Core.b32.exps * FP.Core.b32.tails = 2 ^ 32 by decide] at h; exact h)
theorem toNat64 {n : Nat} (h : n < 2 * FP.Core.b64.exps * FP.Core.b64.tails) : (UInt64.ofNat n).toNat = n := UInt64.toNat_ofNat_of_lt' (by rw [show 2 * FP.Core.b64.exps * FP.Core.b64.tails = 2 ^ 64 by decide] at h; exact h)
theorem enc_nan {f : FP.Core.Fmt} (g : FG f) {D : FP.Core.Datum} (h : Bd f D) : FP.Core.decode f (FP.Core.encode f D) ≠ .nan := by
  obtain ⟨-, -, h3⟩ := enc_bd g h
  rcases h3 with ⟨_, s, h⟩ | ⟨_, _, _, _, _, _, _, h, _⟩ <;> rw [h] <;> exact FP.Core.Datum.noConfusion
theorem bd_round {f : FP.Core.Fmt} (g : FG f) {D : FP.Core.Datum} (h : D ≠ .nan) : Bd f (FP.Core.round f D) := by
  cases D with
  | nan => exact absurd rfl h
  | inf s => trivial
  | fin s c q => exact bd_rr g
theorem share_num {a b : Int32} (hb : b ≠ 0) : vf_n32 (FP.fdiv (FP.i2f a) (FP.i2f b)) ∧ vf_n64 (FP.f2d (FP.fdiv (FP.i2f a) (FP.i2f b))) ∧ FP.dcmp (FP.f2d (FP.fdiv (FP.i2f a) (FP.i2f b))) (FP.f2d (FP.fdiv (FP.i2f a) (FP.i2f b))) = some .eq := by
  have ha2 : a.toInt.natAbs < 2 ^ 64 := by have := a.toInt_lt; have := a.le_toInt; omega
  have hb2 : b.toInt.natAbs < 2 ^ 64 := by have := b.toInt_lt; have := b.le_toInt; omega
  have hb3 : b.toInt ≠ 0 := fun z => hb (Int32.toInt_inj.mp z)
  obtain ⟨a1, s, c, q, a2, -⟩ := int_bd fg_32 ha2
  obtain ⟨b1, t, d, r, b2, b3⟩ := int_bd fg_32 hb2
  have hB := quo_bd fg_32 a2 b2 (b3 hb3)
  have e : FP.fdiv (FP.i2f a) (FP.i2f b) = UInt32.ofNat (FP.Core.encode FP.Core.b32 (FP.Core.quotient FP.Core.b32 (FP.Core.decode FP.Core.b32 (FP.Core.fromInt FP.Core.b32 a.toInt)) (FP.Core.decode FP.Core.b32 (FP.Core.fromInt FP.Core.b32 b.toInt)))) := by
    show UInt32.ofNat (FP.Core.encode FP.Core.b32 (FP.Core.quotient FP.Core.b32 (FP.Core.decode FP.Core.b32 (UInt32.ofNat (FP.Core.fromInt FP.Core.b32 a.toInt)).toNat) (FP.Core.decode FP.Core.b32 (UInt32.ofNat (FP.Core.fromInt FP.Core.b32 b.toInt)).toNat))) = _
    rw [toNat32 a1, toNat32 b1]
  generalize FP.Core.quotient FP.Core.b32 (FP.Core.decode FP.Core.b32 (FP.Core.fromInt FP.Core.b32 a.toInt)) (FP.Core.decode FP.Core.b32 (FP.Core.fromInt FP.Core.b32 b.toInt)) = D at hB e
  rw [e]
  obtain ⟨e1, e2, -⟩ := enc_bd fg_32 hB
  have hR : Bd FP.Core.b64 (FP.Core.round FP.Core.b64 (FP.Core.decode FP.Core.b32 (FP.Core.encode FP.Core.b32 D))) := bd_round fg_64 (enc_nan fg_32 hB)
  have e3 : FP.f2d (UInt32.ofNat (FP.Core.encode FP.Core.b32 D)) = UInt64.ofNat (FP.Core.encode FP.Core.b64 (FP.Core.round FP.Core.b64 (FP.Core.decode FP.Core.b32 (FP.Core.encode FP.Core.b32 D)))) := by
    unfold FP.f2d
    rw [if_neg (show ¬ FP.Core.fIsNaN (UInt32.ofNat (FP.Core.encode FP.Core.b32 D)) = true from by
      show ¬ decide (FP.Core.decode FP.Core.b32 (UInt32.ofNat (FP.Core.encode FP.Core.b32 D)).toNat = .nan) = true
      rw [toNat32 e1, decide_eq_true_iff]
      exact enc_nan fg_32 hB)]
    show UInt64.ofNat (FP.Core.encode FP.Core.b64 (FP.Core.round FP.Core.b64 (FP.Core.decode FP.Core.b32 (UInt32.ofNat (FP.Core.encode FP.Core.b32 D)).toNat))) = _
    rw [toNat32 e1]
  rw [e3]
  obtain ⟨e4, e5, -⟩ := enc_bd fg_64 hR
  refine ⟨n32_of e1 e2, n64_of e4 e5, ?_⟩
  show FP.Core.order (FP.Core.decode FP.Core.b64 (UInt64.ofNat (FP.Core.encode FP.Core.b64 (FP.Core.round FP.Core.b64 (FP.Core.decode FP.Core.b32 (FP.Core.encode FP.Core.b32 D))))).toNat) (FP.Core.decode FP.Core.b64 (UInt64.ofNat (FP.Core.encode FP.Core.b64 (FP.Core.round FP.Core.b64 (FP.Core.decode FP.Core.b32 (FP.Core.encode FP.Core.b32 D))))).toNat) = _
  rw [toNat64 e4]
  exact order_self (enc_nan fg_64 hR)
theorem mean_num {a : Int64} {b : Int32} (hb : b ≠ 0) : vf_n64 (FP.ddiv (FP.l2d a) (FP.i2d b)) ∧ FP.dcmp (FP.ddiv (FP.l2d a) (FP.i2d b)) (FP.ddiv (FP.l2d a) (FP.i2d b)) = some .eq := by
  have ha2 : a.toInt.natAbs < 2 ^ 64 := by have := a.toInt_lt; have := a.le_toInt; omega
  have hb2 : b.toInt.natAbs < 2 ^ 64 := by have := b.toInt_lt; have := b.le_toInt; omega
  have hb3 : b.toInt ≠ 0 := fun z => hb (Int32.toInt_inj.mp z)
  obtain ⟨a1, s, c, q, a2, -⟩ := int_bd fg_64 ha2
  obtain ⟨b1, t, d, r, b2, b3⟩ := int_bd fg_64 hb2
  have hB := quo_bd fg_64 a2 b2 (b3 hb3)
  have e : FP.ddiv (FP.l2d a) (FP.i2d b) = UInt64.ofNat (FP.Core.encode FP.Core.b64 (FP.Core.quotient FP.Core.b64 (FP.Core.decode FP.Core.b64 (FP.Core.fromInt FP.Core.b64 a.toInt)) (FP.Core.decode FP.Core.b64 (FP.Core.fromInt FP.Core.b64 b.toInt)))) := by
    show UInt64.ofNat (FP.Core.encode FP.Core.b64 (FP.Core.quotient FP.Core.b64 (FP.Core.decode FP.Core.b64 (UInt64.ofNat (FP.Core.fromInt FP.Core.b64 a.toInt)).toNat) (FP.Core.decode FP.Core.b64 (UInt64.ofNat (FP.Core.fromInt FP.Core.b64 b.toInt)).toNat))) = _
    rw [toNat64 a1, toNat64 b1]
  generalize FP.Core.quotient FP.Core.b64 (FP.Core.decode FP.Core.b64 (FP.Core.fromInt FP.Core.b64 a.toInt)) (FP.Core.decode FP.Core.b64 (FP.Core.fromInt FP.Core.b64 b.toInt)) = D at hB e
  rw [e]
  obtain ⟨e1, e2, -⟩ := enc_bd fg_64 hB
  refine ⟨n64_of e1 e2, ?_⟩
  show FP.Core.order (FP.Core.decode FP.Core.b64 (UInt64.ofNat (FP.Core.encode FP.Core.b64 D)).toNat) (FP.Core.decode FP.Core.b64 (UInt64.ofNat (FP.Core.encode FP.Core.b64 D)).toNat) = _
  rw [toNat64 e1]
  exact order_self (enc_nan fg_64 hB)
theorem i2d_wide (x : Int32) : FP.i2d x = FP.l2d x.toInt64 := by
  show UInt64.ofNat (FP.Core.fromInt FP.Core.b64 x.toInt) = UInt64.ofNat (FP.Core.fromInt FP.Core.b64 x.toInt64.toInt)
  rw [Int32.toInt_toInt64]

