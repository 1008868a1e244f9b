/-! The typed memory: objects and rows by kind and number; K gives their addresses, M what they hold.
 kinds 0 Agent, 1 Customer, 2 Mail, 3 Prepared, 4 Ticket, 5 TopicQueue, 6 the desk, 7 the model; lists 8 (mails of a ticket), 9 (line of a queue), 10 mails, 11 tickets, 12 agents, 13 prepared answers;
 rows 14 weights of an answer, 15 promises, 16 answersWithWord, 17 scores, 18 customers, 19 queues; 20 .. 38 the model's; 39, 40 the law's. -/
abbrev Mem : Type := (Nat → Nat) × (Nat → Nat → Nat → Int32) × (Nat → Nat → Nat → Int64) × (Nat → UInt64) × (Nat → Nat → Nat → Option Nat) × (Nat → Nat → List Nat) × (Nat → Nat → Nat)
def mN (M : Mem) : Nat → Nat := M.1
def mT (M : Mem) : Nat → Nat → Nat → Int32 := M.2.1
def mJ (M : Mem) : Nat → Nat → Nat → Int64 := M.2.2.1
def mF (M : Mem) : Nat → UInt64 := M.2.2.2.1
def mP (M : Mem) : Nat → Nat → Nat → Option Nat := M.2.2.2.2.1
def mL (M : Mem) : Nat → Nat → List Nat := M.2.2.2.2.2.1
/-- places that a list's row has free, at the least -/
def mC (M : Mem) : Nat → Nat → Nat := M.2.2.2.2.2.2
def u3 {α : Type} (f : Nat → Nat → Nat → α) (k j i : Nat) (x : α) : Nat → Nat → Nat → α := fun a b c => if a = k ∧ b = j ∧ c = i then x else f a b c
def u2 {α : Type} (f : Nat → Nat → α) (k i : Nat) (x : α) : Nat → Nat → α := fun a c => if a = k ∧ c = i then x else f a c
def sN (M : Mem) (k n : Nat) : Mem := ((fun a => if a = k then n else M.1 a), M.2)
def sT (M : Mem) (k j i : Nat) (x : Int32) : Mem := (M.1, u3 M.2.1 k j i x, M.2.2)
def sJ (M : Mem) (k j i : Nat) (x : Int64) : Mem := (M.1, M.2.1, u3 M.2.2.1 k j i x, M.2.2.2)
def sF (M : Mem) (i : Nat) (x : UInt64) : Mem := (M.1, M.2.1, M.2.2.1, (fun a => if a = i then x else M.2.2.2.1 a), M.2.2.2.2)
def sP (M : Mem) (k j i : Nat) (x : Option Nat) : Mem := (M.1, M.2.1, M.2.2.1, M.2.2.2.1, u3 M.2.2.2.2.1 k j i x, M.2.2.2.2.2)
def sL (M : Mem) (k i : Nat) (x : List Nat) : Mem := (M.1, M.2.1, M.2.2.1, M.2.2.2.1, M.2.2.2.2.1, u2 M.2.2.2.2.2.1 k i x, M.2.2.2.2.2.2)
def sC (M : Mem) (k i : Nat) (x : Nat) : Mem := (M.1, M.2.1, M.2.2.1, M.2.2.2.1, M.2.2.2.2.1, M.2.2.2.2.2.1, u2 M.2.2.2.2.2.2 k i x)
-- what a setter leaves
theorem mN_sT {M : Mem} {k j i : Nat} {x : Int32} : mN (sT M k j i x) = mN M := rfl
theorem mJ_sT {M : Mem} {k j i : Nat} {x : Int32} : mJ (sT M k j i x) = mJ M := rfl
theorem mF_sT {M : Mem} {k j i : Nat} {x : Int32} : mF (sT M k j i x) = mF M := rfl
theorem mP_sT {M : Mem} {k j i : Nat} {x : Int32} : mP (sT M k j i x) = mP M := rfl
theorem mL_sT {M : Mem} {k j i : Nat} {x : Int32} : mL (sT M k j i x) = mL M := rfl
theorem mT_sT {M : Mem} {k j i : Nat} {x : Int32} (a b c : Nat) : mT (sT M k j i x) a b c = if a = k ∧ b = j ∧ c = i then x else mT M a b c := rfl
theorem mN_sJ {M : Mem} {k j i : Nat} {x : Int64} : mN (sJ M k j i x) = mN M := rfl
theorem mT_sJ {M : Mem} {k j i : Nat} {x : Int64} : mT (sJ M k j i x) = mT M := rfl
theorem mF_sJ {M : Mem} {k j i : Nat} {x : Int64} : mF (sJ M k j i x) = mF M := rfl
theorem mP_sJ {M : Mem} {k j i : Nat} {x : Int64} : mP (sJ M k j i x) = mP M := rfl
theorem mL_sJ {M : Mem} {k j i : Nat} {x : Int64} : mL (sJ M k j i x) = mL M := rfl
theorem mJ_sJ {M : Mem} {k j i : Nat} {x : Int64} (a b c : Nat) : mJ (sJ M k j i x) a b c = if a = k ∧ b = j ∧ c = i then x else mJ M a b c := rfl
theorem mN_sF {M : Mem} {i : Nat} {x : UInt64} : mN (sF M i x) = mN M := rfl
theorem mT_sF {M : Mem} {i : Nat} {x : UInt64} : mT (sF M i x) = mT M := rfl
theorem mJ_sF {M : Mem} {i : Nat} {x : UInt64} : mJ (sF M i x) = mJ M := rfl
theorem mP_sF {M : Mem} {i : Nat} {x : UInt64} : mP (sF M i x) = mP M := rfl
theorem mL_sF {M : Mem} {i : Nat} {x : UInt64} : mL (sF M i x) = mL M := rfl
theorem mF_sF {M : Mem} {i : Nat} {x : UInt64} (a : Nat) : mF (sF M i x) a = if a = i then x else mF M a := rfl
theorem mN_sP {M : Mem} {k j i : Nat} {x : Option Nat} : mN (sP M k j i x) = mN M := rfl
theorem mT_sP {M : Mem} {k j i : Nat} {x : Option Nat} : mT (sP M k j i x) = mT M := rfl
theorem mJ_sP {M : Mem} {k j i : Nat} {x : Option Nat} : mJ (sP M k j i x) = mJ M := rfl
theorem mF_sP {M : Mem} {k j i : Nat} {x : Option Nat} : mF (sP M k j i x) = mF M := rfl
theorem mL_sP {M : Mem} {k j i : Nat} {x : Option Nat} : mL (sP M k j i x) = mL M := rfl
theorem mP_sP {M : Mem} {k j i : Nat} {x : Option Nat} (a b c : Nat) : mP (sP M k j i x) a b c = if a = k ∧ b = j ∧ c = i then x else mP M a b c := rfl
theorem mN_sL {M : Mem} {k i : Nat} {x : List Nat} : mN (sL M k i x) = mN M := rfl
theorem mT_sL {M : Mem} {k i : Nat} {x : List Nat} : mT (sL M k i x) = mT M := rfl
theorem mJ_sL {M : Mem} {k i : Nat} {x : List Nat} : mJ (sL M k i x) = mJ M := rfl
theorem mF_sL {M : Mem} {k i : Nat} {x : List Nat} : mF (sL M k i x) = mF M := rfl
theorem mP_sL {M : Mem} {k i : Nat} {x : List Nat} : mP (sL M k i x) = mP M := rfl
theorem mL_sL {M : Mem} {k i : Nat} {x : List Nat} (a c : Nat) : mL (sL M k i x) a c = if a = k ∧ c = i then x else mL M a c := rfl
theorem mT_sN {M : Mem} {k n : Nat} : mT (sN M k n) = mT M := rfl
theorem mJ_sN {M : Mem} {k n : Nat} : mJ (sN M k n) = mJ M := rfl
theorem mF_sN {M : Mem} {k n : Nat} : mF (sN M k n) = mF M := rfl
theorem mP_sN {M : Mem} {k n : Nat} : mP (sN M k n) = mP M := rfl
theorem mL_sN {M : Mem} {k n : Nat} : mL (sN M k n) = mL M := rfl
theorem mN_sN {M : Mem} {k n : Nat} (a : Nat) : mN (sN M k n) a = if a = k then n else mN M a := rfl
theorem mC_sT {M : Mem} {k j i : Nat} {x : Int32} : mC (sT M k j i x) = mC M := rfl
theorem mC_sJ {M : Mem} {k j i : Nat} {x : Int64} : mC (sJ M k j i x) = mC M := rfl
theorem mC_sF {M : Mem} {i : Nat} {x : UInt64} : mC (sF M i x) = mC M := rfl
theorem mC_sP {M : Mem} {k j i : Nat} {x : Option Nat} : mC (sP M k j i x) = mC M := rfl
theorem mC_sL {M : Mem} {k i : Nat} {x : List Nat} : mC (sL M k i x) = mC M := rfl
theorem mC_sN {M : Mem} {k n : Nat} : mC (sN M k n) = mC M := rfl
theorem mN_sC {M : Mem} {k i x : Nat} : mN (sC M k i x) = mN M := rfl
theorem mT_sC {M : Mem} {k i x : Nat} : mT (sC M k i x) = mT M := rfl
theorem mJ_sC {M : Mem} {k i x : Nat} : mJ (sC M k i x) = mJ M := rfl
theorem mF_sC {M : Mem} {k i x : Nat} : mF (sC M k i x) = mF M := rfl
theorem mP_sC {M : Mem} {k i x : Nat} : mP (sC M k i x) = mP M := rfl
theorem mL_sC {M : Mem} {k i x : Nat} : mL (sC M k i x) = mL M := rfl
theorem mC_sC {M : Mem} {k i x : Nat} (a c : Nat) : mC (sC M k i x) a c = if a = k ∧ c = i then x else mC M a c := rfl
/-- what a field is: 0 a number, 1 a long, 2 a reference to an object of a kind or null, 3 the one of that kind with the same number, 4 the only one of that kind -/
def fS : Nat → Nat → Nat × Nat
  | 1, 0 => (4, 15)
  | 2, 1 => (2, 4)
  | 3, 1 => (3, 14)
  | 4, 1 => (2, 1) | 4, 3 => (3, 8) | 4, 9 => (2, 0) | 4, 11 => (2, 3) | 4, 13 => (2, 4)
  | 5, 0 => (3, 9)
  | 6, 0 => (4, 15) | 6, 1 => (4, 18) | 6, 2 => (4, 19) | 6, 3 => (4, 10) | 6, 4 => (4, 11) | 6, 5 => (4, 12) | 6, 6 => (4, 13) | 6, 7 => (4, 16) | 6, 8 => (4, 17) | 6, 13 => (1, 0) | 6, 14 => (1, 0)
  | 7, 0 => (4, 20) | 7, 1 => (4, 21) | 7, 2 => (4, 22) | 7, 3 => (4, 23) | 7, 4 => (4, 24) | 7, 5 => (4, 25) | 7, 6 => (4, 26) | 7, 7 => (4, 27) | 7, 8 => (4, 28) | 7, 9 => (4, 29)
  | 7, 10 => (4, 30) | 7, 11 => (4, 31) | 7, 12 => (4, 32) | 7, 13 => (4, 33) | 7, 14 => (4, 34) | 7, 15 => (4, 35) | 7, 16 => (4, 36) | 7, 17 => (4, 37) | 7, 18 => (4, 38) | 7, 29 => (1, 0)
  | _, _ => (0, 0)
def fvS (q : Nat × Nat) (K : Nat → Nat → Nat) (M : Mem) (k j i : Nat) : Value :=
  match q.1 with
  | 0 => .int (mT M k j i)
  | 1 => .long (mJ M k j i)
  | 2 => va_rf ((mP M k j i).map (K q.2))
  | 3 => .ref (K q.2 i)
  | _ => .ref (K q.2 0)
def fv (K : Nat → Nat → Nat) (M : Mem) (k j i : Nat) : Value := fvS (fS k j) K M k j i
def nFl : Nat → Nat
  | 0 => 4 | 1 => 2 | 2 => 2 | 3 => 2 | 4 => 14 | 5 => 1 | 6 => 15 | 7 => 30 | _ => 0
def isLs (k : Nat) : Bool := decide (8 ≤ k) && decide (k ≤ 13)
def eK : Nat → Nat
  | 8 => 2 | 9 => 4 | 10 => 2 | 11 => 4 | 12 => 0 | _ => 3
def aLen : Nat → Nat
  | 14 => 6 | 15 => 3 | 16 => 10 | 17 => 8 | 18 => 8 | 19 => 6 | 20 => 8 | 21 => 3 | 22 => 80 | 23 => 80 | 35 => 6 | 36 => 6 | 37 => 8 | 38 => 48 | 39 => 1 | 40 => 1 | _ => 40
/-- which of the array types a row has -/
def aTy : Nat → Nat
  | 18 => 6 | 19 => 7 | 33 => 1 | 34 => 2 | 35 => 2 | 39 => 3 | 40 => 4 | _ => 0
def cntE (K : Nat → Nat → Nat) (M : Mem) (k i : Nat) : (Nat → Int32) ⊕ (Nat → Int64) ⊕ (Nat → UInt32) ⊕ (Nat → UInt64) ⊕ (Nat → Option Nat) :=
  match k with
  | 18 => .inr (.inr (.inr (.inr (fun j => some (K 1 j)))))
  | 19 => .inr (.inr (.inr (.inr (fun j => some (K 5 j)))))
  | 39 => .inr (.inl (fun j => mJ M 39 j i))
  | 40 => .inr (.inr (.inr (.inl (mF M))))
  | k => .inl (fun j => mT M k j i)
def fsE (K : Nat → Nat → Nat) (M : Mem) (k i : Nat) : List Value := (List.range (nFl k)).map (fun j => fv K M k j i)
def celE (dA : Nat → ClassId) (K : Nat → Nat → Nat) (M : Mem) (k i : Nat) : va_E := if k < 8 then .inr (k, fsE K M k i) else .inl (dA (aTy k), aLen k, cntE K M k i)
abbrev clX : List vw_C := [(RX0, TX0, 4), (RX1, TX1, 2), (RX2, TX2, 2), (RX3, TX3, 2), (RX4, TX4, 14), (RX5, TX5, 1), (RX6, TX6, 15), (RX7, TX7, 30), (RJx4a65c, TJx4a65c, 3)]
/-- what stays the same from the law's start on: the classes' numbers and slots, the array classes' numbers, the String constants' addresses, the shared empty row's address, where the law's own cells begin -/
abbrev Gm : Type := va_G × (Nat → ClassId) × (Nat → Nat) × Nat × Nat
def gD (Γ : Gm) : va_G := Γ.1
def gA (Γ : Gm) : Nat → ClassId := Γ.2.1
def gS (Γ : Gm) : Nat → Nat := Γ.2.2.1
def gE (Γ : Gm) : Nat := Γ.2.2.2.1
def gB (Γ : Gm) : Nat := Γ.2.2.2.2
abbrev gFree (Γ : Gm) : Nat → Prop := fun q => gB Γ ≤ q
abbrev rE (f : Nat → Option Nat) : (Nat → Int32) ⊕ (Nat → Int64) ⊕ (Nat → UInt32) ⊕ (Nat → UInt64) ⊕ (Nat → Option Nat) := .inr (.inr (.inr (.inr f)))
/-- the shared empty row: of its cell no more is known than the Statement gives -/
def EmpAt (Γ : Gm) (a : Nat) (H : Heap) : Prop := ∃ cell : Cell, H[a]? = some cell ∧ cell.cls = gA Γ 5 ∧ cell.slots.size = 0 ∧ cell.vm ≠ .unknown ∧ ∀ k, cell.vm ≠ .statics k
theorem EmpAt.kept {Γ : Gm} {a : Nat} {H H1 : Heap} (h : EmpAt Γ a H) (e : H1[a]? = H[a]?) : EmpAt Γ a H1 := by
  obtain ⟨cell, h1, h2⟩ := h
  exact ⟨cell, e.trans h1, h2⟩
theorem EmpAt.lt {Γ : Gm} {a : Nat} {H : Heap} (h : EmpAt Γ a H) : a < H.size := by
  obtain ⟨cell, h1, h2⟩ := h
  exact (Array.getElem?_eq_some_iff.mp h1).1
/-- a list's row: its own, or the shared empty one -/
def ArAt (Γ : Gm) (b cap : Nat) (f : Nat → Option Nat) (H : Heap) : Prop := (cap = 0 → EmpAt Γ b H) ∧ (cap ≠ 0 → va_at (gD Γ) clX (b, .inl (gA Γ 5, cap, rE f)) H)
theorem ArAt.kept {Γ : Gm} {b cap : Nat} {f : Nat → Option Nat} {H H1 : Heap} (h : ArAt Γ b cap f H) (e : H1[b]? = H[b]?) : ArAt Γ b cap f H1 := ⟨fun z => (h.1 z).kept e, fun z => (h.2 z).kept e⟩
theorem ArAt.lt {Γ : Gm} {b cap : Nat} {f : Nat → Option Nat} {H : Heap} (h : ArAt Γ b cap f H) : b < H.size := by
  by_cases z : cap = 0
  · exact (h.1 z).lt
  · exact (h.2 z).lt
theorem ArAt.va {Γ : Gm} {b cap : Nat} {f : Nat → Option Nat} {H : Heap} (h : ArAt Γ b cap f H) (z : cap ≠ 0) : va_at (gD Γ) clX (b, .inl (gA Γ 5, cap, rE f)) H := h.2 z
theorem ArAt.of {Γ : Gm} {b cap : Nat} {f : Nat → Option Nat} {H : Heap} (h : va_at (gD Γ) clX (b, .inl (gA Γ 5, cap, rE f)) H) (z : cap ≠ 0) : ArAt Γ b cap f H := ⟨fun y => absurd y z, fun _ => h⟩
/-- a list at a, its row at b, its elements xs -/
def LsAt (Γ : Gm) (a b n : Nat) (xs : List Nat) (H : Heap) : Prop := ∃ (m : Int32) (cap : Nat) (f : Nat → Option Nat),
  va_at (gD Γ) clX (a, .inr (8, [.int m, .ref b, .int (nI xs.length)])) H ∧ xs.length + n ≤ cap ∧ cap ≤ 200 ∧ (cap = 0 ↔ b = gE Γ) ∧ ArAt Γ b cap f H ∧ ∀ j, j < xs.length → f j = xs[j]?
/-- the rows of the lists: apart from all else, and from one another -/
def LsB (Γ : Gm) (K : Nat → Nat → Nat) (N : Nat → Nat) (B : Nat → Nat → Nat) : Prop :=
  ∀ k i, isLs k = true → i < N k → B k i ≠ gE Γ → gB Γ ≤ B k i ∧ (∀ k' i', i' < N k' → K k' i' ≠ B k i) ∧ ∀ k' i', isLs k' = true → i' < N k' → B k' i' = B k i → k' = k ∧ i' = i
def HM (Γ : Gm) (K : Nat → Nat → Nat) (M : Mem) (H : Heap) : Prop :=
  (∀ k i, i < mN M k → isLs k = false → va_at (gD Γ) clX (K k i, celE (gA Γ) K M k i) H) ∧
  (∃ B : Nat → Nat → Nat, (∀ k i, isLs k = true → i < mN M k → LsAt Γ (K k i) (B k i) (mC M k i) ((mL M k i).map (K (eK k))) H) ∧ LsB Γ K (mN M) B) ∧
  (∀ k i k' i', i < mN M k → i' < mN M k' → K k i = K k' i' → k = k' ∧ i = i') ∧
  (∀ k i, i < mN M k → gB Γ ≤ K k i) ∧ gE Γ < gB Γ
theorem LsAt.kept {Γ : Gm} {a b n : Nat} {xs : List Nat} {H H1 : Heap} (h : LsAt Γ a b n xs H) (ha : H1[a]? = H[a]?) (hb : H1[b]? = H[b]?) : LsAt Γ a b n xs H1 := by
  obtain ⟨m, cap, f, h1, h2, h3, h4, h5, h6⟩ := h
  exact ⟨m, cap, f, h1.kept ha, h2, h3, h4, h5.kept hb, h6⟩
theorem LsAt.lt {Γ : Gm} {a b n : Nat} {xs : List Nat} {H : Heap} (h : LsAt Γ a b n xs H) : a < H.size ∧ b < H.size := by
  obtain ⟨m, cap, f, h1, h2, h3, h4, h5, h6⟩ := h
  exact ⟨h1.lt, h5.lt⟩
/-- all cells of the memory are old ones -/
theorem HM.lt {Γ : Gm} {K : Nat → Nat → Nat} {M : Mem} {H : Heap} (h : HM Γ K M H) {k i : Nat} (hi : i < mN M k) : K k i < H.size := by
  by_cases hk : isLs k = true
  · obtain ⟨-, ⟨B, h2, -⟩, -⟩ := h
    exact (h2 k i hk hi).lt.1
  · exact (h.1 k i hi (by simpa using hk)).lt
/-- cells that come change nothing -/
theorem HM.grow {Γ : Gm} {K : Nat → Nat → Nat} {M : Mem} {H H1 : Heap} (h : HM Γ K M H) (hq : ∀ q : Nat, q < H.size → H1[q]? = H[q]?) : HM Γ K M H1 := by
  obtain ⟨h1, ⟨B, h2, h3⟩, h4⟩ := h
  refine ⟨fun k i hi hk => (h1 k i hi hk).kept (hq _ (h1 k i hi hk).lt), ⟨B, fun k i hk hi => (h2 k i hk hi).kept (hq _ (h2 k i hk hi).lt.1) (hq _ (h2 k i hk hi).lt.2), h3⟩, h4⟩
/-- one cell that is no list's changes -/
theorem HM.chg {Γ : Gm} {K : Nat → Nat → Nat} {M M' : Mem} {H H1 : Heap} (h : HM Γ K M H) {k i : Nat} (hi : i < mN M k) (hk : isLs k = false)
    (hc : va_at (gD Γ) clX (K k i, celE (gA Γ) K M' k i) H1) (oq : ∀ q : Nat, q ≠ K k i → H1[q]? = H[q]?)
    (hN : mN M' = mN M) (hL : mL M' = mL M) (hC : mC M' = mC M) (he : ∀ k' i', ¬ (k' = k ∧ i' = i) → celE (gA Γ) K M' k' i' = celE (gA Γ) K M k' i') : HM Γ K M' H1 := by
  obtain ⟨h1, ⟨B, h2, h3⟩, h4, h5, h6⟩ := h
  have hE : gE Γ ≠ K k i := fun e => by have := h5 k i hi; omega
  refine ⟨fun k' i' hi' hk' => ?_, ⟨B, fun k' i' hk' hi' => ?_, by rw [hN]; exact h3⟩, by rw [hN]; exact h4, by rw [hN]; exact h5, h6⟩
  · rw [hN] at hi'
    by_cases e : k' = k ∧ i' = i
    · obtain ⟨rfl, rfl⟩ := e
      exact hc
    · rw [he k' i' e]
      exact (h1 k' i' hi' hk').kept (oq _ (fun z => e (h4 k' i' k i hi' hi z)))
  · rw [hN] at hi'
    rw [hL, hC]
    have hB : B k' i' ≠ K k i := by
      by_cases e : B k' i' = gE Γ
      · rw [e]; exact hE
      · exact fun z => (h3 k' i' hk' hi' e).2.1 k i hi z.symm
    refine (h2 k' i' hk' hi').kept (oq _ (fun z => ?_)) (oq _ hB)
    obtain ⟨rfl, -⟩ := h4 k' i' k i hi' hi z
    rw [hk] at hk'
    cases hk'
theorem u3_self {α : Type} (f : Nat → Nat → Nat → α) (k j i : Nat) (x : α) : u3 f k j i x k j i = x := if_pos ⟨rfl, rfl, rfl⟩
theorem u3_ne {α : Type} {f : Nat → Nat → Nat → α} {k j i a b c : Nat} {x : α} (h : ¬ (a = k ∧ b = j ∧ c = i)) : u3 f k j i x a b c = f a b c := if_neg h
theorem celE_sT {dA : Nat → ClassId} {K : Nat → Nat → Nat} {M : Mem} {k j i : Nat} {x : Int32} {k' i' : Nat} (h : ¬ (k' = k ∧ i' = i)) : celE dA K (sT M k j i x) k' i' = celE dA K M k' i' := by
  have h2 : ∀ b, mT (sT M k j i x) k' b i' = mT M k' b i' := fun b => u3_ne (fun z => h ⟨z.1, z.2.2⟩)
  unfold celE
  split
  · congr 2
    unfold fsE
    refine List.map_congr_left fun b _ => ?_
    unfold fv fvS
    rw [h2]; rfl
  · congr 3
    unfold cntE
    split <;> first | rfl | (simp only [h2])
theorem celE_sJ {dA : Nat → ClassId} {K : Nat → Nat → Nat} {M : Mem} {k j i : Nat} {x : Int64} {k' i' : Nat} (h : ¬ (k' = k ∧ i' = i)) : celE dA K (sJ M k j i x) k' i' = celE dA K M k' i' := by
  have h2 : ∀ b, mJ (sJ M k j i x) k' b i' = mJ M k' b i' := fun b => u3_ne (fun z => h ⟨z.1, z.2.2⟩)
  unfold celE
  split
  · congr 2
    unfold fsE
    refine List.map_congr_left fun b _ => ?_
    unfold fv fvS
    rw [h2]; rfl
  · congr 3
    unfold cntE
    split <;> first | rfl | (simp only [h2])
theorem celE_sP {dA : Nat → ClassId} {K : Nat → Nat → Nat} {M : Mem} {k j i : Nat} {x : Option Nat} {k' i' : Nat} (h : ¬ (k' = k ∧ i' = i)) : celE dA K (sP M k j i x) k' i' = celE dA K M k' i' := by
  have h2 : ∀ b, mP (sP M k j i x) k' b i' = mP M k' b i' := fun b => u3_ne (fun z => h ⟨z.1, z.2.2⟩)
  unfold celE
  split
  · congr 2
    unfold fsE
    refine List.map_congr_left fun b _ => ?_
    unfold fv fvS
    rw [h2]; rfl
  · rfl
theorem fsE_at {K : Nat → Nat → Nat} {M : Mem} {k j i : Nat} (hj : j < nFl k) : (fsE K M k i)[j]? = some (fv K M k j i) := by
  unfold fsE
  rw [List.getElem?_map, List.getElem?_range hj]
  rfl
theorem fsE_len {K : Nat → Nat → Nat} {M : Mem} {k i : Nat} : (fsE K M k i).length = nFl k := by
  unfold fsE
  rw [List.length_map, List.length_range]
theorem fsE_set {K : Nat → Nat → Nat} {M M' : Mem} {k j i : Nat} {v : Value} (hv : fv K M' k j i = v) (ho : ∀ b, b ≠ j → fv K M' k b i = fv K M k b i) : (fsE K M k i).set j v = fsE K M' k i := by
  refine List.ext_getElem? fun b => ?_
  rw [List.getElem?_set]
  by_cases hb : b < nFl k
  · rw [fsE_at hb, fsE_at hb, fsE_len]
    by_cases e : j = b
    · subst e
      rw [if_pos rfl, if_pos hb, hv]
    · rw [if_neg e, ho b (Ne.symm e)]
  · rw [List.getElem?_eq_none (l := fsE K M k i) (by rw [fsE_len]; omega), List.getElem?_eq_none (l := fsE K M' k i) (by rw [fsE_len]; omega), fsE_len]
    by_cases e : j = b
    · subst e
      rw [if_pos rfl, if_neg hb]
    · rw [if_neg e]
theorem celE_obj {dA : Nat → ClassId} {K : Nat → Nat → Nat} {M : Mem} {k i : Nat} (hk : k < 8) : celE dA K M k i = .inr (k, fsE K M k i) := if_pos hk
theorem isLs_lt {k : Nat} (hk : k < 8) : isLs k = false := by unfold isLs; rw [decide_eq_false (by omega)]; rfl
/-- a number of an object changes -/
theorem HM.putT {Γ : Gm} {K : Nat → Nat → Nat} {M : Mem} {H H1 : Heap} {k j i : Nat} {x : Int32} (h : HM Γ K M H) (hk : k < 8) (hi : i < mN M k) (hs : fS k j = (0, 0))
    (hc : va_at (gD Γ) clX (K k i, .inr (k, (fsE K M k i).set j (.int x))) H1) (oq : ∀ q : Nat, q ≠ K k i → H1[q]? = H[q]?) : HM Γ K (sT M k j i x) H1 := by
  refine h.chg hi (isLs_lt hk) ?_ oq rfl rfl rfl (fun k' i' e => celE_sT e)
  rw [celE_obj hk, ← fsE_set (M := M) (j := j) (v := .int x)]
  · exact hc
  · unfold fv; rw [hs]; exact congrArg Value.int (u3_self _ _ _ _ _)
  · intro b hb
    have h2 : mT (sT M k j i x) k b i = mT M k b i := u3_ne (fun z => hb z.2.1)
    unfold fv fvS
    rw [h2]; rfl
theorem HM.putJ {Γ : Gm} {K : Nat → Nat → Nat} {M : Mem} {H H1 : Heap} {k j i : Nat} {x : Int64} (h : HM Γ K M H) (hk : k < 8) (hi : i < mN M k) (hs : fS k j = (1, 0))
    (hc : va_at (gD Γ) clX (K k i, .inr (k, (fsE K M k i).set j (.long x))) H1) (oq : ∀ q : Nat, q ≠ K k i → H1[q]? = H[q]?) : HM Γ K (sJ M k j i x) H1 := by
  refine h.chg hi (isLs_lt hk) ?_ oq rfl rfl rfl (fun k' i' e => celE_sJ e)
  rw [celE_obj hk, ← fsE_set (M := M) (j := j) (v := .long x)]
  · exact hc
  · unfold fv; rw [hs]; exact congrArg Value.long (u3_self _ _ _ _ _)
  · intro b hb
    have h2 : mJ (sJ M k j i x) k b i = mJ M k b i := u3_ne (fun z => hb z.2.1)
    unfold fv fvS
    rw [h2]; rfl
theorem HM.putP {Γ : Gm} {K : Nat → Nat → Nat} {M : Mem} {H H1 : Heap} {k j i r : Nat} {x : Option Nat} (h : HM Γ K M H) (hk : k < 8) (hi : i < mN M k) (hs : fS k j = (2, r))
    (hc : va_at (gD Γ) clX (K k i, .inr (k, (fsE K M k i).set j (va_rf (x.map (K r))))) H1) (oq : ∀ q : Nat, q ≠ K k i → H1[q]? = H[q]?) : HM Γ K (sP M k j i x) H1 := by
  refine h.chg hi (isLs_lt hk) ?_ oq rfl rfl rfl (fun k' i' e => celE_sP e)
  rw [celE_obj hk, ← fsE_set (M := M) (j := j) (v := va_rf (x.map (K r)))]
  · exact hc
  · unfold fv; rw [hs]; exact congrArg (fun z : Option Nat => va_rf (z.map (K r))) (u3_self _ _ _ _ _)
  · intro b hb
    have h2 : mP (sP M k j i x) k b i = mP M k b i := u3_ne (fun z => hb z.2.1)
    unfold fv fvS
    rw [h2]; rfl
/-- a place of a row of numbers changes -/
theorem HM.rowT {Γ : Gm} {K : Nat → Nat → Nat} {M : Mem} {H H1 : Heap} {k i p n : Nat} {x : Int32} {t : Nat} (h : HM Γ K M H) (hk : isLs k = false) (hi : i < mN M k)
    (hs : ∀ M', celE (gA Γ) K M' k i = .inl (gA Γ t, n, .inl (fun j => mT M' k j i)))
    (hc : va_at (gD Γ) clX (K k i, .inl (gA Γ t, n, .inl (upd (fun j => mT M k j i) p x))) H1) (oq : ∀ q : Nat, q ≠ K k i → H1[q]? = H[q]?) : HM Γ K (sT M k p i x) H1 := by
  refine h.chg hi hk ?_ oq rfl rfl rfl (fun k' i' e => celE_sT e)
  rw [hs]
  have e : (fun j => mT (sT M k p i x) k j i) = upd (fun j => mT M k j i) p x := by
    funext j
    show u3 _ _ _ _ _ _ _ _ = _
    unfold u3 upd
    by_cases z : j = p
    · simp [z, mT]
    · simp [z, mT]
  rw [e]
  exact hc
