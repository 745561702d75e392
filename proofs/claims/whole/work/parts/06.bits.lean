/-! Int32 by its bits: the first rows out of kit/laws/BITS.to-paste (family bt), then the columns of a row -/
def bt (x : Int32) (i : Nat) : Bool := x.toBitVec.getLsbD i
theorem b_ext {x y : Int32} (h : ∀ i, i < 32 → bt x i = bt y i) : x = y := Int32.toBitVec_inj.mp (BitVec.eq_of_getLsbD_eq (fun i hi => h i hi))
theorem b_or (x y : Int32) (i : Nat) : bt (x ||| y) i = (bt x i || bt y i) := by unfold bt; rw [Int32.toBitVec_or, BitVec.getLsbD_or]
theorem b_and (x y : Int32) (i : Nat) : bt (x &&& y) i = (bt x i && bt y i) := by unfold bt; rw [Int32.toBitVec_and, BitVec.getLsbD_and]
theorem b_0 (i : Nat) : bt 0 i = false := BitVec.getLsbD_zero
/-- the bits of the columns l .. r -/
def hg_cb (l r : Nat) : Int32 := (((nI 1) <<< ((nI (r - l + 1)) &&& 31)) - (nI 1)) <<< ((nI l) &&& 31)
theorem hg_cb_bt : ∀ l, l < 20 → ∀ r, r < 20 → l ≤ r → ∀ i, i < 32 → bt (hg_cb l r) i = decide (l ≤ i ∧ i ≤ r) := by decide +kernel
theorem hg_and0 {x y : Int32} : x &&& y = 0 ↔ ∀ i, i < 32 → ¬ (bt x i = true ∧ bt y i = true) := by
  constructor
  · intro h i _ q
    have h1 := b_and x y i
    rw [h, b_0, q.1, q.2] at h1
    cases h1
  · intro h
    refine b_ext fun i hi => ?_
    rw [b_and, b_0]
    cases h1 : bt x i
    · rfl
    · cases h2 : bt y i
      · rfl
      · exact absurd ⟨h1, h2⟩ (h i hi)
/-- a row of columns, one bit each, none from 20 on -/
def hg_row (x : Int32) (p : Nat → Prop) : Prop := ∀ i, i < 32 → (bt x i = true ↔ i < 20 ∧ p i)
theorem hg_row_0 : hg_row (nI 0) (fun _ => False) := fun i _ => by
  rw [nI_0, b_0]
  exact ⟨fun h => (by cases h), fun h => h.2.elim⟩
theorem hg_row_cb {l r : Nat} (hl : l ≤ r) (hr : r < 20) : hg_row (hg_cb l r) (fun i => l ≤ i ∧ i ≤ r) := fun i hi => by
  rw [hg_cb_bt l (by omega) r hr hl i hi, decide_eq_true_iff]
  exact ⟨fun h => ⟨by omega, h⟩, fun h => h.2⟩
theorem hg_row_or {x y : Int32} {p q : Nat → Prop} (hx : hg_row x p) (hy : hg_row y q) : hg_row (x ||| y) (fun i => p i ∨ q i) := fun i hi => by
  rw [b_or, Bool.or_eq_true, hx i hi, hy i hi]
  exact ⟨fun h => h.elim (fun z => ⟨z.1, Or.inl z.2⟩) (fun z => ⟨z.1, Or.inr z.2⟩), fun h => h.2.elim (fun z => Or.inl ⟨h.1, z⟩) (fun z => Or.inr ⟨h.1, z⟩)⟩
theorem hg_row_to {x : Int32} {p q : Nat → Prop} (hx : hg_row x p) (h : ∀ i, i < 20 → (p i ↔ q i)) : hg_row x q := fun i hi => by
  rw [hx i hi]
  exact ⟨fun z => ⟨z.1, (h i z.1).1 z.2⟩, fun z => ⟨z.1, (h i z.1).2 z.2⟩⟩
theorem hg_row_and {x y : Int32} {p q : Nat → Prop} (hx : hg_row x p) (hy : hg_row y q) : ¬ x &&& y = 0 ↔ ∃ i, i < 20 ∧ p i ∧ q i := by
  rw [hg_and0]
  constructor
  · intro h
    by_cases g : ∃ i, i < 20 ∧ p i ∧ q i
    · exact g
    · exfalso
      refine h fun i hi z => g ?_
      have h1 := (hx i hi).1 z.1
      have h2 := (hy i hi).1 z.2
      exact ⟨i, h1.1, h1.2, h2.2⟩
  · intro ⟨i, hi, h1, h2⟩ h
    exact h i (by omega) ⟨(hx i (by omega)).2 ⟨hi, h1⟩, (hy i (by omega)).2 ⟨hi, h2⟩⟩
