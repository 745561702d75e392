/-! more pure rows: the greatest over a list; two numbers; columns of a table -/
theorem hg_mx_ge {e : Nat → Nat → Prop} {K : Nat → Nat} {f g : Nat} (he : e f g) : ∀ n, g < n → K g ≤ hg_mx e K f n
  | 0, h => by omega
  | n + 1, h => by
    rw [hg_mx_s]
    by_cases z : g = n
    · subst z
      rw [hg_bK_t he]
      exact Nat.le_max_right ..
    · exact Nat.le_trans (hg_mx_ge he n (by omega)) (Nat.le_max_left ..)
theorem hg_mx_bd {e : Nat → Nat → Prop} {K : Nat → Nat} {f b : Nat} : ∀ n, (∀ g, g < n → e f g → K g ≤ b) → hg_mx e K f n ≤ b
  | 0, _ => Nat.zero_le _
  | n + 1, h => by
    rw [hg_mx_s]
    refine Nat.max_le.mpr ⟨hg_mx_bd n (fun g hg => h g (by omega)), ?_⟩
    by_cases z : e f n
    · rw [hg_bK_t z]
      exact h n (by omega) z
    · rw [hg_bK_f z]
      exact Nat.zero_le _
/-- the greatest over the first n of a list, of those that P holds of -/
noncomputable def hg_lm (P : Nat → Prop) (K : Nat → Nat) (hits : Nat → Nat) : Nat → Nat
  | 0 => 0
  | n + 1 => Nat.max (hg_lm P K hits n) (hg_b (P (hits n)) * K (hits n))
theorem hg_lm_s (P : Nat → Prop) (K : Nat → Nat) (hits : Nat → Nat) (n : Nat) : hg_lm P K hits (n + 1) = Nat.max (hg_lm P K hits n) (hg_b (P (hits n)) * K (hits n)) := rfl
theorem hg_lm_t {P : Nat → Prop} {K : Nat → Nat} {hits : Nat → Nat} {n : Nat} (h : P (hits n)) : hg_lm P K hits (n + 1) = Nat.max (hg_lm P K hits n) (K (hits n)) := by rw [hg_lm_s, hg_bK_t h]
theorem hg_lm_f {P : Nat → Prop} {K : Nat → Nat} {hits : Nat → Nat} {n : Nat} (h : ¬ P (hits n)) : hg_lm P K hits (n + 1) = hg_lm P K hits n := by
  rw [hg_lm_s, hg_bK_f h]
  exact Nat.max_eq_left (Nat.zero_le _)
theorem hg_lm_ge {P : Nat → Prop} {K : Nat → Nat} {hits : Nat → Nat} {i : Nat} (h : P (hits i)) : ∀ n, i < n → K (hits i) ≤ hg_lm P K hits n
  | 0, hn => by omega
  | n + 1, hn => by
    by_cases z : i = n
    · subst z
      rw [hg_lm_t h]
      exact Nat.le_max_right ..
    · rw [hg_lm_s]
      exact Nat.le_trans (hg_lm_ge h n (by omega)) (Nat.le_max_left ..)
theorem hg_lm_bd {P : Nat → Prop} {K : Nat → Nat} {hits : Nat → Nat} {b : Nat} : ∀ n, (∀ i, i < n → P (hits i) → K (hits i) ≤ b) → hg_lm P K hits n ≤ b
  | 0, _ => Nat.zero_le _
  | n + 1, h => by
    have h1 := hg_lm_bd n (fun i hi => h i (by omega))
    by_cases z : P (hits n)
    · rw [hg_lm_t z]
      exact Nat.max_le.mpr ⟨h1, h n (by omega) z⟩
    · rw [hg_lm_f z]
      exact h1
theorem hg_lm_mx {e : Nat → Nat → Prop} {P : Nat → Prop} {K : Nat → Nat} {hits : Nat → Nat} {f n N : Nat} (h1 : ∀ i, i < n → P (hits i) → e f (hits i) ∧ hits i < N) (h2 : ∀ g, g < N → e f g → ∃ i, i < n ∧ hits i = g ∧ P (hits i)) : hg_lm P K hits n = hg_mx e K f N := by
  refine Nat.le_antisymm (hg_lm_bd n fun i hi hp => ?_) (hg_mx_bd N fun g hg he => ?_)
  · obtain ⟨a1, a2⟩ := h1 i hi hp
    exact hg_mx_ge a1 N a2
  · obtain ⟨i, a1, a2, a3⟩ := h2 g hg he
    rw [← a2]
    exact hg_lm_ge a3 n a1
/-! the greater and the lesser of two, as the machine has them -/
theorem hg_imax {a b : Nat} (ha : a < 2 ^ 31) (hb : b < 2 ^ 31) : (if nI a < nI b then nI b else nI a) = nI (Nat.max a b) := by
  by_cases h : a < b
  · rw [if_pos ((nI_ltI ha hb).mpr h)]
    congr 1
    exact (Nat.max_eq_right (Nat.le_of_lt h)).symm
  · rw [if_neg (fun z => h ((nI_ltI ha hb).mp z))]
    congr 1
    exact (Nat.max_eq_left (by omega)).symm
theorem hg_imin {a b : Nat} (ha : a < 2 ^ 31) (hb : b < 2 ^ 31) : (if nI b < nI a then nI b else nI a) = nI (Nat.min a b) := by
  by_cases h : b < a
  · rw [if_pos ((nI_ltI hb ha).mpr h)]
    congr 1
    exact (Nat.min_eq_right (Nat.le_of_lt h)).symm
  · rw [if_neg (fun z => h ((nI_ltI hb ha).mp z))]
    congr 1
    exact (Nat.min_eq_left (by omega)).symm
theorem hg_b0 {P : Prop} (h : hg_b P = 0) : ¬ P := fun z => by rw [hg_b_t z] at h; omega
theorem hg_b1 {P : Prop} (h : hg_b P ≠ 0) : P := by
  by_cases z : P
  · exact z
  · exact absurd (hg_b_f z) h
