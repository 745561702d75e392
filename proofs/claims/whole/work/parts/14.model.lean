/-! the reference's cells by kind: 11 the object; 12 there, 13 heights, 14 widths, 15 counts, 16 rectangles and 17 its rows, 18 dirty, 19 hit, 20 round, 21 rank, 22 hangs and 23 its rows, 24 met, 25 queue. M: a number by kind and place; B: by kind (17, 23), row and place -/
def mo_w (ad : Nat → Nat → Nat) (cI cZ cA cB : ClassId) (M : Nat → Nat → Nat) (B : Nat → Nat → Nat → Nat) (μ : Nat → Nat → va_E) (k i : Nat) : va_E := match k with
  | 11 => .inr (3, [.int (nI (M 11 0)), .ref (ad 12 0), .ref (ad 13 0), .ref (ad 14 0), .ref (ad 15 0), .ref (ad 16 0), .ref (ad 18 0), .ref (ad 19 0), .ref (ad 20 0), .ref (ad 21 0), .ref (ad 22 0), .ref (ad 24 0), .ref (ad 25 0)])
  | 12 => .inl (cZ, 400, .inl fun j => nI (M 12 j))
  | 13 => .inl (cI, 400, .inl fun j => nI (M 13 j))
  | 14 => .inl (cI, 400, .inl fun j => nI (M 14 j))
  | 15 => .inl (cI, 400, .inl fun j => nI (M 15 j))
  | 16 => .inl (cA, 400, .inr (.inr (.inr (.inr (fun j => some (ad 17 j))))))
  | 17 => .inl (cI, 80, .inl fun j => nI (B 17 i j))
  | 18 => .inl (cZ, 400, .inl fun j => nI (M 18 j))
  | 19 => .inl (cZ, 400, .inl fun j => nI (M 19 j))
  | 20 => .inl (cZ, 400, .inl fun j => nI (M 20 j))
  | 21 => .inl (cI, 400, .inl fun j => nI (M 21 j))
  | 22 => .inl (cB, 400, .inr (.inr (.inr (.inr (fun j => some (ad 23 j))))))
  | 23 => .inl (cZ, 400, .inl fun j => nI (B 23 i j))
  | 24 => .inl (cZ, 400, .inl fun j => nI (M 24 j))
  | 25 => .inl (cI, 400, .inl fun j => nI (M 25 j))
  | k => μ k i
/-- the cells of which there is one each, and the rows of the two grids -/
def mo_ok (ok : Nat → Nat → Prop) : Prop := (∀ k, 11 ≤ k → k < 26 → k ≠ 17 → k ≠ 23 → ok k 0) ∧ (∀ i, i < 400 → ok 17 i ∧ ok 23 i) ∧ ∀ k i, ok k i → 11 ≤ k → k < 26 → k ≠ 17 → k ≠ 23 → i = 0
theorem mo_upd (f : Nat → Nat) (x v : Nat) : upd (fun j => nI (f j)) x (nI v) = fun j => nI (va_up f x v j) := by
  funext j
  unfold upd va_up
  by_cases h : j = x
  · rw [if_pos h, if_pos h]
  · rw [if_neg h, if_neg h]
section MOW
variable {ad : Nat → Nat → Nat} {cI cZ cA cB : ClassId} {M : Nat → Nat → Nat} {B : Nat → Nat → Nat → Nat} {μ : Nat → Nat → va_E} {ok : Nat → Nat → Prop}
theorem mo_w_12 (hO : mo_ok ok) (x v : Nat) : ∀ k i, ok k i → tg_up (mo_w ad cI cZ cA cB M B μ) 12 0 (.inl (cZ, 400, .inl (upd (fun j => nI (M 12 j)) x (nI v)))) k i = mo_w ad cI cZ cA cB (tg_up M 12 x v) B μ k i := by
  intro k i ho
  by_cases hk : k = 12
  · subst hk
    have hi := hO.2.2 12 i ho (by decide) (by decide) (by decide) (by decide)
    subst hi
    rw [tg_up_self, mo_upd]
    show Sum.inl _ = Sum.inl _
    congr 4
    funext j
    rw [hg_colA]
  · rw [tg_up_ne _ _ (fun z => hk z.1)]
    unfold mo_w
    split <;> first | rfl | (simp [tg_up]; done) | exact absurd rfl hk
theorem mo_w_13 (hO : mo_ok ok) (x v : Nat) : ∀ k i, ok k i → tg_up (mo_w ad cI cZ cA cB M B μ) 13 0 (.inl (cI, 400, .inl (upd (fun j => nI (M 13 j)) x (nI v)))) k i = mo_w ad cI cZ cA cB (tg_up M 13 x v) B μ k i := by
  intro k i ho
  by_cases hk : k = 13
  · subst hk
    have hi := hO.2.2 13 i ho (by decide) (by decide) (by decide) (by decide)
    subst hi
    rw [tg_up_self, mo_upd]
    show Sum.inl _ = Sum.inl _
    congr 4
    funext j
    rw [hg_colA]
  · rw [tg_up_ne _ _ (fun z => hk z.1)]
    unfold mo_w
    split <;> first | rfl | (simp [tg_up]; done) | exact absurd rfl hk
theorem mo_w_14 (hO : mo_ok ok) (x v : Nat) : ∀ k i, ok k i → tg_up (mo_w ad cI cZ cA cB M B μ) 14 0 (.inl (cI, 400, .inl (upd (fun j => nI (M 14 j)) x (nI v)))) k i = mo_w ad cI cZ cA cB (tg_up M 14 x v) B μ k i := by
  intro k i ho
  by_cases hk : k = 14
  · subst hk
    have hi := hO.2.2 14 i ho (by decide) (by decide) (by decide) (by decide)
    subst hi
    rw [tg_up_self, mo_upd]
    show Sum.inl _ = Sum.inl _
    congr 4
    funext j
    rw [hg_colA]
  · rw [tg_up_ne _ _ (fun z => hk z.1)]
    unfold mo_w
    split <;> first | rfl | (simp [tg_up]; done) | exact absurd rfl hk
theorem mo_w_15 (hO : mo_ok ok) (x v : Nat) : ∀ k i, ok k i → tg_up (mo_w ad cI cZ cA cB M B μ) 15 0 (.inl (cI, 400, .inl (upd (fun j => nI (M 15 j)) x (nI v)))) k i = mo_w ad cI cZ cA cB (tg_up M 15 x v) B μ k i := by
  intro k i ho
  by_cases hk : k = 15
  · subst hk
    have hi := hO.2.2 15 i ho (by decide) (by decide) (by decide) (by decide)
    subst hi
    rw [tg_up_self, mo_upd]
    show Sum.inl _ = Sum.inl _
    congr 4
    funext j
    rw [hg_colA]
  · rw [tg_up_ne _ _ (fun z => hk z.1)]
    unfold mo_w
    split <;> first | rfl | (simp [tg_up]; done) | exact absurd rfl hk
theorem mo_w_18 (hO : mo_ok ok) (x v : Nat) : ∀ k i, ok k i → tg_up (mo_w ad cI cZ cA cB M B μ) 18 0 (.inl (cZ, 400, .inl (upd (fun j => nI (M 18 j)) x (nI v)))) k i = mo_w ad cI cZ cA cB (tg_up M 18 x v) B μ k i := by
  intro k i ho
  by_cases hk : k = 18
  · subst hk
    have hi := hO.2.2 18 i ho (by decide) (by decide) (by decide) (by decide)
    subst hi
    rw [tg_up_self, mo_upd]
    show Sum.inl _ = Sum.inl _
    congr 4
    funext j
    rw [hg_colA]
  · rw [tg_up_ne _ _ (fun z => hk z.1)]
    unfold mo_w
    split <;> first | rfl | (simp [tg_up]; done) | exact absurd rfl hk
theorem mo_w_19 (hO : mo_ok ok) (x v : Nat) : ∀ k i, ok k i → tg_up (mo_w ad cI cZ cA cB M B μ) 19 0 (.inl (cZ, 400, .inl (upd (fun j => nI (M 19 j)) x (nI v)))) k i = mo_w ad cI cZ cA cB (tg_up M 19 x v) B μ k i := by
  intro k i ho
  by_cases hk : k = 19
  · subst hk
    have hi := hO.2.2 19 i ho (by decide) (by decide) (by decide) (by decide)
    subst hi
    rw [tg_up_self, mo_upd]
    show Sum.inl _ = Sum.inl _
    congr 4
    funext j
    rw [hg_colA]
  · rw [tg_up_ne _ _ (fun z => hk z.1)]
    unfold mo_w
    split <;> first | rfl | (simp [tg_up]; done) | exact absurd rfl hk
theorem mo_w_20 (hO : mo_ok ok) (x v : Nat) : ∀ k i, ok k i → tg_up (mo_w ad cI cZ cA cB M B μ) 20 0 (.inl (cZ, 400, .inl (upd (fun j => nI (M 20 j)) x (nI v)))) k i = mo_w ad cI cZ cA cB (tg_up M 20 x v) B μ k i := by
  intro k i ho
  by_cases hk : k = 20
  · subst hk
    have hi := hO.2.2 20 i ho (by decide) (by decide) (by decide) (by decide)
    subst hi
    rw [tg_up_self, mo_upd]
    show Sum.inl _ = Sum.inl _
    congr 4
    funext j
    rw [hg_colA]
  · rw [tg_up_ne _ _ (fun z => hk z.1)]
    unfold mo_w
    split <;> first | rfl | (simp [tg_up]; done) | exact absurd rfl hk
theorem mo_w_21 (hO : mo_ok ok) (x v : Nat) : ∀ k i, ok k i → tg_up (mo_w ad cI cZ cA cB M B μ) 21 0 (.inl (cI, 400, .inl (upd (fun j => nI (M 21 j)) x (nI v)))) k i = mo_w ad cI cZ cA cB (tg_up M 21 x v) B μ k i := by
  intro k i ho
  by_cases hk : k = 21
  · subst hk
    have hi := hO.2.2 21 i ho (by decide) (by decide) (by decide) (by decide)
    subst hi
    rw [tg_up_self, mo_upd]
    show Sum.inl _ = Sum.inl _
    congr 4
    funext j
    rw [hg_colA]
  · rw [tg_up_ne _ _ (fun z => hk z.1)]
    unfold mo_w
    split <;> first | rfl | (simp [tg_up]; done) | exact absurd rfl hk
theorem mo_w_24 (hO : mo_ok ok) (x v : Nat) : ∀ k i, ok k i → tg_up (mo_w ad cI cZ cA cB M B μ) 24 0 (.inl (cZ, 400, .inl (upd (fun j => nI (M 24 j)) x (nI v)))) k i = mo_w ad cI cZ cA cB (tg_up M 24 x v) B μ k i := by
  intro k i ho
  by_cases hk : k = 24
  · subst hk
    have hi := hO.2.2 24 i ho (by decide) (by decide) (by decide) (by decide)
    subst hi
    rw [tg_up_self, mo_upd]
    show Sum.inl _ = Sum.inl _
    congr 4
    funext j
    rw [hg_colA]
  · rw [tg_up_ne _ _ (fun z => hk z.1)]
    unfold mo_w
    split <;> first | rfl | (simp [tg_up]; done) | exact absurd rfl hk
theorem mo_w_25 (hO : mo_ok ok) (x v : Nat) : ∀ k i, ok k i → tg_up (mo_w ad cI cZ cA cB M B μ) 25 0 (.inl (cI, 400, .inl (upd (fun j => nI (M 25 j)) x (nI v)))) k i = mo_w ad cI cZ cA cB (tg_up M 25 x v) B μ k i := by
  intro k i ho
  by_cases hk : k = 25
  · subst hk
    have hi := hO.2.2 25 i ho (by decide) (by decide) (by decide) (by decide)
    subst hi
    rw [tg_up_self, mo_upd]
    show Sum.inl _ = Sum.inl _
    congr 4
    funext j
    rw [hg_colA]
  · rw [tg_up_ne _ _ (fun z => hk z.1)]
    unfold mo_w
    split <;> first | rfl | (simp [tg_up]; done) | exact absurd rfl hk
theorem mo_w_11 (hO : mo_ok ok) (v : Nat) : ∀ k i, ok k i → tg_up (mo_w ad cI cZ cA cB M B μ) 11 0 (.inr (3, ([.int (nI (M 11 0)), .ref (ad 12 0), .ref (ad 13 0), .ref (ad 14 0), .ref (ad 15 0), .ref (ad 16 0), .ref (ad 18 0), .ref (ad 19 0), .ref (ad 20 0), .ref (ad 21 0), .ref (ad 22 0), .ref (ad 24 0), .ref (ad 25 0)] : List Value).set 0 (.int (nI v)))) k i = mo_w ad cI cZ cA cB (tg_up M 11 0 v) B μ k i := by
  intro k i ho
  by_cases hk : k = 11
  · subst hk
    have hi := hO.2.2 11 i ho (by decide) (by decide) (by decide) (by decide)
    subst hi
    rw [tg_up_self]
    simp [mo_w, tg_up]
  · rw [tg_up_ne _ _ (fun z => hk z.1)]
    unfold mo_w
    split <;> first | rfl | (simp [tg_up]; done) | exact absurd rfl hk
theorem mo_w_17 (u x v : Nat) : tg_up (mo_w ad cI cZ cA cB M B μ) 17 u (.inl (cI, 80, .inl (upd (fun j => nI (B 17 u j)) x (nI v)))) = mo_w ad cI cZ cA cB M (tg_up B 17 u (va_up (B 17 u) x v)) μ := by
  funext k i
  by_cases h : k = 17 ∧ i = u
  · obtain ⟨rfl, rfl⟩ := h
    rw [tg_up_self, mo_upd]
    show Sum.inl _ = Sum.inl _
    congr 4
    funext j
    rw [tg_up_self]
  · rw [tg_up_ne _ _ h]
    by_cases hk : k = 17
    · subst hk
      have hi : i ≠ u := fun z => h ⟨rfl, z⟩
      show Sum.inl _ = Sum.inl _
      congr 4
      funext j
      rw [tg_up_ne _ _ (fun z => hi z.2)]
    · unfold mo_w
      split <;> first | rfl | (simp [tg_up]; done) | exact absurd rfl hk
theorem mo_w_23 (u x v : Nat) : tg_up (mo_w ad cI cZ cA cB M B μ) 23 u (.inl (cZ, 400, .inl (upd (fun j => nI (B 23 u j)) x (nI v)))) = mo_w ad cI cZ cA cB M (tg_up B 23 u (va_up (B 23 u) x v)) μ := by
  funext k i
  by_cases h : k = 23 ∧ i = u
  · obtain ⟨rfl, rfl⟩ := h
    rw [tg_up_self, mo_upd]
    show Sum.inl _ = Sum.inl _
    congr 4
    funext j
    rw [tg_up_self]
  · rw [tg_up_ne _ _ h]
    by_cases hk : k = 23
    · subst hk
      have hi : i ≠ u := fun z => h ⟨rfl, z⟩
      show Sum.inl _ = Sum.inl _
      congr 4
      funext j
      rw [tg_up_ne _ _ (fun z => hi z.2)]
    · unfold mo_w
      split <;> first | rfl | (simp [tg_up]; done) | exact absurd rfl hk
end MOW
