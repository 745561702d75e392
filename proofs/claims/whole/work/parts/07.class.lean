/-! the class's cells by kind: 0 the graph, 1 over, 2 dirtyRows, 3 the sweep, 4 live, 5 hits, 6 path, 7 open, 8 a formula by its first cell, 9 its spoken rows; the rest is μ's. G: the counts; N: a formula's numbers by field and first cell; bc: its columns -/
def hg_w (ad : Nat → Nat → Nat) (cF cI : ClassId) (G : Nat → Nat) (a : Nat → Nat → Option Nat) (dr : Nat → Int32) (N : Nat → Nat → Nat) (bc : Nat → Int32) (sp : Nat → Nat → Int32) (μ : Nat → Nat → va_E) (k i : Nat) : va_E := match k with
  | 0 => .inr (0, [.ref (ad 1 0), .ref (ad 2 0), .ref (ad 3 0), .int (nI (G 0))])
  | 1 => .inl (cF, 400, .inr (.inr (.inr (.inr (a 0)))))
  | 2 => .inl (cI, 20, .inl dr)
  | 3 => .inr (2, [.ref (ad 4 0), .int (nI (G 1)), .ref (ad 5 0), .int (nI (G 2)), .ref (ad 6 0), .int (nI (G 3)), .ref (ad 7 0), .int (nI (G 4)), .int (nI (G 5))])
  | 4 => .inl (cF, 400, .inr (.inr (.inr (.inr (a 1)))))
  | 5 => .inl (cF, 400, .inr (.inr (.inr (.inr (a 2)))))
  | 6 => .inl (cF, 400, .inr (.inr (.inr (.inr (a 3)))))
  | 7 => .inl (cF, 400, .inr (.inr (.inr (.inr (a 4)))))
  | 8 => .inr (1, [.int (nI (N 0 i)), .int (nI (N 1 i)), .int (nI (N 2 i)), .int (nI (N 3 i)), .int (nI (N 4 i)), .int (bc i), .ref (ad 9 i), .int (nI (N 7 i)), .int (nI (N 8 i)), .int (nI (N 9 i)), .int (nI (N 10 i)), .int (nI (N 11 i)), .int (nI (N 12 i)), .int (nI (N 13 i)), .int (nI (N 14 i))])
  | 9 => .inl (cI, 20, .inl (sp i))
  | k => μ k i
/-- the cells of which there is one each -/
def hg_ok (ok : Nat → Nat → Prop) : Prop := (∀ k, k < 8 → ok k 0) ∧ ∀ k i, ok k i → k < 8 → i = 0
section HGW
variable {ad : Nat → Nat → Nat} {cF cI : ClassId} {G : Nat → Nat} {a : Nat → Nat → Option Nat} {dr : Nat → Int32} {N : Nat → Nat → Nat} {bc : Nat → Int32} {sp : Nat → Nat → Int32} {μ : Nat → Nat → va_E}
theorem hg_w_N0 (u v : Nat) : tg_up (hg_w ad cF cI G a dr N bc sp μ) 8 u (.inr (1, ([.int (nI (N 0 u)), .int (nI (N 1 u)), .int (nI (N 2 u)), .int (nI (N 3 u)), .int (nI (N 4 u)), .int (bc u), .ref (ad 9 u), .int (nI (N 7 u)), .int (nI (N 8 u)), .int (nI (N 9 u)), .int (nI (N 10 u)), .int (nI (N 11 u)), .int (nI (N 12 u)), .int (nI (N 13 u)), .int (nI (N 14 u))] : List Value).set 0 (.int (nI v)))) = hg_w ad cF cI G a dr (tg_up N 0 u v) bc sp μ := by
  funext k i
  by_cases h : k = 8 ∧ i = u
  · obtain ⟨rfl, rfl⟩ := h
    rw [tg_up_self]
    simp [hg_w, tg_up]
  · rw [tg_up_ne _ _ h]
    by_cases hk : k = 8
    · subst hk
      have hi : i ≠ u := fun z => h ⟨rfl, z⟩
      simp [hg_w, tg_up, hi]
    · unfold hg_w
      split <;> first | rfl | exact absurd rfl hk
theorem hg_w_N1 (u v : Nat) : tg_up (hg_w ad cF cI G a dr N bc sp μ) 8 u (.inr (1, ([.int (nI (N 0 u)), .int (nI (N 1 u)), .int (nI (N 2 u)), .int (nI (N 3 u)), .int (nI (N 4 u)), .int (bc u), .ref (ad 9 u), .int (nI (N 7 u)), .int (nI (N 8 u)), .int (nI (N 9 u)), .int (nI (N 10 u)), .int (nI (N 11 u)), .int (nI (N 12 u)), .int (nI (N 13 u)), .int (nI (N 14 u))] : List Value).set 1 (.int (nI v)))) = hg_w ad cF cI G a dr (tg_up N 1 u v) bc sp μ := by
  funext k i
  by_cases h : k = 8 ∧ i = u
  · obtain ⟨rfl, rfl⟩ := h
    rw [tg_up_self]
    simp [hg_w, tg_up]
  · rw [tg_up_ne _ _ h]
    by_cases hk : k = 8
    · subst hk
      have hi : i ≠ u := fun z => h ⟨rfl, z⟩
      simp [hg_w, tg_up, hi]
    · unfold hg_w
      split <;> first | rfl | exact absurd rfl hk
theorem hg_w_N2 (u v : Nat) : tg_up (hg_w ad cF cI G a dr N bc sp μ) 8 u (.inr (1, ([.int (nI (N 0 u)), .int (nI (N 1 u)), .int (nI (N 2 u)), .int (nI (N 3 u)), .int (nI (N 4 u)), .int (bc u), .ref (ad 9 u), .int (nI (N 7 u)), .int (nI (N 8 u)), .int (nI (N 9 u)), .int (nI (N 10 u)), .int (nI (N 11 u)), .int (nI (N 12 u)), .int (nI (N 13 u)), .int (nI (N 14 u))] : List Value).set 2 (.int (nI v)))) = hg_w ad cF cI G a dr (tg_up N 2 u v) bc sp μ := by
  funext k i
  by_cases h : k = 8 ∧ i = u
  · obtain ⟨rfl, rfl⟩ := h
    rw [tg_up_self]
    simp [hg_w, tg_up]
  · rw [tg_up_ne _ _ h]
    by_cases hk : k = 8
    · subst hk
      have hi : i ≠ u := fun z => h ⟨rfl, z⟩
      simp [hg_w, tg_up, hi]
    · unfold hg_w
      split <;> first | rfl | exact absurd rfl hk
theorem hg_w_N3 (u v : Nat) : tg_up (hg_w ad cF cI G a dr N bc sp μ) 8 u (.inr (1, ([.int (nI (N 0 u)), .int (nI (N 1 u)), .int (nI (N 2 u)), .int (nI (N 3 u)), .int (nI (N 4 u)), .int (bc u), .ref (ad 9 u), .int (nI (N 7 u)), .int (nI (N 8 u)), .int (nI (N 9 u)), .int (nI (N 10 u)), .int (nI (N 11 u)), .int (nI (N 12 u)), .int (nI (N 13 u)), .int (nI (N 14 u))] : List Value).set 3 (.int (nI v)))) = hg_w ad cF cI G a dr (tg_up N 3 u v) bc sp μ := by
  funext k i
  by_cases h : k = 8 ∧ i = u
  · obtain ⟨rfl, rfl⟩ := h
    rw [tg_up_self]
    simp [hg_w, tg_up]
  · rw [tg_up_ne _ _ h]
    by_cases hk : k = 8
    · subst hk
      have hi : i ≠ u := fun z => h ⟨rfl, z⟩
      simp [hg_w, tg_up, hi]
    · unfold hg_w
      split <;> first | rfl | exact absurd rfl hk
theorem hg_w_N4 (u v : Nat) : tg_up (hg_w ad cF cI G a dr N bc sp μ) 8 u (.inr (1, ([.int (nI (N 0 u)), .int (nI (N 1 u)), .int (nI (N 2 u)), .int (nI (N 3 u)), .int (nI (N 4 u)), .int (bc u), .ref (ad 9 u), .int (nI (N 7 u)), .int (nI (N 8 u)), .int (nI (N 9 u)), .int (nI (N 10 u)), .int (nI (N 11 u)), .int (nI (N 12 u)), .int (nI (N 13 u)), .int (nI (N 14 u))] : List Value).set 4 (.int (nI v)))) = hg_w ad cF cI G a dr (tg_up N 4 u v) bc sp μ := by
  funext k i
  by_cases h : k = 8 ∧ i = u
  · obtain ⟨rfl, rfl⟩ := h
    rw [tg_up_self]
    simp [hg_w, tg_up]
  · rw [tg_up_ne _ _ h]
    by_cases hk : k = 8
    · subst hk
      have hi : i ≠ u := fun z => h ⟨rfl, z⟩
      simp [hg_w, tg_up, hi]
    · unfold hg_w
      split <;> first | rfl | exact absurd rfl hk
theorem hg_w_N7 (u v : Nat) : tg_up (hg_w ad cF cI G a dr N bc sp μ) 8 u (.inr (1, ([.int (nI (N 0 u)), .int (nI (N 1 u)), .int (nI (N 2 u)), .int (nI (N 3 u)), .int (nI (N 4 u)), .int (bc u), .ref (ad 9 u), .int (nI (N 7 u)), .int (nI (N 8 u)), .int (nI (N 9 u)), .int (nI (N 10 u)), .int (nI (N 11 u)), .int (nI (N 12 u)), .int (nI (N 13 u)), .int (nI (N 14 u))] : List Value).set 7 (.int (nI v)))) = hg_w ad cF cI G a dr (tg_up N 7 u v) bc sp μ := by
  funext k i
  by_cases h : k = 8 ∧ i = u
  · obtain ⟨rfl, rfl⟩ := h
    rw [tg_up_self]
    simp [hg_w, tg_up]
  · rw [tg_up_ne _ _ h]
    by_cases hk : k = 8
    · subst hk
      have hi : i ≠ u := fun z => h ⟨rfl, z⟩
      simp [hg_w, tg_up, hi]
    · unfold hg_w
      split <;> first | rfl | exact absurd rfl hk
theorem hg_w_N8 (u v : Nat) : tg_up (hg_w ad cF cI G a dr N bc sp μ) 8 u (.inr (1, ([.int (nI (N 0 u)), .int (nI (N 1 u)), .int (nI (N 2 u)), .int (nI (N 3 u)), .int (nI (N 4 u)), .int (bc u), .ref (ad 9 u), .int (nI (N 7 u)), .int (nI (N 8 u)), .int (nI (N 9 u)), .int (nI (N 10 u)), .int (nI (N 11 u)), .int (nI (N 12 u)), .int (nI (N 13 u)), .int (nI (N 14 u))] : List Value).set 8 (.int (nI v)))) = hg_w ad cF cI G a dr (tg_up N 8 u v) bc sp μ := by
  funext k i
  by_cases h : k = 8 ∧ i = u
  · obtain ⟨rfl, rfl⟩ := h
    rw [tg_up_self]
    simp [hg_w, tg_up]
  · rw [tg_up_ne _ _ h]
    by_cases hk : k = 8
    · subst hk
      have hi : i ≠ u := fun z => h ⟨rfl, z⟩
      simp [hg_w, tg_up, hi]
    · unfold hg_w
      split <;> first | rfl | exact absurd rfl hk
theorem hg_w_N9 (u v : Nat) : tg_up (hg_w ad cF cI G a dr N bc sp μ) 8 u (.inr (1, ([.int (nI (N 0 u)), .int (nI (N 1 u)), .int (nI (N 2 u)), .int (nI (N 3 u)), .int (nI (N 4 u)), .int (bc u), .ref (ad 9 u), .int (nI (N 7 u)), .int (nI (N 8 u)), .int (nI (N 9 u)), .int (nI (N 10 u)), .int (nI (N 11 u)), .int (nI (N 12 u)), .int (nI (N 13 u)), .int (nI (N 14 u))] : List Value).set 9 (.int (nI v)))) = hg_w ad cF cI G a dr (tg_up N 9 u v) bc sp μ := by
  funext k i
  by_cases h : k = 8 ∧ i = u
  · obtain ⟨rfl, rfl⟩ := h
    rw [tg_up_self]
    simp [hg_w, tg_up]
  · rw [tg_up_ne _ _ h]
    by_cases hk : k = 8
    · subst hk
      have hi : i ≠ u := fun z => h ⟨rfl, z⟩
      simp [hg_w, tg_up, hi]
    · unfold hg_w
      split <;> first | rfl | exact absurd rfl hk
theorem hg_w_N10 (u v : Nat) : tg_up (hg_w ad cF cI G a dr N bc sp μ) 8 u (.inr (1, ([.int (nI (N 0 u)), .int (nI (N 1 u)), .int (nI (N 2 u)), .int (nI (N 3 u)), .int (nI (N 4 u)), .int (bc u), .ref (ad 9 u), .int (nI (N 7 u)), .int (nI (N 8 u)), .int (nI (N 9 u)), .int (nI (N 10 u)), .int (nI (N 11 u)), .int (nI (N 12 u)), .int (nI (N 13 u)), .int (nI (N 14 u))] : List Value).set 10 (.int (nI v)))) = hg_w ad cF cI G a dr (tg_up N 10 u v) bc sp μ := by
  funext k i
  by_cases h : k = 8 ∧ i = u
  · obtain ⟨rfl, rfl⟩ := h
    rw [tg_up_self]
    simp [hg_w, tg_up]
  · rw [tg_up_ne _ _ h]
    by_cases hk : k = 8
    · subst hk
      have hi : i ≠ u := fun z => h ⟨rfl, z⟩
      simp [hg_w, tg_up, hi]
    · unfold hg_w
      split <;> first | rfl | exact absurd rfl hk
theorem hg_w_N11 (u v : Nat) : tg_up (hg_w ad cF cI G a dr N bc sp μ) 8 u (.inr (1, ([.int (nI (N 0 u)), .int (nI (N 1 u)), .int (nI (N 2 u)), .int (nI (N 3 u)), .int (nI (N 4 u)), .int (bc u), .ref (ad 9 u), .int (nI (N 7 u)), .int (nI (N 8 u)), .int (nI (N 9 u)), .int (nI (N 10 u)), .int (nI (N 11 u)), .int (nI (N 12 u)), .int (nI (N 13 u)), .int (nI (N 14 u))] : List Value).set 11 (.int (nI v)))) = hg_w ad cF cI G a dr (tg_up N 11 u v) bc sp μ := by
  funext k i
  by_cases h : k = 8 ∧ i = u
  · obtain ⟨rfl, rfl⟩ := h
    rw [tg_up_self]
    simp [hg_w, tg_up]
  · rw [tg_up_ne _ _ h]
    by_cases hk : k = 8
    · subst hk
      have hi : i ≠ u := fun z => h ⟨rfl, z⟩
      simp [hg_w, tg_up, hi]
    · unfold hg_w
      split <;> first | rfl | exact absurd rfl hk
theorem hg_w_N12 (u v : Nat) : tg_up (hg_w ad cF cI G a dr N bc sp μ) 8 u (.inr (1, ([.int (nI (N 0 u)), .int (nI (N 1 u)), .int (nI (N 2 u)), .int (nI (N 3 u)), .int (nI (N 4 u)), .int (bc u), .ref (ad 9 u), .int (nI (N 7 u)), .int (nI (N 8 u)), .int (nI (N 9 u)), .int (nI (N 10 u)), .int (nI (N 11 u)), .int (nI (N 12 u)), .int (nI (N 13 u)), .int (nI (N 14 u))] : List Value).set 12 (.int (nI v)))) = hg_w ad cF cI G a dr (tg_up N 12 u v) bc sp μ := by
  funext k i
  by_cases h : k = 8 ∧ i = u
  · obtain ⟨rfl, rfl⟩ := h
    rw [tg_up_self]
    simp [hg_w, tg_up]
  · rw [tg_up_ne _ _ h]
    by_cases hk : k = 8
    · subst hk
      have hi : i ≠ u := fun z => h ⟨rfl, z⟩
      simp [hg_w, tg_up, hi]
    · unfold hg_w
      split <;> first | rfl | exact absurd rfl hk
theorem hg_w_N13 (u v : Nat) : tg_up (hg_w ad cF cI G a dr N bc sp μ) 8 u (.inr (1, ([.int (nI (N 0 u)), .int (nI (N 1 u)), .int (nI (N 2 u)), .int (nI (N 3 u)), .int (nI (N 4 u)), .int (bc u), .ref (ad 9 u), .int (nI (N 7 u)), .int (nI (N 8 u)), .int (nI (N 9 u)), .int (nI (N 10 u)), .int (nI (N 11 u)), .int (nI (N 12 u)), .int (nI (N 13 u)), .int (nI (N 14 u))] : List Value).set 13 (.int (nI v)))) = hg_w ad cF cI G a dr (tg_up N 13 u v) bc sp μ := by
  funext k i
  by_cases h : k = 8 ∧ i = u
  · obtain ⟨rfl, rfl⟩ := h
    rw [tg_up_self]
    simp [hg_w, tg_up]
  · rw [tg_up_ne _ _ h]
    by_cases hk : k = 8
    · subst hk
      have hi : i ≠ u := fun z => h ⟨rfl, z⟩
      simp [hg_w, tg_up, hi]
    · unfold hg_w
      split <;> first | rfl | exact absurd rfl hk
theorem hg_w_N14 (u v : Nat) : tg_up (hg_w ad cF cI G a dr N bc sp μ) 8 u (.inr (1, ([.int (nI (N 0 u)), .int (nI (N 1 u)), .int (nI (N 2 u)), .int (nI (N 3 u)), .int (nI (N 4 u)), .int (bc u), .ref (ad 9 u), .int (nI (N 7 u)), .int (nI (N 8 u)), .int (nI (N 9 u)), .int (nI (N 10 u)), .int (nI (N 11 u)), .int (nI (N 12 u)), .int (nI (N 13 u)), .int (nI (N 14 u))] : List Value).set 14 (.int (nI v)))) = hg_w ad cF cI G a dr (tg_up N 14 u v) bc sp μ := by
  funext k i
  by_cases h : k = 8 ∧ i = u
  · obtain ⟨rfl, rfl⟩ := h
    rw [tg_up_self]
    simp [hg_w, tg_up]
  · rw [tg_up_ne _ _ h]
    by_cases hk : k = 8
    · subst hk
      have hi : i ≠ u := fun z => h ⟨rfl, z⟩
      simp [hg_w, tg_up, hi]
    · unfold hg_w
      split <;> first | rfl | exact absurd rfl hk
theorem hg_w_G0 {ok : Nat → Nat → Prop} (hO : hg_ok ok) (v : Nat) : ∀ k i, ok k i → tg_up (hg_w ad cF cI G a dr N bc sp μ) 0 0 (.inr (0, ([.ref (ad 1 0), .ref (ad 2 0), .ref (ad 3 0), .int (nI (G 0))] : List Value).set 3 (.int (nI v)))) k i = hg_w ad cF cI (va_up G 0 v) a dr N bc sp μ k i := by
  intro k i ho
  by_cases hk : k = 0
  · subst hk
    have hi := hO.2 0 i ho (by decide)
    subst hi
    rw [tg_up_self]
    simp [hg_w, va_up]
  · rw [tg_up_ne _ _ (fun z => hk z.1)]
    unfold hg_w
    split <;> first | rfl | (simp [va_up]; done) | exact absurd rfl hk
theorem hg_w_G1 {ok : Nat → Nat → Prop} (hO : hg_ok ok) (v : Nat) : ∀ k i, ok k i → tg_up (hg_w ad cF cI G a dr N bc sp μ) 3 0 (.inr (2, ([.ref (ad 4 0), .int (nI (G 1)), .ref (ad 5 0), .int (nI (G 2)), .ref (ad 6 0), .int (nI (G 3)), .ref (ad 7 0), .int (nI (G 4)), .int (nI (G 5))] : List Value).set 1 (.int (nI v)))) k i = hg_w ad cF cI (va_up G 1 v) a dr N bc sp μ k i := by
  intro k i ho
  by_cases hk : k = 3
  · subst hk
    have hi := hO.2 3 i ho (by decide)
    subst hi
    rw [tg_up_self]
    simp [hg_w, va_up]
  · rw [tg_up_ne _ _ (fun z => hk z.1)]
    unfold hg_w
    split <;> first | rfl | (simp [va_up]; done) | exact absurd rfl hk
theorem hg_w_G2 {ok : Nat → Nat → Prop} (hO : hg_ok ok) (v : Nat) : ∀ k i, ok k i → tg_up (hg_w ad cF cI G a dr N bc sp μ) 3 0 (.inr (2, ([.ref (ad 4 0), .int (nI (G 1)), .ref (ad 5 0), .int (nI (G 2)), .ref (ad 6 0), .int (nI (G 3)), .ref (ad 7 0), .int (nI (G 4)), .int (nI (G 5))] : List Value).set 3 (.int (nI v)))) k i = hg_w ad cF cI (va_up G 2 v) a dr N bc sp μ k i := by
  intro k i ho
  by_cases hk : k = 3
  · subst hk
    have hi := hO.2 3 i ho (by decide)
    subst hi
    rw [tg_up_self]
    simp [hg_w, va_up]
  · rw [tg_up_ne _ _ (fun z => hk z.1)]
    unfold hg_w
    split <;> first | rfl | (simp [va_up]; done) | exact absurd rfl hk
theorem hg_w_G3 {ok : Nat → Nat → Prop} (hO : hg_ok ok) (v : Nat) : ∀ k i, ok k i → tg_up (hg_w ad cF cI G a dr N bc sp μ) 3 0 (.inr (2, ([.ref (ad 4 0), .int (nI (G 1)), .ref (ad 5 0), .int (nI (G 2)), .ref (ad 6 0), .int (nI (G 3)), .ref (ad 7 0), .int (nI (G 4)), .int (nI (G 5))] : List Value).set 5 (.int (nI v)))) k i = hg_w ad cF cI (va_up G 3 v) a dr N bc sp μ k i := by
  intro k i ho
  by_cases hk : k = 3
  · subst hk
    have hi := hO.2 3 i ho (by decide)
    subst hi
    rw [tg_up_self]
    simp [hg_w, va_up]
  · rw [tg_up_ne _ _ (fun z => hk z.1)]
    unfold hg_w
    split <;> first | rfl | (simp [va_up]; done) | exact absurd rfl hk
theorem hg_w_G4 {ok : Nat → Nat → Prop} (hO : hg_ok ok) (v : Nat) : ∀ k i, ok k i → tg_up (hg_w ad cF cI G a dr N bc sp μ) 3 0 (.inr (2, ([.ref (ad 4 0), .int (nI (G 1)), .ref (ad 5 0), .int (nI (G 2)), .ref (ad 6 0), .int (nI (G 3)), .ref (ad 7 0), .int (nI (G 4)), .int (nI (G 5))] : List Value).set 7 (.int (nI v)))) k i = hg_w ad cF cI (va_up G 4 v) a dr N bc sp μ k i := by
  intro k i ho
  by_cases hk : k = 3
  · subst hk
    have hi := hO.2 3 i ho (by decide)
    subst hi
    rw [tg_up_self]
    simp [hg_w, va_up]
  · rw [tg_up_ne _ _ (fun z => hk z.1)]
    unfold hg_w
    split <;> first | rfl | (simp [va_up]; done) | exact absurd rfl hk
theorem hg_w_G5 {ok : Nat → Nat → Prop} (hO : hg_ok ok) (v : Nat) : ∀ k i, ok k i → tg_up (hg_w ad cF cI G a dr N bc sp μ) 3 0 (.inr (2, ([.ref (ad 4 0), .int (nI (G 1)), .ref (ad 5 0), .int (nI (G 2)), .ref (ad 6 0), .int (nI (G 3)), .ref (ad 7 0), .int (nI (G 4)), .int (nI (G 5))] : List Value).set 8 (.int (nI v)))) k i = hg_w ad cF cI (va_up G 5 v) a dr N bc sp μ k i := by
  intro k i ho
  by_cases hk : k = 3
  · subst hk
    have hi := hO.2 3 i ho (by decide)
    subst hi
    rw [tg_up_self]
    simp [hg_w, va_up]
  · rw [tg_up_ne _ _ (fun z => hk z.1)]
    unfold hg_w
    split <;> first | rfl | (simp [va_up]; done) | exact absurd rfl hk
theorem hg_w_a0 {ok : Nat → Nat → Prop} (hO : hg_ok ok) (x : Nat) (y : Option Nat) : ∀ k i, ok k i → tg_up (hg_w ad cF cI G a dr N bc sp μ) 1 0 (.inl (cF, 400, .inr (.inr (.inr (.inr (va_up (a 0) x y)))))) k i = hg_w ad cF cI G (va_up a 0 (va_up (a 0) x y)) dr N bc sp μ k i := by
  intro k i ho
  by_cases hk : k = 1
  · subst hk
    have hi := hO.2 1 i ho (by decide)
    subst hi
    rw [tg_up_self]
    simp [hg_w, va_up_self]
  · rw [tg_up_ne _ _ (fun z => hk z.1)]
    unfold hg_w
    split <;> first | rfl | (rw [va_up_ne _ _ (by decide)]; done) | exact absurd rfl hk
theorem hg_w_a1 {ok : Nat → Nat → Prop} (hO : hg_ok ok) (x : Nat) (y : Option Nat) : ∀ k i, ok k i → tg_up (hg_w ad cF cI G a dr N bc sp μ) 4 0 (.inl (cF, 400, .inr (.inr (.inr (.inr (va_up (a 1) x y)))))) k i = hg_w ad cF cI G (va_up a 1 (va_up (a 1) x y)) dr N bc sp μ k i := by
  intro k i ho
  by_cases hk : k = 4
  · subst hk
    have hi := hO.2 4 i ho (by decide)
    subst hi
    rw [tg_up_self]
    simp [hg_w, va_up_self]
  · rw [tg_up_ne _ _ (fun z => hk z.1)]
    unfold hg_w
    split <;> first | rfl | (rw [va_up_ne _ _ (by decide)]; done) | exact absurd rfl hk
theorem hg_w_a2 {ok : Nat → Nat → Prop} (hO : hg_ok ok) (x : Nat) (y : Option Nat) : ∀ k i, ok k i → tg_up (hg_w ad cF cI G a dr N bc sp μ) 5 0 (.inl (cF, 400, .inr (.inr (.inr (.inr (va_up (a 2) x y)))))) k i = hg_w ad cF cI G (va_up a 2 (va_up (a 2) x y)) dr N bc sp μ k i := by
  intro k i ho
  by_cases hk : k = 5
  · subst hk
    have hi := hO.2 5 i ho (by decide)
    subst hi
    rw [tg_up_self]
    simp [hg_w, va_up_self]
  · rw [tg_up_ne _ _ (fun z => hk z.1)]
    unfold hg_w
    split <;> first | rfl | (rw [va_up_ne _ _ (by decide)]; done) | exact absurd rfl hk
theorem hg_w_a3 {ok : Nat → Nat → Prop} (hO : hg_ok ok) (x : Nat) (y : Option Nat) : ∀ k i, ok k i → tg_up (hg_w ad cF cI G a dr N bc sp μ) 6 0 (.inl (cF, 400, .inr (.inr (.inr (.inr (va_up (a 3) x y)))))) k i = hg_w ad cF cI G (va_up a 3 (va_up (a 3) x y)) dr N bc sp μ k i := by
  intro k i ho
  by_cases hk : k = 6
  · subst hk
    have hi := hO.2 6 i ho (by decide)
    subst hi
    rw [tg_up_self]
    simp [hg_w, va_up_self]
  · rw [tg_up_ne _ _ (fun z => hk z.1)]
    unfold hg_w
    split <;> first | rfl | (rw [va_up_ne _ _ (by decide)]; done) | exact absurd rfl hk
theorem hg_w_a4 {ok : Nat → Nat → Prop} (hO : hg_ok ok) (x : Nat) (y : Option Nat) : ∀ k i, ok k i → tg_up (hg_w ad cF cI G a dr N bc sp μ) 7 0 (.inl (cF, 400, .inr (.inr (.inr (.inr (va_up (a 4) x y)))))) k i = hg_w ad cF cI G (va_up a 4 (va_up (a 4) x y)) dr N bc sp μ k i := by
  intro k i ho
  by_cases hk : k = 7
  · subst hk
    have hi := hO.2 7 i ho (by decide)
    subst hi
    rw [tg_up_self]
    simp [hg_w, va_up_self]
  · rw [tg_up_ne _ _ (fun z => hk z.1)]
    unfold hg_w
    split <;> first | rfl | (rw [va_up_ne _ _ (by decide)]; done) | exact absurd rfl hk
theorem hg_w_dr {ok : Nat → Nat → Prop} (hO : hg_ok ok) (x : Nat) (v : Int32) : ∀ k i, ok k i → tg_up (hg_w ad cF cI G a dr N bc sp μ) 2 0 (.inl (cI, 20, .inl (upd dr x v))) k i = hg_w ad cF cI G a (upd dr x v) N bc sp μ k i := by
  intro k i ho
  by_cases hk : k = 2
  · subst hk
    have hi := hO.2 2 i ho (by decide)
    subst hi
    rw [tg_up_self]
    rfl
  · rw [tg_up_ne _ _ (fun z => hk z.1)]
    unfold hg_w
    split <;> first | rfl | exact absurd rfl hk
theorem hg_w_sp (u x : Nat) (v : Int32) : tg_up (hg_w ad cF cI G a dr N bc sp μ) 9 u (.inl (cI, 20, .inl (upd (sp u) x v))) = hg_w ad cF cI G a dr N bc (va_up sp u (upd (sp u) x v)) μ := by
  funext k i
  by_cases h : k = 9 ∧ i = u
  · obtain ⟨rfl, rfl⟩ := h
    rw [tg_up_self]
    simp [hg_w, va_up_self]
  · rw [tg_up_ne _ _ h]
    by_cases hk : k = 9
    · subst hk
      have hi : i ≠ u := fun z => h ⟨rfl, z⟩
      simp [hg_w, va_up_ne _ _ hi]
    · unfold hg_w
      split <;> first | rfl | exact absurd rfl hk
end HGW
