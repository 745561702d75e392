/-! class and reference side by side -/
def lw_R (T : Nat → Prop) (ad : Nat → Nat → Nat) (G : Nat → Nat) (a : Nat → Nat → Option Nat) (dr : Nat → Int32) (N : Nat → Nat → Nat) (bc : Nat → Int32) (sp : Nat → Nat → Int32) (M : Nat → Nat → Nat) (B : Nat → Nat → Nat → Nat) : Prop :=
  (∀ f, T f ↔ f < 400 ∧ M 12 f ≠ 0) ∧
  (∀ f, T f → 1 ≤ M 13 f ∧ 1 ≤ M 14 f ∧ f / 20 + M 13 f ≤ 20 ∧ f % 20 + M 14 f ≤ 20) ∧
  (∀ u v k, u < 400 → v < 400 → mo_in M u k → mo_in M v k → u = v) ∧
  (∀ f, T f → N 0 f = f ∧ N 1 f = f / 20 ∧ N 2 f = f % 20 ∧ N 3 f = f / 20 + M 13 f - 1 ∧ N 4 f = f % 20 + M 14 f - 1 ∧ bc f = hg_cb (N 2 f) (N 4 f) ∧ N 7 f = M 15 f) ∧
  (∀ u, M 15 u ≤ 20) ∧
  (∀ f, T f → ∀ r, r < 20 → hg_row (sp f r) (fun q => mo_sp M B f (20 * r + q))) ∧
  (∀ r, r < 20 → hg_row (dr r) (fun q => M 18 (20 * r + q) ≠ 0)) ∧
  (∀ k, k < 400 → (∀ f, f < 400 → mo_in M f k → a 0 k = some (ad 8 f)) ∧ ((∀ f, f < 400 → ¬ mo_in M f k) → a 0 k = none)) ∧
  G 0 = hg_cn (fun f => M 12 f ≠ 0) 400 ∧
  (∀ f, T f → (N 8 f ≠ 0 ↔ M 19 f ≠ 0) ∧ (N 9 f ≠ 0 ↔ M 20 f ≠ 0) ∧ N 10 f = M 21 f) ∧
  ((∀ j u, N j u < 1000000) ∧ (∀ k, G k < 1000000) ∧ (∀ j u, M j u < 1000000) ∧ ∀ j u z, B j u z < 1000000) ∧
  ∀ u, ¬ T u → ∀ j, 8 ≤ j → j < 15 → j ≠ 12 → N j u = 0
def lw_O (T : Nat → Prop) (ok : Nat → Nat → Prop) : Prop := hg_ok ok ∧ mo_ok ok ∧ (∀ f, T f → ok 8 f ∧ ok 9 f) ∧ (∀ k i, ok k i → (k = 8 ∨ k = 9) → T i) ∧ ok 10 0
section LWR1
variable {T : Nat → Prop} {ad : Nat → Nat → Nat} {G : Nat → Nat} {a : Nat → Nat → Option Nat} {dr : Nat → Int32} {N : Nat → Nat → Nat} {bc : Nat → Int32} {sp : Nat → Nat → Int32} {M M' : Nat → Nat → Nat} {B : Nat → Nat → Nat → Nat}
theorem lw_R.self (h : lw_R T ad G a dr N bc sp M B) {f : Nat} (hf : T f) : mo_in M f f := by
  obtain ⟨r1, r2, r3, r4, r5, r6, r7, r8, r9, r10, r11, r12⟩ := h
  have := r2 f hf
  exact ⟨((r1 f).mp hf).2, Nat.le_refl _, by omega, Nat.le_refl _, by omega⟩
theorem lw_R.inT (h : lw_R T ad G a dr N bc sp M B) {f k : Nat} (hf : f < 400) (hk : mo_in M f k) : T f := (h.1 f).mpr ⟨hf, hk.1⟩
theorem lw_R.hov (h : lw_R T ad G a dr N bc sp M B) : ∀ c, c < 400 → a 0 c = none ∨ ∃ f, T f ∧ a 0 c = some (ad 8 f) := by
  intro c hc
  by_cases q : ∃ f, f < 400 ∧ mo_in M f c
  · obtain ⟨f, hf, hi⟩ := q
    exact Or.inr ⟨f, h.inT hf hi, (h.2.2.2.2.2.2.2.1 c hc).1 f hf hi⟩
  · exact Or.inl ((h.2.2.2.2.2.2.2.1 c hc).2 (fun f hf hi => q ⟨f, hf, hi⟩))
theorem lw_R.hself (h : lw_R T ad G a dr N bc sp M B) : ∀ f, T f → f < 400 ∧ a 0 f = some (ad 8 f) ∧ N 0 f = f := fun f hf =>
  have hl := ((h.1 f).mp hf).1
  ⟨hl, (h.2.2.2.2.2.2.2.1 f hl).1 f hl (h.self hf), (h.2.2.2.1 f hf).1⟩
theorem lw_R.dims (h : lw_R T ad G a dr N bc sp M B) {f : Nat} (hf : T f) : N 1 f ≤ N 3 f ∧ N 3 f < 20 ∧ N 2 f ≤ N 4 f ∧ N 4 f < 20 := by
  have h2 := h.2.1 f hf
  obtain ⟨-, q1, q2, q3, q4, -, -⟩ := h.2.2.2.1 f hf
  have hl := ((h.1 f).mp hf).1
  omega
theorem lw_R.un (h : lw_R T ad G a dr N bc sp M B) {k : Nat} (hk : k < 400) (hn : M 12 k = 0) : hg_un T ad a N k := by
  rcases h.hov k hk with z | ⟨f, hf, z⟩
  · exact Or.inl z
  · refine Or.inr ⟨f, hf, z, ?_⟩
    rw [(h.2.2.2.1 f hf).1]
    intro e
    subst e
    exact ((h.1 f).mp hf).2 hn
theorem lw_R.m0 (h : lw_R T ad G a dr N bc sp M B) (hM : ∀ j, j ≠ 11 → M' j = M j) (hb : ∀ j u, M' j u < 1000000) : lw_R T ad G a dr N bc sp M' B := by
  obtain ⟨r1, r2, r3, r4, r5, r6, r7, r8, r9, r10, r11, r12⟩ := h
  have e12 := hM 12 (by decide)
  have e13 := hM 13 (by decide)
  have e14 := hM 14 (by decide)
  have e15 := hM 15 (by decide)
  have e18 := hM 18 (by decide)
  have e19 := hM 19 (by decide)
  have e20 := hM 20 (by decide)
  have e21 := hM 21 (by decide)
  have i : ∀ f k, mo_in M' f k ↔ mo_in M f k := mo_in_e e12 e13 e14
  have p : ∀ f k, mo_sp M' B f k ↔ mo_sp M B f k := mo_sp_e e15 rfl
  exact ⟨fun f => by rw [e12]; exact r1 f, fun f hf => by rw [e13, e14]; exact r2 f hf, fun u v k hu hv z1 z2 => r3 u v k hu hv ((i _ _).mp z1) ((i _ _).mp z2), fun f hf => by rw [e13, e14, e15]; exact r4 f hf, fun u => by rw [e15]; exact r5 u, fun f hf r hr => hg_row_to (r6 f hf r hr) (fun q _ => (p _ _).symm), fun r hr => by rw [e18]; exact r7 r hr, fun k hk => ⟨fun f hf z => (r8 k hk).1 f hf ((i _ _).mp z), fun z => (r8 k hk).2 (fun f hf y => z f hf ((i _ _).mpr y))⟩, by rw [e12]; exact r9, fun f hf => by rw [e19, e20, e21]; exact r10 f hf, ⟨r11.1, r11.2.1, hb, r11.2.2.2⟩, r12⟩
theorem lw_R.touch (h : lw_R T ad G a dr N bc sp M B) {x y : Nat} (hx : x < 20) (hy : y < 20) : lw_R T ad G a (upd dr x ((dr x) ||| (hg_cb y y))) N bc sp (tg_up M 18 (20 * x + y) 1) B := by
  obtain ⟨r1, r2, r3, r4, r5, r6, r7, r8, r9, r10, r11, r12⟩ := h
  have hM : ∀ j, j ≠ 18 → (tg_up M 18 (20 * x + y) 1) j = M j := fun j hj => mo_col _ _ _ hj
  have i : ∀ f k, mo_in (tg_up M 18 (20 * x + y) 1) f k ↔ mo_in M f k := mo_in_e (hM 12 (by decide)) (hM 13 (by decide)) (hM 14 (by decide))
  have p : ∀ f k, mo_sp (tg_up M 18 (20 * x + y) 1) B f k ↔ mo_sp M B f k := mo_sp_e (hM 15 (by decide)) rfl
  refine ⟨fun f => by rw [hM 12 (by decide)]; exact r1 f, fun f hf => by rw [hM 13 (by decide), hM 14 (by decide)]; exact r2 f hf, fun u v k hu hv z1 z2 => r3 u v k hu hv ((i _ _).mp z1) ((i _ _).mp z2), fun f hf => by rw [hM 13 (by decide), hM 14 (by decide), hM 15 (by decide)]; exact r4 f hf, fun u => by rw [hM 15 (by decide)]; exact r5 u, fun f hf r hr => hg_row_to (r6 f hf r hr) (fun q _ => (p _ _).symm), fun r hr => ?_, fun k hk => ⟨fun f hf z => (r8 k hk).1 f hf ((i _ _).mp z), fun z => (r8 k hk).2 (fun f hf y => z f hf ((i _ _).mpr y))⟩, by rw [hM 12 (by decide)]; exact r9, fun f hf => by rw [hM 19 (by decide), hM 20 (by decide), hM 21 (by decide)]; exact r10 f hf, ⟨r11.1, r11.2.1, mo_b0 r11.2.2.1 (by decide), r11.2.2.2⟩, r12⟩
  rw [hg_colA]
  unfold upd
  by_cases e : r = x
  · subst e
    rw [if_pos rfl]
    refine hg_row_to (hg_row_or (r7 r hr) (hg_row_cb (Nat.le_refl y) hy)) (fun q _ => ?_)
    by_cases z : q = y
    · subst z
      rw [va_up_self]
      exact ⟨fun _ => by decide, fun _ => Or.inr ⟨Nat.le_refl _, Nat.le_refl _⟩⟩
    · rw [va_up_ne _ _ (by omega)]
      exact ⟨fun w => w.elim id (fun w => absurd (by omega) z), Or.inl⟩
  · rw [if_neg e]
    refine hg_row_to (r7 r hr) (fun q hq => ?_)
    rw [va_up_ne _ _ (by omega)]
theorem mo_sp_add {f k t0 l0 b0 r0 : Nat} {M' : Nat → Nat → Nat} {B' : Nat → Nat → Nat → Nat} (hM : M' 15 f = M 15 f + 1) (hB : B' 17 f = va_up (va_up (va_up (va_up (B 17 f) (4 * M 15 f) t0) (4 * M 15 f + 1) l0) (4 * M 15 f + 2) b0) (4 * M 15 f + 3) r0) : mo_sp M' B' f k ↔ mo_sp M B f k ∨ (t0 ≤ k / 20 ∧ k / 20 ≤ b0 ∧ l0 ≤ k % 20 ∧ k % 20 ≤ r0) := by
  have o : ∀ i, i < M 15 f → ∀ d, d < 4 → B' 17 f (4 * i + d) = B 17 f (4 * i + d) := fun i hi d hd => by
    rw [hB, va_up_ne _ _ (by omega), va_up_ne _ _ (by omega), va_up_ne _ _ (by omega), va_up_ne _ _ (by omega)]
  have n0 : B' 17 f (4 * M 15 f) = t0 := by rw [hB, va_up_ne _ _ (by omega), va_up_ne _ _ (by omega), va_up_ne _ _ (by omega), va_up_self]
  have n1 : B' 17 f (4 * M 15 f + 1) = l0 := by rw [hB, va_up_ne _ _ (by omega), va_up_ne _ _ (by omega), va_up_self]
  have n2 : B' 17 f (4 * M 15 f + 2) = b0 := by rw [hB, va_up_ne _ _ (by omega), va_up_self]
  have n3 : B' 17 f (4 * M 15 f + 3) = r0 := by rw [hB, va_up_self]
  constructor
  · intro ⟨i, hi, h1, h2, h3, h4⟩
    rw [hM] at hi
    by_cases e : i = M 15 f
    · subst e
      rw [n0] at h1
      rw [n2] at h2
      rw [n1] at h3
      rw [n3] at h4
      exact Or.inr ⟨h1, h2, h3, h4⟩
    · have hi2 : i < M 15 f := by omega
      have z0 := o i hi2 0 (by decide)
      rw [Nat.add_zero] at z0
      rw [z0] at h1
      rw [o i hi2 2 (by decide)] at h2
      rw [o i hi2 1 (by decide)] at h3
      rw [o i hi2 3 (by decide)] at h4
      exact Or.inl ⟨i, hi2, h1, h2, h3, h4⟩
  · intro z
    rcases z with ⟨i, hi, h1, h2, h3, h4⟩ | ⟨h1, h2, h3, h4⟩
    · have z0 := o i hi 0 (by decide)
      rw [Nat.add_zero] at z0
      exact ⟨i, by omega, by rw [z0]; exact h1, by rw [o i hi 2 (by decide)]; exact h2, by rw [o i hi 1 (by decide)]; exact h3, by rw [o i hi 3 (by decide)]; exact h4⟩
    · exact ⟨M 15 f, by omega, by rw [n0]; exact h1, by rw [n2]; exact h2, by rw [n1]; exact h3, by rw [n3]; exact h4⟩
theorem lw_R.speak (h : lw_R T ad G a dr N bc sp M B) {f t0 l0 b0 r0 : Nat} {B' : Nat → Nat → Nat → Nat} (hf : T f) (ht : t0 ≤ b0) (hb : b0 < 20) (hl : l0 ≤ r0) (hr : r0 < 20) (h7 : M 15 f < 20) (hB : B' 17 f = va_up (va_up (va_up (va_up (B 17 f) (4 * M 15 f) t0) (4 * M 15 f + 1) l0) (4 * M 15 f + 2) b0) (4 * M 15 f + 3) r0) (hB2 : ∀ u, u ≠ f → B' 17 u = B 17 u) (hbb : ∀ j u z, B' j u z < 1000000) :
    lw_R T ad G a dr (tg_up N 7 f (N 7 f + 1)) bc (va_up sp f (hg_or (sp f) t0 (b0 + 1) (hg_cb l0 r0))) (tg_up M 15 f (M 15 f + 1)) B' := by
  obtain ⟨r1, r2, r3, r4, r5, r6, r7, r8, r9, r10, r11, r12⟩ := h
  have hM : ∀ j, j ≠ 15 → (tg_up M 15 f (M 15 f + 1)) j = M j := fun j hj => mo_col _ _ _ hj
  have hN : ∀ j, j ≠ 7 → (tg_up N 7 f (N 7 f + 1)) j = N j := fun j hj => mo_col _ _ _ hj
  have i : ∀ f' k, mo_in (tg_up M 15 f (M 15 f + 1)) f' k ↔ mo_in M f' k := mo_in_e (hM 12 (by decide)) (hM 13 (by decide)) (hM 14 (by decide))
  refine ⟨fun f => by rw [hM 12 (by decide)]; exact r1 f, fun f hf => by rw [hM 13 (by decide), hM 14 (by decide)]; exact r2 f hf, fun u v k hu hv z1 z2 => r3 u v k hu hv ((i _ _).mp z1) ((i _ _).mp z2), fun u hu => ?_, fun u => ?_, fun u hu r hr2 => ?_, fun r hr => by rw [hM 18 (by decide)]; exact r7 r hr, fun k hk => ⟨fun f hf z => (r8 k hk).1 f hf ((i _ _).mp z), fun z => (r8 k hk).2 (fun f hf y => z f hf ((i _ _).mpr y))⟩, by rw [hM 12 (by decide)]; exact r9, fun f hf => by rw [hM 19 (by decide), hM 20 (by decide), hM 21 (by decide), hN 8 (by decide), hN 9 (by decide), hN 10 (by decide)]; exact r10 f hf, ⟨mo_b0 r11.1 (by have := r4 f hf; omega), r11.2.1, mo_b0 r11.2.2.1 (by omega), hbb⟩, fun u hu j j1 j2 j3 => by rw [hN j (by omega)]; exact r12 u hu j j1 j2 j3⟩
  · rw [hM 13 (by decide), hM 14 (by decide), hN 0 (by decide), hN 1 (by decide), hN 2 (by decide), hN 3 (by decide), hN 4 (by decide), hg_colA, hg_colA]
    obtain ⟨q1, q2, q3, q4, q5, q6, q7⟩ := r4 u hu
    refine ⟨q1, q2, q3, q4, q5, q6, ?_⟩
    by_cases e : u = f
    · subst e
      rw [va_up_self, va_up_self, q7]
    · rw [va_up_ne _ _ e, va_up_ne _ _ e]
      exact q7
  · rw [hg_colA]
    by_cases e : u = f
    · subst e
      rw [va_up_self]
      omega
    · rw [va_up_ne _ _ e]
      exact r5 u
  · by_cases e : u = f
    · subst e
      rw [va_up_self]
      have hq := fun k => mo_sp_add (M := M) (B := B) (k := k) (M' := tg_up M 15 u (M 15 u + 1)) (by rw [hg_colA, va_up_self]) hB
      unfold hg_or
      by_cases z : t0 ≤ r ∧ r < b0 + 1
      · rw [if_pos z]
        refine hg_row_to (hg_row_or (r6 u hu r hr2) (hg_row_cb hl hr)) (fun q hq2 => ?_)
        rw [hq]
        have e1 : (20 * r + q) / 20 = r := by omega
        have e2 : (20 * r + q) % 20 = q := by omega
        rw [e1, e2]
        exact ⟨fun w => w.elim Or.inl (fun w => Or.inr ⟨z.1, by omega, w.1, w.2⟩), fun w => w.elim Or.inl (fun w => Or.inr ⟨w.2.2.1, w.2.2.2⟩)⟩
      · rw [if_neg z]
        refine hg_row_to (r6 u hu r hr2) (fun q hq2 => ?_)
        rw [hq]
        have e1 : (20 * r + q) / 20 = r := by omega
        rw [e1]
        exact ⟨Or.inl, fun w => w.elim id (fun w => absurd ⟨w.1, by omega⟩ z)⟩
    · rw [va_up_ne _ _ e]
      refine hg_row_to (r6 u hu r hr2) (fun q _ => ?_)
      unfold mo_sp
      rw [hB2 u e, hg_colA, va_up_ne _ _ e]
end LWR1
