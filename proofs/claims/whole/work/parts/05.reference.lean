/-! pure rows for the reference's own loops: the queue of comesBack, the hit loop, the rank loop -/
/-- f: where it began; met: what was queued behind it; q, size: the queue; at: how many of it are done -/
def hg_C (e : Nat → Nat → Prop) (N f : Nat) (met : Nat → Prop) (q : Nat → Nat) (size at1 : Nat) : Prop :=
  q 0 = f ∧ 1 ≤ size ∧
  (∀ k, 1 ≤ k → k < size → met (q k)) ∧
  (∀ g, met g → g < N ∧ g ≠ f ∧ (∃ k, 1 ≤ k ∧ k < size ∧ q k = g) ∧ ∃ w, e f w ∧ hg_R e w g) ∧
  hg_cn (fun g => met g ∨ g = f) N = size ∧
  (∀ k g, k < at1 → k < size → e (q k) g → met g)
section HGC
variable {e : Nat → Nat → Prop} {N f : Nat} {met : Nat → Prop} {q : Nat → Nat} {size at1 : Nat}
theorem hg_C_0 (hf : f < N) (hm : ∀ g, ¬ met g) (hq : q 0 = f) : hg_C e N f met q 1 0 := by
  refine ⟨hq, Nat.le_refl 1, fun k h1 h2 => by omega, fun g h => absurd h (hm g), ?_, fun k g h => by omega⟩
  have h1 : hg_cn (fun g => met g ∨ g = f) N = hg_cn (fun g => (fun _ => False) g ∨ g = f) N := hg_cn_congr N (fun k _ => ⟨fun h => h.elim (fun z => absurd z (hm k)) Or.inr, fun h => h.elim (fun z => z.elim) Or.inr⟩)
  rw [h1, hg_cn_add (P := fun _ => False) (fun z => z) N, hg_cn_0, hg_b_t hf]
/-- what the queue holds is reached -/
theorem hg_C_at (h : hg_C e N f met q size at1) {k : Nat} (hk : k < size) : q k = f ∨ ∃ w, e f w ∧ hg_R e w (q k) := by
  obtain ⟨h1, h2, h3, h4, h5, h6⟩ := h
  by_cases z : k = 0
  · subst z
    exact Or.inl h1
  · exact Or.inr (h4 _ (h3 k (by omega) hk)).2.2.2
theorem hg_C_lt (h : hg_C e N f met q size at1) (hf : f < N) {k : Nat} (hk : k < size) : q k < N := by
  obtain ⟨h1, h2, h3, h4, h5, h6⟩ := h
  by_cases z : k = 0
  · subst z
    rw [h1]
    exact hf
  · exact (h4 _ (h3 k (by omega) hk)).1
theorem hg_C_ret (h : hg_C e N f met q size at1) {k : Nat} (hk : k < size) (he : e (q k) f) : hg_O e f := by
  rcases hg_C_at h hk with z | ⟨w, h1, h2⟩
  · rw [z] at he
    exact ⟨f, he, hg_R_refl e f⟩
  · exact ⟨w, h1, hg_R_trans h2 (hg_R_one he)⟩
theorem hg_C_add (h : hg_C e N f met q size at1) {g : Nat} (ha : at1 < size) (he : e (q at1) g) (hg : g < N) (hm : ¬ met g) (hf : g ≠ f) : size < N ∧ hg_C e N f (fun k => met k ∨ k = g) (va_up q size g) (size + 1) at1 := by
  have hat := hg_C_at h ha
  obtain ⟨h1, h2, h3, h4, h5, h6⟩ := h
  have hno : ¬ (met g ∨ g = f) := fun z => z.elim hm hf
  have hsz : size < N := by
    rw [← h5]
    exact hg_cn_room hno hg
  have qk : ∀ k, k < size → va_up q size g k = q k := fun k hk => va_up_ne _ _ (by omega)
  have qs : va_up q size g size = g := va_up_self ..
  refine ⟨hsz, by rw [qk 0 (by omega)]; exact h1, by omega, fun k g1 g2 => ?_, fun x hx => ?_, ?_, fun k x g1 g2 g3 => ?_⟩
  · by_cases z : k = size
    · rw [z, qs]
      exact Or.inr rfl
    · rw [qk k (by omega)]
      exact Or.inl (h3 k g1 (by omega))
  · rcases hx with z | z
    · obtain ⟨a1, a2, ⟨k, b1, b2, b3⟩, a4⟩ := h4 x z
      exact ⟨a1, a2, ⟨k, b1, by omega, by rw [qk k b2]; exact b3⟩, a4⟩
    · subst z
      refine ⟨hg, hf, ⟨size, h2, by omega, qs⟩, ?_⟩
      rcases hat with y | ⟨w, y1, y2⟩
      · rw [y] at he
        exact ⟨x, he, hg_R_refl e x⟩
      · exact ⟨w, y1, hg_R_trans y2 (hg_R_one he)⟩
  · have a1 : hg_cn (fun k => (met k ∨ k = g) ∨ k = f) N = hg_cn (fun k => (met k ∨ k = f) ∨ k = g) N := hg_cn_congr N (fun k _ => ⟨fun z => z.elim (fun y => y.elim (fun x => Or.inl (Or.inl x)) Or.inr) (fun y => Or.inl (Or.inr y)), fun z => z.elim (fun y => y.elim (fun x => Or.inl (Or.inl x)) Or.inr) (fun y => Or.inl (Or.inr y))⟩)
    rw [a1, hg_cn_add (P := fun k => met k ∨ k = f) hno N, h5, hg_b_t hg]
  · have hk : k < size := by omega
    rw [qk k hk] at g3
    exact Or.inl (h6 k x g1 hk g3)
theorem hg_C_done (h : hg_C e N f met q size at1) (hn : ∀ g, e (q at1) g → met g) : hg_C e N f met q size (at1 + 1) := by
  obtain ⟨h1, h2, h3, h4, h5, h6⟩ := h
  refine ⟨h1, h2, h3, h4, h5, fun k g g1 g2 g3 => ?_⟩
  by_cases z : k = at1
  · rw [z] at g3
    exact hn g g3
  · exact h6 k g (by omega) g2 g3
theorem hg_C_end (h : hg_C e N f met q size size) : ¬ hg_O e f := by
  obtain ⟨h1, h2, h3, h4, h5, h6⟩ := h
  intro z
  obtain ⟨w, g1, g2⟩ := z
  have hw : met w := h6 0 w (by omega) (by omega) (by rw [h1]; exact g1)
  have hf : met f := hg_R_closed (P := met) (fun a b ha hab => by
    obtain ⟨-, -, ⟨k, b1, b2, b3⟩, -⟩ := h4 a ha
    exact h6 k b b2 b2 (by rw [b3]; exact hab)) hw g2
  exact (h4 f hf).2.1 rfl
end HGC
/-! the rank loop: hs f: f is hit and not round -/
def hg_J (e : Nat → Nat → Prop) (N : Nat) (hs : Nat → Prop) (rk : Nat → Nat) : Prop :=
  (∀ f, f < N → ¬ hs f → rk f = 0) ∧ (∀ f, f < N → hs f → rk f ≤ hg_K e N f ∧ rk f ≤ 1 + hg_mx e rk f N)
section HGJ
variable {e : Nat → Nat → Prop} {N : Nat} {hs : Nat → Prop} {rk : Nat → Nat}
theorem hg_J_0 (h : ∀ f, f < N → rk f = 0) : hg_J e N hs rk := ⟨fun f hf _ => h f hf, fun f hf _ => by rw [h f hf]; exact ⟨Nat.zero_le _, Nat.zero_le _⟩⟩
theorem hg_J_le (hJ : hg_J e N hs rk) {f : Nat} (hf : f < N) : rk f ≤ hg_K e N f := by
  by_cases z : hs f
  · exact (hJ.2 f hf z).1
  · rw [hJ.1 f hf z]
    exact Nat.zero_le _
theorem hg_J_up (hJ : hg_J e N hs rk) {f : Nat} (hf : f < N) (hh : hs f) (ho : ¬ hg_O e f) (hne : rk f ≠ hg_mx e rk f N + 1) : hg_J e N hs (va_up rk f (hg_mx e rk f N + 1)) ∧ hg_sm (fun g => hg_K e N g - va_up rk f (hg_mx e rk f N + 1) g) N < hg_sm (fun g => hg_K e N g - rk g) N := by
  have h1 := hJ.2 f hf hh
  have hlt : rk f < hg_mx e rk f N + 1 := by omega
  have hK : hg_mx e rk f N + 1 ≤ hg_K e N f := by
    rw [hg_K_n ho]
    have := hg_mx_le (e := e) (K := rk) (L := hg_K e N) (f := f) N (fun g hg _ => hg_J_le hJ hg)
    omega
  have up : ∀ g, rk g ≤ va_up rk f (hg_mx e rk f N + 1) g := fun g => by
    by_cases z : g = f
    · rw [z, va_up_self]
      omega
    · rw [va_up_ne _ _ z]
      exact Nat.le_refl _
  refine ⟨⟨fun g hg hn => ?_, fun g hg hn => ?_⟩, ?_⟩
  · rw [va_up_ne _ _ (fun z => hn (by rw [z]; exact hh))]
    exact hJ.1 g hg hn
  · have hm := hg_mx_le (e := e) (K := rk) (L := va_up rk f (hg_mx e rk f N + 1)) (f := g) N (fun x _ _ => up x)
    by_cases z : g = f
    · subst z
      rw [va_up_self]
      exact ⟨hK, by omega⟩
    · rw [va_up_ne _ _ z]
      have := hJ.2 g hg hn
      exact ⟨this.1, by omega⟩
  · refine hg_sm_lt (x := f) ?_ N hf (fun k _ => ?_)
    · show hg_K e N f - va_up rk f (hg_mx e rk f N + 1) f < hg_K e N f - rk f
      rw [va_up_self]
      omega
    · show hg_K e N k - va_up rk f (hg_mx e rk f N + 1) k ≤ hg_K e N k - rk k
      have := up k
      omega
/-- nothing changed: they are the ranks (of those that are hit) -/
theorem hg_J_end {ht : Nat → Prop} (hJ : hg_J e N hs rk) (hse : ∀ f, hs f ↔ ht f ∧ ¬ hg_O e f) (hee : ∀ f g, e f g → ht f ∧ ht g) (hfix : ∀ f, f < N → hs f → rk f = hg_mx e rk f N + 1) {f : Nat} (hf : f < N) (hh : ht f) : rk f = hg_K e N f := by
  have hL : ∀ g, g < N → hg_mx e (fun x => hg_b (ht x) * rk x + (1 - hg_b (ht x))) g N = hg_mx e rk g N := fun g _ => hg_mx_congr N (fun x _ he => by
    show hg_b (ht x) * rk x + (1 - hg_b (ht x)) = rk x
    rw [hg_bK_t (hee g x he).2, hg_b_t (hee g x he).2]
    omega)
  have h := hg_K_uniq (e := e) (N := N) (L := fun x => hg_b (ht x) * rk x + (1 - hg_b (ht x))) (fun g hg ho => ?_) (fun g hg ho => ?_) hf
  · have h2 : hg_b (ht f) * rk f + (1 - hg_b (ht f)) = hg_K e N f := h
    rw [hg_bK_t hh, hg_b_t hh] at h2
    omega
  · show hg_b (ht g) * rk g + (1 - hg_b (ht g)) = 0
    have hg2 : ht g := by
      obtain ⟨w, h1, -⟩ := ho
      exact (hee g w h1).1
    rw [hg_bK_t hg2, hg_b_t hg2, hJ.1 g hg (fun z => ((hse g).1 z).2 ho)]
  · show hg_b (ht g) * rk g + (1 - hg_b (ht g)) = 1 + hg_mx e (fun x => hg_b (ht x) * rk x + (1 - hg_b (ht x))) g N
    rw [hL g hg]
    by_cases z : ht g
    · rw [hg_bK_t z, hg_b_t z, hfix g hg ((hse g).2 ⟨z, ho⟩)]
      omega
    · have h0 : hg_mx e rk g N = 0 := by
        have h1 := hg_mx_le (e := e) (K := rk) (L := fun _ => 0) (f := g) N (fun x _ he => absurd (hee g x he).1 z)
        have h2 : ∀ n, hg_mx e (fun _ => 0) g n = 0 := fun n => by
          induction n with
          | zero => rfl
          | succ n ih =>
            rw [hg_mx_s, ih]
            show Nat.max 0 (hg_b (e g n) * 0) = 0
            rw [Nat.mul_zero]
            rfl
        rw [h2] at h1
        omega
      rw [hg_bK_f z, hg_b_f z, h0]
end HGJ
