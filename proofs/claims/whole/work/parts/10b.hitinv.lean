/-! what holds while the hit are found: lv lists the living, hs the hit -/
def hg_FV (T : Nat → Prop) (ad : Nat → Nat → Nat) (a : Nat → Nat → Option Nat) (G : Nat → Nat) (N : Nat → Nat → Nat) (lv hs : Nat → Nat) : Prop :=
  (∀ u, T u → u < 400) ∧ (∀ u, T u → N 1 u ≤ N 3 u ∧ N 3 u < 20) ∧ G 1 ≤ 400 ∧ (∀ i, i < G 1 → T (lv i) ∧ a 1 i = some (ad 8 (lv i))) ∧ (∀ u, T u → ∃ i, i < G 1 ∧ lv i = u) ∧ (∀ i j, i < j → j < G 1 → lv i < lv j) ∧
  (∀ i, i < G 2 → T (hs i) ∧ N 8 (hs i) ≠ 0 ∧ a 2 i = some (ad 8 (hs i))) ∧ (∀ u, N 8 u ≠ 0 → ∃ i, i < G 2 ∧ hs i = u) ∧ hg_cn (fun u => N 8 u ≠ 0) 400 = G 2
def hg_FK (T : Nat → Prop) (ad : Nat → Nat → Nat) (lv : Nat → Nat) (a0 : Nat → Nat → Option Nat) (G0 : Nat → Nat) (N0 : Nat → Nat → Nat) (hs0 : Nat → Nat) (a : Nat → Nat → Option Nat) (G : Nat → Nat) (N : Nat → Nat → Nat) (hs : Nat → Nat) : Prop :=
  hg_FV T ad a G N lv hs ∧ (∀ j, j ≠ 8 → N j = N0 j) ∧ (∀ k, k ≠ 2 → G k = G0 k) ∧ (∀ j, j ≠ 2 → a j = a0 j) ∧ (∀ j u, N j u < 1000000) ∧ (∀ k, G k < 1000000) ∧ G0 2 ≤ G 2 ∧ (∀ i, i < G0 2 → hs i = hs0 i) ∧ ∀ u, N0 8 u ≠ 0 → N 8 u ≠ 0
theorem hg_hkE {N N' : Nat → Nat → Nat} {bc : Nat → Int32} {sp : Nat → Nat → Int32} {f g : Nat} (h1 : N' 1 = N 1) (h3 : N' 3 = N 3) : hg_hk N' bc sp f g ↔ hg_hk N bc sp f g := by
  unfold hg_hk
  rw [h1, h3]
theorem hg_hhE {N N' : Nat → Nat → Nat} {bc : Nat → Int32} {x : Nat → Int32} {f : Nat} (h1 : N' 1 = N 1) (h3 : N' 3 = N 3) : hg_hh N' bc x f ↔ hg_hh N bc x f := by
  unfold hg_hh
  rw [h1, h3]
section HGH
variable {T : Nat → Prop} {ad : Nat → Nat → Nat} {a a0 a1 : Nat → Nat → Option Nat} {G G0 G1 : Nat → Nat} {N N0 N1 : Nat → Nat → Nat} {lv hs hs0 hs1 : Nat → Nat}
theorem hg_colA {α : Type} (N : Nat → Nat → α) (j u : Nat) (v : α) : (tg_up N j u v) j = va_up (N j) u v := by
  funext i
  simp [tg_up, va_up]
theorem hg_othA {α : Type} (N : Nat → Nat → α) {j k : Nat} (u : Nat) (v : α) (h : k ≠ j) : (tg_up N j u v) k = N k := by
  funext i
  simp [tg_up, h]
theorem hg_FV.room (h : hg_FV T ad a G N lv hs) : G 2 ≤ 400 := by
  obtain ⟨-, -, -, -, -, -, -, -, f9⟩ := h
  rw [← f9]
  exact hg_cn_bd _ 400
theorem hg_FV.add {f : Nat} (h : hg_FV T ad a G N lv hs) (hf : T f) (h8 : N 8 f = 0) : G 2 < 400 ∧ hg_FV T ad (va_up a 2 (va_up (a 2) (G 2) (some (ad 8 f)))) (va_up G 2 (G 2 + 1)) (tg_up N 8 f 1) lv (va_up hs (G 2) f) := by
  obtain ⟨f1, f2, f3, f4, f5, f6, f7, f8, f9⟩ := h
  have hlt : G 2 < 400 := by
    rw [← f9]
    exact hg_cn_room (x := f) (fun z => z h8) (f1 f hf)
  refine ⟨hlt, ?_⟩
  have g1 : va_up G 2 (G 2 + 1) 1 = G 1 := va_up_ne _ _ (by decide)
  have g2 : va_up G 2 (G 2 + 1) 2 = G 2 + 1 := va_up_self ..
  have e1 : va_up a 2 (va_up (a 2) (G 2) (some (ad 8 f))) 1 = a 1 := va_up_ne _ _ (by decide)
  have e2 : va_up a 2 (va_up (a 2) (G 2) (some (ad 8 f))) 2 = va_up (a 2) (G 2) (some (ad 8 f)) := va_up_self ..
  have n8 : ∀ u, va_up (N 8) f 1 u ≠ 0 ↔ (N 8 u ≠ 0 ∨ u = f) := fun u => by
    by_cases z : u = f
    · rw [z, va_up_self]
      exact ⟨fun _ => Or.inr rfl, fun _ => by omega⟩
    · rw [va_up_ne _ _ z]
      exact ⟨Or.inl, fun q => q.elim id fun q => absurd q z⟩
  unfold hg_FV
  rw [g1, g2, e1, e2, hg_colA, hg_othA N (j := 8) (k := 1) _ _ (by decide), hg_othA N (j := 8) (k := 3) _ _ (by decide)]
  refine ⟨f1, f2, f3, f4, f5, f6, fun i hi => ?_, fun u hu => ?_, ?_⟩
  · by_cases z : i = G 2
    · rw [z, va_up_self, va_up_self, va_up_self]
      exact ⟨hf, by omega, rfl⟩
    · rw [va_up_ne _ _ z, va_up_ne _ _ z]
      obtain ⟨a1, a2, a3⟩ := f7 i (by omega)
      exact ⟨a1, (n8 _).2 (Or.inl a2), a3⟩
  · rcases (n8 u).1 hu with z | z
    · obtain ⟨i, h1, h2⟩ := f8 u z
      exact ⟨i, by omega, by rw [va_up_ne _ _ (by omega)]; exact h2⟩
    · exact ⟨G 2, by omega, by rw [va_up_self]; exact z.symm⟩
  · rw [hg_cn_congr 400 (Q := fun u => (fun k => N 8 k ≠ 0) u ∨ u = f) (fun k _ => n8 k), hg_cn_add (P := fun k => N 8 k ≠ 0) (fun z => z h8) 400, f9, hg_b_t (f1 f hf)]
theorem hg_FK.add {f : Nat} (h : hg_FK T ad lv a0 G0 N0 hs0 a G N hs) (hf : T f) (h8 : N 8 f = 0) : G 2 < 400 ∧ hg_FK T ad lv a0 G0 N0 hs0 (va_up a 2 (va_up (a 2) (G 2) (some (ad 8 f)))) (va_up G 2 (G 2 + 1)) (tg_up N 8 f 1) (va_up hs (G 2) f) := by
  obtain ⟨k1, k2, k3, k4, k5, k6, k7, k8, k9⟩ := h
  obtain ⟨h1, h2⟩ := k1.add hf h8
  refine ⟨h1, h2, fun j hj => by rw [hg_othA _ _ _ hj]; exact k2 j hj, fun k hk => by rw [va_up_ne _ _ hk]; exact k3 k hk, fun j hj => by rw [va_up_ne _ _ hj]; exact k4 j hj, fun j u => ?_, fun k => ?_, by rw [va_up_self]; omega, fun i hi => by rw [va_up_ne _ _ (by omega)]; exact k8 i hi, fun u hu => ?_⟩
  · unfold tg_up
    split
    · omega
    · exact k5 j u
  · unfold va_up
    split
    · omega
    · exact k6 k
  · rw [hg_colA]
    by_cases z : u = f
    · rw [z, va_up_self]
      omega
    · rw [va_up_ne _ _ z]
      exact k9 u hu
theorem hg_FK.refl (h : hg_FV T ad a G N lv hs) (hB : ∀ j u, N j u < 1000000) (hBG : ∀ k, G k < 1000000) : hg_FK T ad lv a G N hs a G N hs := ⟨h, fun _ _ => rfl, fun _ _ => rfl, fun _ _ => rfl, hB, hBG, Nat.le_refl _, fun _ _ => rfl, fun _ z => z⟩
theorem hg_FK.trans (h : hg_FK T ad lv a0 G0 N0 hs0 a1 G1 N1 hs1) (h' : hg_FK T ad lv a1 G1 N1 hs1 a G N hs) : hg_FK T ad lv a0 G0 N0 hs0 a G N hs := by
  obtain ⟨k1, k2, k3, k4, k5, k6, k7, k8, k9⟩ := h
  obtain ⟨l1, l2, l3, l4, l5, l6, l7, l8, l9⟩ := h'
  exact ⟨l1, fun j hj => (l2 j hj).trans (k2 j hj), fun k hk => (l3 k hk).trans (k3 k hk), fun j hj => (l4 j hj).trans (k4 j hj), l5, l6, Nat.le_trans k7 l7, fun i hi => (l8 i (Nat.lt_of_lt_of_le hi k7)).trans (k8 i hi), fun u hu => l9 u (k9 u hu)⟩
end HGH
