/-! class and reference side by side: out, put, spread -/
theorem lw_cp {α : Type} (g : Nat → α) (t l r b : Nat) (v : α) (k : Nat) : ((t ≤ k / 20 ∧ k / 20 ≤ b ∧ l ≤ k % 20 ∧ k % 20 ≤ r) → hg_cp g t l r (b + 1) l v k = v) ∧ (¬ (t ≤ k / 20 ∧ k / 20 ≤ b ∧ l ≤ k % 20 ∧ k % 20 ≤ r) → hg_cp g t l r (b + 1) l v k = g k) := by
  unfold hg_cp
  constructor
  · intro h
    exact if_pos (by omega)
  · intro h
    exact if_neg (by omega)
def lw_z (N : Nat → Nat → Nat) (f : Nat) : Nat → Nat → Nat := fun j u => if u = f ∧ 8 ≤ j then 0 else N j u
section LWR2
variable {T : Nat → Prop} {ad ad' : Nat → Nat → Nat} {G G' : Nat → Nat} {a a' : Nat → Nat → Option Nat} {dr : Nat → Int32} {N N' : Nat → Nat → Nat} {bc : Nat → Int32} {sp : Nat → Nat → Int32} {M M' : Nat → Nat → Nat} {B B' : Nat → Nat → Nat → Nat}
theorem lw_R.blk (h : lw_R T ad G a dr N bc sp M B) {f k : Nat} (hf : T f) : (N 1 f ≤ k / 20 ∧ k / 20 ≤ N 3 f ∧ N 2 f ≤ k % 20 ∧ k % 20 ≤ N 4 f) ↔ mo_in M f k := by
  have h2 := h.2.1 f hf
  obtain ⟨-, q1, q2, q3, q4, -, -⟩ := h.2.2.2.1 f hf
  have h12 := ((h.1 f).mp hf).2
  unfold mo_in
  rw [q1, q2, q3, q4]
  constructor
  · intro z
    exact ⟨h12, by omega, by omega, by omega, by omega⟩
  · intro z
    omega
theorem lw_R.out (h : lw_R T ad G a dr N bc sp M B) {f : Nat} (hf : T f) : lw_R (fun u => T u ∧ u ≠ f) ad (va_up G 0 (G 0 - 1)) (va_up a 0 (hg_cp (a 0) (N 1 f) (N 2 f) (N 4 f) (N 3 f + 1) (N 2 f) none)) dr (lw_z N f) bc sp (tg_up M 12 f 0) B := by
  have hb := fun k => h.blk (k := k) hf
  obtain ⟨r1, r2, r3, r4, r5, r6, r7, r8, r9, r10, r11, r12⟩ := h
  have hM : ∀ j, j ≠ 12 → (tg_up M 12 f 0) j = M j := fun j hj => mo_col _ _ _ hj
  have hfl := ((r1 f).mp hf).1
  have h12 : ∀ u, (tg_up M 12 f 0) 12 u ≠ 0 ↔ M 12 u ≠ 0 ∧ u ≠ f := fun u => by
    rw [hg_colA]
    by_cases e : u = f
    · subst e
      rw [va_up_self]
      exact ⟨fun z => absurd rfl z, fun z => absurd rfl z.2⟩
    · rw [va_up_ne _ _ e]
      exact ⟨fun z => ⟨z, e⟩, fun z => z.1⟩
  have i : ∀ u k, mo_in (tg_up M 12 f 0) u k ↔ mo_in M u k ∧ u ≠ f := fun u k => by
    unfold mo_in
    rw [hM 13 (by decide), hM 14 (by decide), h12 u]
    exact ⟨fun z => ⟨⟨z.1.1, z.2⟩, z.1.2⟩, fun z => ⟨⟨z.1.1, z.2⟩, z.1.2⟩⟩
  have zl : ∀ j u, j < 8 → lw_z N f j u = N j u := fun j u hj => if_neg (fun z => by omega)
  have zo : ∀ j u, u ≠ f → lw_z N f j u = N j u := fun j u hu => if_neg (fun z => hu z.1)
  refine ⟨fun u => ?_, fun u hu => by rw [hM 13 (by decide), hM 14 (by decide)]; exact r2 u hu.1, fun u v k hu hv z1 z2 => r3 u v k hu hv ((i _ _).mp z1).1 ((i _ _).mp z2).1, fun u hu => by rw [hM 13 (by decide), hM 14 (by decide), hM 15 (by decide), zo 0 u hu.2, zo 1 u hu.2, zo 2 u hu.2, zo 3 u hu.2, zo 4 u hu.2, zo 7 u hu.2]; exact r4 u hu.1, fun u => by rw [hM 15 (by decide)]; exact r5 u, fun u hu r hr => hg_row_to (r6 u hu.1 r hr) (fun q _ => (mo_sp_e (hM 15 (by decide)) rfl _ _).symm), fun r hr => by rw [hM 18 (by decide)]; exact r7 r hr, fun k hk => ?_, ?_, fun u hu => by rw [hM 19 (by decide), hM 20 (by decide), hM 21 (by decide), zo 8 u hu.2, zo 9 u hu.2, zo 10 u hu.2]; exact r10 u hu.1, ⟨fun j u => ?_, fun k => ?_, mo_b0 r11.2.2.1 (by decide), r11.2.2.2⟩, fun u hu j j1 j2 j3 => ?_⟩
  · rw [h12 u]
    exact ⟨fun z => ⟨((r1 u).mp z.1).1, ((r1 u).mp z.1).2, z.2⟩, fun z => ⟨(r1 u).mpr ⟨z.1, z.2.1⟩, z.2.2⟩⟩
  · rw [va_up_self]
    obtain ⟨c1, c2⟩ := lw_cp (a 0) (N 1 f) (N 2 f) (N 4 f) (N 3 f) none k
    refine ⟨fun u hu z => ?_, fun z => ?_⟩
    · obtain ⟨z1, z2⟩ := (i u k).mp z
      rw [c2 (fun q => z2 (r3 u f k hu hfl z1 ((hb k).mp q)))]
      exact (r8 k hk).1 u hu z1
    · by_cases q : mo_in M f k
      · exact c1 ((hb k).mpr q)
      · rw [c2 (fun w => q ((hb k).mp w))]
        refine (r8 k hk).2 (fun u hu w => ?_)
        by_cases e : u = f
        · subst e
          exact q w
        · exact z u hu ((i u k).mpr ⟨w, e⟩)
  · rw [va_up_self, r9]
    have e1 : hg_cn (fun u => M 12 u ≠ 0) 400 = hg_cn (fun u => (tg_up M 12 f 0) 12 u ≠ 0 ∨ u = f) 400 := hg_cn_congr 400 (fun u _ => by
      rw [h12 u]
      by_cases e : u = f
      · subst e
        exact ⟨fun _ => Or.inr rfl, fun _ => ((r1 u).mp hf).2⟩
      · exact ⟨fun z => Or.inl ⟨z, e⟩, fun z => z.elim (fun y => y.1) (fun y => absurd y e)⟩)
    rw [e1, hg_cn_add (P := fun u => (tg_up M 12 f 0) 12 u ≠ 0) (fun z => ((h12 f).mp z).2 rfl) 400, hg_b_t hfl]
    omega
  · unfold lw_z
    split
    · decide
    · exact r11.1 j u
  · unfold va_up
    split
    · have := r11.2.1 0
      omega
    · exact r11.2.1 k
  · by_cases e : u = f
    · subst e
      exact if_pos ⟨rfl, j1⟩
    · rw [zo j u e]
      exact r12 u (fun z => hu ⟨z, e⟩) j j1 j2 j3
theorem lw_R.put (h : lw_R T ad G a dr N bc sp M B) {x y hh v f : Nat} (hf : f = 20 * x + y) (hx : x < 20) (hy : y < 20) (h1 : 1 ≤ hh) (h2 : hh ≤ 20 - x) (v1 : 1 ≤ v) (v2 : v ≤ 20 - y) (hfree : ∀ i j, x ≤ i → i < x + hh → y ≤ j → j < y + v → ∀ g, g < 400 → ¬ mo_in M g (20 * i + j))
    (m12 : M' 12 = va_up (M 12) f 1) (m13 : M' 13 = va_up (M 13) f hh) (m14 : M' 14 = va_up (M 14) f v) (m15 : M' 15 = va_up (M 15) f 0) (m18 : M' 18 = M 18) (m19 : M' 19 = va_up (M 19) f 0) (m20 : M' 20 = va_up (M 20) f 0) (m21 : M' 21 = va_up (M 21) f 0) (hb : ∀ j u, M' j u < 1000000) (had : ∀ k i, ¬ (k = 8 ∧ i = f) → ¬ (k = 9 ∧ i = f) → ad' k i = ad k i) :
    ¬ T f ∧ lw_R (fun u => T u ∨ u = f) ad' (va_up G 0 (G 0 + 1)) (va_up a 0 (hg_cp (a 0) x y (y + v - 1) (x + hh - 1 + 1) y (some (ad' 8 f)))) dr (hg_nw N f x y (x + hh - 1) (y + v - 1)) (va_up bc f (hg_cb y (y + v - 1))) (va_up sp f (fun _ => nI 0)) M' B := by
  have hself := fun {u : Nat} (hu : T u) => h.self hu
  obtain ⟨r1, r2, r3, r4, r5, r6, r7, r8, r9, r10, r11, r12⟩ := h
  have fd : f / 20 = x := by omega
  have fm : f % 20 = y := by omega
  have hfl : f < 400 := by omega
  have hnT : ¬ T f := fun z => hfree x y (Nat.le_refl _) (by omega) (Nat.le_refl _) (by omega) f hfl (by rw [← hf]; exact hself z)
  have hT : ∀ u, T u → u ≠ f := fun u hu e => hnT (e ▸ hu)
  have io : ∀ u k, u ≠ f → (mo_in M' u k ↔ mo_in M u k) := fun u k e => by
    unfold mo_in
    rw [m12, m13, m14, va_up_ne _ _ e, va_up_ne _ _ e, va_up_ne _ _ e]
  have is : ∀ k, mo_in M' f k ↔ x ≤ k / 20 ∧ k / 20 ≤ x + hh - 1 ∧ y ≤ k % 20 ∧ k % 20 ≤ y + v - 1 := fun k => by
    unfold mo_in
    rw [m12, m13, m14, va_up_self, va_up_self, va_up_self, fd, fm]
    constructor
    · intro z
      omega
    · intro z
      exact ⟨by decide, by omega, by omega, by omega, by omega⟩
  have ap : ∀ u k, u < 400 → u ≠ f → mo_in M u k → ¬ mo_in M' f k := fun u k hu e z q => by
    have q2 := (is k).mp q
    have q3 := hfree (k / 20) (k % 20) q2.1 (by omega) q2.2.2.1 (by omega) u hu
    rw [show 20 * (k / 20) + k % 20 = k by omega] at q3
    exact q3 z
  refine ⟨hnT, fun u => ?_, fun u hu => ?_, fun u w k hu hw z1 z2 => ?_, fun u hu => ?_, fun u => ?_, fun u hu r hr => ?_, fun r hr => by rw [m18]; exact r7 r hr, fun k hk => ?_, ?_, fun u hu => ?_, ⟨fun j u => ?_, fun k => ?_, hb, r11.2.2.2⟩, fun u hu j j1 j2 j3 => ?_⟩
  · rw [m12]
    by_cases e : u = f
    · subst e
      rw [va_up_self]
      exact ⟨fun _ => ⟨hfl, by decide⟩, fun _ => Or.inr rfl⟩
    · rw [va_up_ne _ _ e]
      exact ⟨fun z => z.elim (r1 u).mp (fun z => absurd z e), fun z => Or.inl ((r1 u).mpr z)⟩
  · rw [m13, m14]
    by_cases e : u = f
    · subst e
      rw [va_up_self, va_up_self, fd, fm]
      omega
    · rw [va_up_ne _ _ e, va_up_ne _ _ e]
      exact r2 u (hu.elim id (fun z => absurd z e))
  · by_cases e : u = f
    · by_cases e2 : w = f
      · rw [e, e2]
      · exact absurd (e ▸ z1) (ap w k hw e2 ((io w k e2).mp z2))
    · by_cases e2 : w = f
      · exact absurd (e2 ▸ z2) (ap u k hu e ((io u k e).mp z1))
      · exact r3 u w k hu hw ((io u k e).mp z1) ((io w k e2).mp z2)
  · rw [m13, m14, m15]
    by_cases e : u = f
    · subst e
      rw [hg_nw_s, hg_nw_s, hg_nw_s, hg_nw_s, hg_nw_s, hg_nw_s, va_up_self, va_up_self, va_up_self, va_up_self]
      exact ⟨hf.symm, fd.symm, fm.symm, by rw [fd]; rfl, by rw [fm]; rfl, rfl, rfl⟩
    · rw [hg_nw_o e, hg_nw_o e, hg_nw_o e, hg_nw_o e, hg_nw_o e, hg_nw_o e, va_up_ne _ _ e, va_up_ne _ _ e, va_up_ne _ _ e, va_up_ne _ _ e]
      exact r4 u (hu.elim id (fun z => absurd z e))
  · rw [m15]
    by_cases e : u = f
    · subst e
      rw [va_up_self]
      decide
    · rw [va_up_ne _ _ e]
      exact r5 u
  · by_cases e : u = f
    · subst e
      rw [va_up_self]
      refine hg_row_to hg_row_0 (fun q _ => ⟨False.elim, fun ⟨i, hi, _⟩ => ?_⟩)
      rw [m15, va_up_self] at hi
      exact absurd hi (Nat.not_lt_zero _)
    · rw [va_up_ne _ _ e]
      refine hg_row_to (r6 u (hu.elim id (fun z => absurd z e)) r hr) (fun q _ => ?_)
      unfold mo_sp
      rw [m15, va_up_ne _ _ e]
  · rw [va_up_self]
    obtain ⟨c1, c2⟩ := lw_cp (a 0) x y (y + v - 1) (x + hh - 1) (some (ad' 8 f)) k
    refine ⟨fun u hu z => ?_, fun z => ?_⟩
    · by_cases e : u = f
      · subst e
        exact c1 ((is k).mp z)
      · have z1 := (io u k e).mp z
        rw [c2 (fun q => ap u k hu e z1 ((is k).mpr q)), had 8 u (fun q => e q.2) (fun q => absurd q.1 (by decide))]
        exact (r8 k hk).1 u hu z1
    · rw [c2 (fun q => z f hfl ((is k).mpr q))]
      refine (r8 k hk).2 (fun u hu w => ?_)
      by_cases e : u = f
      · subst e
        exact hnT ((r1 u).mpr ⟨hu, w.1⟩)
      · exact z u hu ((io u k e).mpr w)
  · rw [va_up_self, r9, m12]
    have e1 : hg_cn (fun u => va_up (M 12) f 1 u ≠ 0) 400 = hg_cn (fun u => M 12 u ≠ 0 ∨ u = f) 400 := hg_cn_congr 400 (fun u _ => by
      by_cases e : u = f
      · subst e
        rw [va_up_self]
        exact ⟨fun _ => Or.inr rfl, fun _ => by decide⟩
      · rw [va_up_ne _ _ e]
        exact ⟨Or.inl, fun z => z.elim id (fun z => absurd z e)⟩)
    rw [e1, hg_cn_add (P := fun u => M 12 u ≠ 0) (fun z => hnT ((r1 f).mpr ⟨hfl, z⟩)) 400, hg_b_t hfl]
  · rw [m19, m20, m21]
    by_cases e : u = f
    · subst e
      rw [hg_nw_s, hg_nw_s, hg_nw_s, va_up_self, va_up_self, va_up_self]
      exact ⟨Iff.rfl, Iff.rfl, rfl⟩
    · rw [hg_nw_o e, hg_nw_o e, hg_nw_o e, va_up_ne _ _ e, va_up_ne _ _ e, va_up_ne _ _ e]
      exact r10 u (hu.elim id (fun z => absurd z e))
  · by_cases e : u = f
    · subst e
      rw [hg_nw_s]
      split <;> omega
    · rw [hg_nw_o e]
      exact r11.1 j u
  · unfold va_up
    split
    · have := hg_cn_bd (fun f => M 12 f ≠ 0) 400
      omega
    · exact r11.2.1 k
  · have e : u ≠ f := fun e => hu (Or.inr e)
    rw [hg_nw_o e]
    exact r12 u (fun z => hu (Or.inl z)) j j1 j2 j3
theorem lw_R.hk (h : lw_R T ad G a dr N bc sp M B) {u v : Nat} (hu : T u) (hv : T v) : hg_hk N bc sp u v ↔ mo_g M B 400 u v := by
  have hb := fun k => h.blk (k := k) hv
  obtain ⟨d1, d2, d3, d4⟩ := h.dims hv
  obtain ⟨r1, r2, r3, r4, r5, r6, r7, r8, r9, r10, r11, r12⟩ := h
  have hbc : bc v = hg_cb (N 2 v) (N 4 v) := (r4 v hv).2.2.2.2.2.1
  unfold hg_hk mo_g
  rw [hbc]
  constructor
  · intro ⟨row, w1, w2, w3⟩
    obtain ⟨q, q1, q2, q3⟩ := (hg_row_and (r6 u hu row (by omega)) (hg_row_cb d3 d4)).mp w3
    exact ⟨((r1 u).mp hu).2, 20 * row + q, by omega, (hb _).mp (by omega), q2⟩
  · intro ⟨_, k, k1, k2, k3⟩
    have k4 := (hb k).mpr k2
    refine ⟨k / 20, k4.1, k4.2.1, (hg_row_and (r6 u hu (k / 20) (by omega)) (hg_row_cb d3 d4)).mpr ⟨k % 20, by omega, ?_, k4.2.2⟩⟩
    rw [show 20 * (k / 20) + k % 20 = k by omega]
    exact k3
theorem lw_R.hd (h : lw_R T ad G a dr N bc sp M B) {g : Nat} (hg : T g) : (hg_hh N bc dr g ∨ hg_hd sp dr g) ↔ mo_h M B 400 g := by
  have hb := fun k => h.blk (k := k) hg
  obtain ⟨d1, d2, d3, d4⟩ := h.dims hg
  obtain ⟨r1, r2, r3, r4, r5, r6, r7, r8, r9, r10, r11, r12⟩ := h
  have hbc : bc g = hg_cb (N 2 g) (N 4 g) := (r4 g hg).2.2.2.2.2.1
  have h12 := ((r1 g).mp hg).2
  unfold hg_hh hg_hd mo_h
  rw [hbc]
  constructor
  · intro z
    rcases z with ⟨row, w1, w2, w3⟩ | ⟨row, w1, w3⟩
    · obtain ⟨q, q1, q2, q3⟩ := (hg_row_and (hg_row_cb d3 d4) (r7 row (by omega))).mp w3
      exact ⟨20 * row + q, by omega, q3, Or.inl ((hb _).mp (by omega))⟩
    · obtain ⟨q, q1, q2, q3⟩ := (hg_row_and (r6 g hg row w1) (r7 row w1)).mp w3
      exact ⟨20 * row + q, by omega, q3, Or.inr ⟨h12, q2⟩⟩
  · intro ⟨k, k1, k2, k3⟩
    have ek : 20 * (k / 20) + k % 20 = k := by omega
    rcases k3 with k3 | k3
    · have k4 := (hb k).mpr k3
      exact Or.inl ⟨k / 20, k4.1, k4.2.1, (hg_row_and (hg_row_cb d3 d4) (r7 (k / 20) (by omega))).mpr ⟨k % 20, by omega, k4.2.2, by rw [ek]; exact k2⟩⟩
    · exact Or.inr ⟨k / 20, by omega, (hg_row_and (r6 g hg (k / 20) (by omega)) (r7 (k / 20) (by omega))).mpr ⟨k % 20, by omega, by rw [ek]; exact k3.2, by rw [ek]; exact k2⟩⟩
theorem lw_R.spread (h : lw_R T ad G a dr N bc sp M B) (hc : hg_SP T bc sp dr G a N G' a' N') (hm : mo_SP M B M' B') : lw_R T ad G' a' (hg_z dr 20) N' bc sp M' B' ∧ G' 2 = hg_cn (fun u => M' 19 u ≠ 0) 400 := by
  have hk := fun {u v : Nat} (hu : T u) (hv : T v) => h.hk hu hv
  have hd := fun {g : Nat} (hg : T g) => h.hd hg
  obtain ⟨r1, r2, r3, r4, r5, r6, r7, r8, r9, r10, r11, r12⟩ := h
  obtain ⟨s1, s2, s3, s4, s5, s6, s7, s8, s9, s10, s11⟩ := hc
  obtain ⟨m1, m2, m3, m4, m5, m6, m7, m8, m9, m10, m11⟩ := hm
  have e12 := m2 12 (by decide) (by decide)
  have e13 := m2 13 (by decide) (by decide)
  have e14 := m2 14 (by decide) (by decide)
  have e15 := m2 15 (by decide) (by decide)
  have gT : ∀ u v, u < 400 → v < 400 → mo_g M B 400 u v → T u ∧ T v := fun u v hu hv z => by
    obtain ⟨z1, k, k1, k2, k3⟩ := z
    exact ⟨(r1 u).mpr ⟨hu, z1⟩, (r1 v).mpr ⟨hv, k2.1⟩⟩
  have hT : ∀ v, v < 400 → mo_h M B 400 v → T v := fun v hv z => by
    obtain ⟨k, k1, k2, k3⟩ := z
    rcases k3 with q | q
    · exact (r1 v).mpr ⟨hv, q.1⟩
    · exact (r1 v).mpr ⟨hv, q.1⟩
  have ee : (fun u v => T u ∧ T v ∧ hg_hk N bc sp u v) = mo_f M B' := by
    funext u v
    refine propext ⟨fun ⟨z1, z2, z3⟩ => ?_, fun ⟨⟨z1, z2⟩, z3, z4⟩ => ?_⟩
    · have u1 := (r1 u).mp z1
      have v1 := (r1 v).mp z2
      exact ⟨⟨u1.1, v1.1⟩, u1.2, (m7 u v u1.1 v1.1).mpr ((hk z1 z2).mp z3)⟩
    · have z5 := (m7 u v z1 z2).mp z4
      obtain ⟨t1, t2⟩ := gT u v z1 z2 z5
      exact ⟨t1, t2, (hk t1 t2).mpr z5⟩
  have hit : ∀ u, u < 400 → (N' 8 u ≠ 0 ↔ M' 19 u ≠ 0) := fun u hu => by
    rw [s7 u, m8 u hu, ee]
    exact ⟨fun ⟨g, g1, g2, g3⟩ => ⟨g, ((r1 g).mp g2).1, g1, (hd g2).mp g3⟩, fun ⟨g, g1, g2, g3⟩ => ⟨g, g2, hT g g1 g3, (hd (hT g g1 g3)).mpr g3⟩⟩
  have n8 : ∀ u, N' 8 u ≠ 0 → T u := fun u z => Classical.byContradiction fun q => z (s6 u q 8 (by decide) (by decide) (by decide))
  have eE : hg_E N' N bc sp = mo_e M' B' := by
    funext u v
    refine propext ⟨fun ⟨z1, z2, z3⟩ => ?_, fun ⟨⟨z1, z2⟩, ⟨z3, z4⟩, z5⟩ => ?_⟩
    · have u0 := n8 u z1
      have v0 := n8 v z2
      have u1 := ((r1 u).mp u0).1
      have v1 := ((r1 v).mp v0).1
      exact ⟨⟨u1, v1⟩, ⟨(hit u u1).mp z1, (hit v v1).mp z2⟩, (m7 u v u1 v1).mpr ((hk u0 v0).mp z3)⟩
    · have z6 := (m7 u v z1 z2).mp z5
      obtain ⟨t1, t2⟩ := gT u v z1 z2 z6
      exact ⟨(hit u z1).mpr z3, (hit v z2).mpr z4, (hk t1 t2).mpr z6⟩
  rw [eE] at s9 s10
  refine ⟨⟨fun f => by rw [e12]; exact r1 f, fun f hf => by rw [e13, e14]; exact r2 f hf, fun u v k hu hv z1 z2 => r3 u v k hu hv ((mo_in_e e12 e13 e14 _ _).mp z1) ((mo_in_e e12 e13 e14 _ _).mp z2), fun f hf => by rw [e13, e14, e15, s3 0 (by decide), s3 1 (by decide), s3 2 (by decide), s3 3 (by decide), s3 4 (by decide), s3 7 (by decide)]; exact r4 f hf, fun u => by rw [e15]; exact r5 u, fun f hf r hr => hg_row_to (r6 f hf r hr) (fun q _ => (mo_sp_e e15 m3 _ _).symm), fun r hr => ?_, fun k hk => ⟨fun f hf z => by rw [s2]; exact (r8 k hk).1 f hf ((mo_in_e e12 e13 e14 _ _).mp z), fun z => by rw [s2]; exact (r8 k hk).2 (fun f hf y => z f hf ((mo_in_e e12 e13 e14 _ _).mpr y))⟩, by rw [e12, s1]; exact r9, fun f hf => ?_, ⟨s4, s5, m5, m6⟩, s6⟩, ?_⟩
  · have hz : hg_z dr 20 r = nI 0 := if_pos hr
    rw [hz]
    exact hg_row_to hg_row_0 (fun q hq => ⟨False.elim, fun z => z (m4 (20 * r + q) (by omega))⟩)
  · have hl := ((r1 f).mp hf).1
    refine ⟨hit f hl, (s9 f).trans (m9 f hl).symm, ?_⟩
    by_cases q : N' 8 f ≠ 0
    · rw [s10 f q, m10 f hl ((hit f hl).mp q)]
    · have q0 : N' 8 f = 0 := Decidable.byContradiction q
      rw [s11 f q0, m11 f hl (Decidable.byContradiction fun z => q ((hit f hl).mpr z))]
  · rw [s8]
    exact hg_cn_congr 400 (fun u hu => hit u hu)
end LWR2
