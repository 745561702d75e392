/-! what holds while the hit are ranked -/
theorem hg_col {α : Type} (N : Nat → Nat → α) (j u : Nat) (v : α) : (tg_up N j u v) j = va_up (N j) u v := by
  funext i
  simp [tg_up, va_up]
theorem hg_oth {α : Type} (N : Nat → Nat → α) {j k : Nat} (u : Nat) (v : α) (h : k ≠ j) : (tg_up N j u v) k = N k := by
  funext i
  simp [tg_up, h]
theorem hg_hk_eq {N N' : Nat → Nat → Nat} {bc : Nat → Int32} {sp : Nat → Nat → Int32} {f g : Nat} (h1 : N' 1 = N 1) (h3 : N' 3 = N 3) : hg_hk N' bc sp f g ↔ hg_hk N bc sp f g := by
  unfold hg_hk
  rw [h1, h3]
theorem hg_kf_le {e : Nat → Nat → Prop} {N : Nat} : ∀ t f, hg_kf e N t f ≤ t
  | 0, _ => Nat.le_refl 0
  | t + 1, f => by
    rw [hg_kf_s]
    have h1 := hg_mx_bd (e := e) (K := hg_kf e N t) (f := f) (b := t) N (fun g _ _ => hg_kf_le t g)
    by_cases z : hg_O e f
    · rw [hg_bK_f (fun q => q z)]
      exact Nat.zero_le _
    · rw [hg_bK_t z]
      omega
theorem hg_K_le {e : Nat → Nat → Prop} {N f : Nat} : hg_K e N f ≤ N + 1 := hg_kf_le (N + 1) f
/-- what stays: blocks, the list of the hit, who hangs on whom -/
def hg_SV (T : Nat → Prop) (ad : Nat → Nat → Nat) (a : Nat → Nat → Option Nat) (G : Nat → Nat) (N : Nat → Nat → Nat) (bc : Nat → Int32) (sp : Nat → Nat → Int32) (e : Nat → Nat → Prop) (hits : Nat → Nat) : Prop :=
  (∀ u, T u → N 1 u ≤ N 3 u ∧ N 3 u < 20) ∧ G 2 ≤ 400 ∧ (∀ i, i < G 2 → T (hits i) ∧ a 2 i = some (ad 8 (hits i))) ∧
  (∀ u v, e u v → (∃ i, i < G 2 ∧ hits i = u) ∧ ∃ i, i < G 2 ∧ hits i = v) ∧ (∀ i j, i < G 2 → j < G 2 → (e (hits i) (hits j) ↔ hg_hk N bc sp (hits i) (hits j))) ∧ ∀ u, T u → u < 400
/-- what changes: path, open, numbers; look: how far each has looked -/
def hg_DV (T : Nat → Prop) (ad : Nat → Nat → Nat) (a : Nat → Nat → Option Nat) (G : Nat → Nat) (N : Nat → Nat → Nat) (look : Nat → Nat) (e : Nat → Nat → Prop) (hits pa op : Nat → Nat) : Prop :=
  (G 3 ≤ 400 ∧ ∀ k, k < G 3 → T (pa k) ∧ a 3 k = some (ad 8 (pa k))) ∧ (G 4 ≤ 400 ∧ ∀ k, k < G 4 → T (op k) ∧ a 4 k = some (ad 8 (op k))) ∧
  hg_T e hits (G 2) (N 11) (N 12) look (fun u => N 14 u ≠ 0) pa (G 3) op (G 4) (G 5) ∧ hg_cn (fun u => N 11 u ≠ 0) 400 = G 5 ∧
  (∀ u, N 14 u ≠ 0 → (N 9 u ≠ 0 ↔ hg_O e u) ∧ N 10 u = hg_K e 400 u) ∧ (∀ u, N 14 u = 0 → N 9 u = 0 ∧ N 10 u = 0) ∧ ∀ u, look u ≤ G 2
theorem hg_T_17 {e : Nat → Nat → Prop} {hits : Nat → Nat} {hc : Nat} {num low look : Nat → Nat} {stl : Nat → Prop} {path : Nat → Nat} {pl : Nat} {opn : Nat → Nat} {oc last : Nat} (hT : hg_T e hits hc num low look stl path pl opn oc last) : ∀ u, num u ≠ 0 → ∃ i, i < hc ∧ hits i = u := by
  obtain ⟨t1, t2, t3, t4, t5, t6, t7, t8, t9, t10, t11, t12, t13, t14, t15, t16, t17, t18⟩ := hT
  exact t17
/-- what the walk keeps: what came before it in a, G, N -/
def hg_WK (T : Nat → Prop) (ad : Nat → Nat → Nat) (bc : Nat → Int32) (sp : Nat → Nat → Int32) (e : Nat → Nat → Prop) (hits : Nat → Nat) (a0 : Nat → Nat → Option Nat) (G0 : Nat → Nat) (N0 : Nat → Nat → Nat) (a : Nat → Nat → Option Nat) (G : Nat → Nat) (N : Nat → Nat → Nat) (pa op : Nat → Nat) : Prop :=
  hg_SV T ad a G N bc sp e hits ∧ hg_DV T ad a G N (N 13) e hits pa op ∧ (∀ j, j < 9 → N j = N0 j) ∧ (G 0 = G0 0 ∧ G 1 = G0 1 ∧ G 2 = G0 2) ∧ (a 0 = a0 0 ∧ a 1 = a0 1 ∧ a 2 = a0 2) ∧ (∀ j u, N j u < 1000000) ∧ (∀ k, G k < 1000000) ∧ (∀ u, N0 14 u ≠ 0 → N 14 u ≠ 0) ∧ G0 5 ≤ G 5
section HGI
variable {T : Nat → Prop} {ad : Nat → Nat → Nat} {a : Nat → Nat → Option Nat} {G : Nat → Nat} {N N' : Nat → Nat → Nat} {bc : Nat → Int32} {sp : Nat → Nat → Int32} {e : Nat → Nat → Prop} {hits pa op look : Nat → Nat}
theorem hg_SV.to (h : hg_SV T ad a G N bc sp e hits) {a' : Nat → Nat → Option Nat} {G' : Nat → Nat} (h1 : N' 1 = N 1) (h3 : N' 3 = N 3) (ha : a' 2 = a 2) (hG : G' 2 = G 2) : hg_SV T ad a' G' N' bc sp e hits := by
  obtain ⟨s1, s2, s3, s4, s5, s6⟩ := h
  unfold hg_SV
  rw [h1, h3, ha, hG]
  exact ⟨s1, s2, s3, s4, fun i j hi hj => (s5 i j hi hj).trans (hg_hk_eq h1 h3).symm, s6⟩
theorem hg_DV.last (h : hg_DV T ad a G N look e hits pa op) : G 5 ≤ 400 := by
  rw [← h.2.2.2.1]
  exact hg_cn_bd _ 400
theorem hg_DV.rank (h : hg_DV T ad a G N look e hits pa op) (u : Nat) : N 10 u < 1000 := by
  obtain ⟨-, -, -, -, h5, h6, -⟩ := h
  by_cases z : N 14 u = 0
  · rw [(h6 u z).2]
    omega
  · rw [(h5 u z).2]
    have := hg_K_le (e := e) (N := 400) (f := u)
    omega
theorem hg_DV.num (h : hg_DV T ad a G N look e hits pa op) (u : Nat) : N 11 u ≤ 400 := Nat.le_trans (h.2.2.1.2.1 u) h.last
theorem hg_DV.low (h : hg_DV T ad a G N look e hits pa op) {k : Nat} (hk : k < G 3) : N 12 (pa k) ≤ 400 := by
  have t6 := h.2.2.1.2.2.2.2.2.1 k hk
  have t10 := (h.2.2.1.2.2.2.2.2.2.2.2.2.1 (pa k) t6).1
  exact Nat.le_trans t10 (h.num _)
/-- the next one is settled, or no step goes there -/
theorem hg_DV.skip {v i : Nat} (h : hg_DV T ad a G N (va_up look v i) e hits pa op) (h0 : 0 < G 3) (hv : pa (G 3 - 1) = v) (hi : i < G 2) (hs : e v (hits i) → N 14 (hits i) ≠ 0) : hg_DV T ad a G N (va_up look v (i + 1)) e hits pa op := by
  obtain ⟨d1, d2, d3, d4, d5, d6, d7⟩ := h
  have t := hg_T_skip d3 h0 hv (va_up_self look v i) (fun _ z => hs z)
  rw [bx_uu] at t
  refine ⟨d1, d2, t, d4, d5, d6, fun u => ?_⟩
  by_cases z : u = v
  · rw [z, va_up_self]
    omega
  · rw [va_up_ne _ _ z]
    have := d7 u
    rw [va_up_ne _ _ z] at this
    exact this
theorem hg_DV.lower {v i : Nat} (h : hg_DV T ad a G N (va_up look v i) e hits pa op) (h0 : 0 < G 3) (hv : pa (G 3 - 1) = v) (hi : i < G 2) (he : e v (hits i)) (hn : N 11 (hits i) ≠ 0) (hs : N 14 (hits i) = 0) : hg_DV T ad a G (tg_up N 12 v (Nat.min (N 12 v) (N 11 (hits i)))) (va_up look v (i + 1)) e hits pa op := by
  obtain ⟨d1, d2, d3, d4, d5, d6, d7⟩ := h
  have t := hg_T_lower d3 h0 hv (va_up_self look v i) he hn (fun z => z hs)
  rw [bx_uu] at t
  unfold hg_DV
  rw [hg_col, hg_oth N (j := 12) (k := 11) _ _ (by decide), hg_oth N (j := 12) (k := 14) _ _ (by decide), hg_oth N (j := 12) (k := 9) _ _ (by decide), hg_oth N (j := 12) (k := 10) _ _ (by decide)]
  refine ⟨d1, d2, t, d4, d5, d6, fun u => ?_⟩
  by_cases z : u = v
  · rw [z, va_up_self]
    omega
  · rw [va_up_ne _ _ z]
    have := d7 u
    rw [va_up_ne _ _ z] at this
    exact this
/-- a field that the walk does not read -/
theorem hg_DV.col13 {v x : Nat} (h : hg_DV T ad a G N look e hits pa op) : hg_DV T ad a G (tg_up N 13 v x) look e hits pa op := by
  unfold hg_DV
  rw [hg_oth N (j := 13) (k := 12) _ _ (by decide), hg_oth N (j := 13) (k := 11) _ _ (by decide), hg_oth N (j := 13) (k := 14) _ _ (by decide), hg_oth N (j := 13) (k := 9) _ _ (by decide), hg_oth N (j := 13) (k := 10) _ _ (by decide)]
  exact h
/-- the walk comes to x, from the path's end or to begin with -/
theorem hg_DV.enter {v i x : Nat} {look' : Nat → Nat} (h : hg_DV T ad a G N look e hits pa op) (hx : N 11 x = 0) (hxT : T x) (hx4 : x < 400) (hxh : ∃ i, i < G 2 ∧ hits i = x) (hl : (G 3 = 0 ∧ look' = look) ∨ (0 < G 3 ∧ pa (G 3 - 1) = v ∧ look v = i ∧ hits i = x ∧ i < G 2 ∧ e v x ∧ look' = va_up look v (i + 1))) :
    G 3 < 400 ∧ G 4 < 400 ∧ hg_DV T ad (va_up (va_up a 3 (va_up (a 3) (G 3) (some (ad 8 x)))) 4 (va_up (a 4) (G 4) (some (ad 8 x)))) (va_up (va_up (va_up G 5 (G 5 + 1)) 3 (G 3 + 1)) 4 (G 4 + 1)) (tg_up (tg_up N 11 x (G 5 + 1)) 12 x (G 5 + 1)) look' e hits (va_up pa (G 3) x) (va_up op (G 4) x) := by
  have hlast : G 5 < 400 := by
    rw [← h.2.2.2.1]
    exact hg_cn_room (x := x) (fun z => z hx) hx4
  obtain ⟨d1, d2, d3, d4, d5, d6, d7⟩ := h
  have opn : ∀ u, hg_op (N 11) (fun u => N 14 u ≠ 0) u → 1 ≤ N 11 u ∧ N 11 u ≤ G 5 := fun u hu => ⟨Nat.pos_of_ne_zero hu.1, d3.2.1 u⟩
  have cnt : ∀ (f : Nat → Nat) (n : Nat), (∀ i j, i < j → j < n → N 11 (f i) < N 11 (f j)) → (∀ k, k < n → 1 ≤ N 11 (f k) ∧ N 11 (f k) ≤ G 5) → n ≤ G 5 := by
    intro f n hf hb
    have key : ∀ k, k < n → k + 1 ≤ N 11 (f k) := by
      intro k
      induction k with
      | zero => exact fun h0 => (hb 0 h0).1
      | succ k ih =>
        intro hk
        have h1 := ih (by omega)
        have h2 := hf k (k + 1) (by omega) hk
        omega
    by_cases z : n = 0
    · omega
    · have h1 := key (n - 1) (by omega)
      have h2 := (hb (n - 1) (by omega)).2
      omega
  have hp : G 3 ≤ G 5 := cnt pa (G 3) d3.2.2.2.2.2.2.1 (fun k hk => opn _ (d3.2.2.2.2.2.1 k hk))
  have ho : G 4 ≤ G 5 := cnt op (G 4) d3.2.2.2.2.1 (fun k hk => opn _ (d3.2.2.1 k hk))
  have t : hg_T e hits (G 2) (va_up (N 11) x (G 5 + 1)) (va_up (N 12) x (G 5 + 1)) look' (fun u => N 14 u ≠ 0) (va_up pa (G 3) x) (G 3 + 1) (va_up op (G 4) x) (G 4 + 1) (G 5 + 1) := by
    refine hg_T_enter d3 hx hxh (fun u hu => ?_) (fun u j hu hj hj2 he => ?_) (fun hpos => ?_)
    · rcases hl with ⟨z1, z2⟩ | ⟨z1, z2, z3, z4, z5, z6, z7⟩
      · rw [z2]
      · rw [z7, va_up_ne _ _ (fun q => hu ⟨G 3 - 1, by omega, by rw [z2]; exact q.symm⟩)]
    · rcases hl with ⟨z1, z2⟩ | ⟨z1, z2, z3, z4, z5, z6, z7⟩
      · rw [z2] at hj
        exact Or.inl (d3.2.2.2.2.2.2.2.2.2.2.2.1 u j hu hj hj2 he)
      · by_cases q : u = v
        · rw [z7, q, va_up_self] at hj
          by_cases q2 : j = i
          · exact Or.inr ⟨by rw [q2]; exact z4, z1, by rw [q]; exact z2.symm⟩
          · exact Or.inl (d3.2.2.2.2.2.2.2.2.2.2.2.1 u j hu (by rw [q, z3]; omega) hj2 he)
        · rw [z7, va_up_ne _ _ q] at hj
          exact Or.inl (d3.2.2.2.2.2.2.2.2.2.2.2.1 u j hu hj hj2 he)
    · rcases hl with ⟨z1, z2⟩ | ⟨z1, z2, z3, z4, z5, z6, z7⟩
      · omega
      · rw [z2]
        exact z6
  refine ⟨by omega, by omega, ?_⟩
  have g2 : va_up (va_up (va_up G 5 (G 5 + 1)) 3 (G 3 + 1)) 4 (G 4 + 1) 2 = G 2 := by simp [va_up]
  have g3 : va_up (va_up (va_up G 5 (G 5 + 1)) 3 (G 3 + 1)) 4 (G 4 + 1) 3 = G 3 + 1 := by simp [va_up]
  have g4 : va_up (va_up (va_up G 5 (G 5 + 1)) 3 (G 3 + 1)) 4 (G 4 + 1) 4 = G 4 + 1 := by simp [va_up]
  have g5 : va_up (va_up (va_up G 5 (G 5 + 1)) 3 (G 3 + 1)) 4 (G 4 + 1) 5 = G 5 + 1 := by simp [va_up]
  have a3 : va_up (va_up a 3 (va_up (a 3) (G 3) (some (ad 8 x)))) 4 (va_up (a 4) (G 4) (some (ad 8 x))) 3 = va_up (a 3) (G 3) (some (ad 8 x)) := by simp [va_up]
  have a4 : va_up (va_up a 3 (va_up (a 3) (G 3) (some (ad 8 x)))) 4 (va_up (a 4) (G 4) (some (ad 8 x))) 4 = va_up (a 4) (G 4) (some (ad 8 x)) := by simp [va_up]
  have c11 : (tg_up (tg_up N 11 x (G 5 + 1)) 12 x (G 5 + 1)) 11 = va_up (N 11) x (G 5 + 1) := by rw [hg_oth _ _ _ (by decide), hg_col]
  have c12 : (tg_up (tg_up N 11 x (G 5 + 1)) 12 x (G 5 + 1)) 12 = va_up (N 12) x (G 5 + 1) := by rw [hg_col, hg_oth _ _ _ (by decide)]
  have co : ∀ j, j ≠ 11 → j ≠ 12 → (tg_up (tg_up N 11 x (G 5 + 1)) 12 x (G 5 + 1)) j = N j := fun j h1 h2 => by rw [hg_oth _ _ _ h2, hg_oth _ _ _ h1]
  unfold hg_DV
  rw [g2, g3, g4, g5, a3, a4, c11, c12, co 14 (by decide) (by decide), co 9 (by decide) (by decide), co 10 (by decide) (by decide)]
  refine ⟨⟨by omega, fun k hk => ?_⟩, ⟨by omega, fun k hk => ?_⟩, t, ?_, d5, d6, fun u => ?_⟩
  · by_cases z : k = G 3
    · rw [z, va_up_self, va_up_self]
      exact ⟨hxT, rfl⟩
    · rw [va_up_ne _ _ z, va_up_ne _ _ z]
      exact d1.2 k (by omega)
  · by_cases z : k = G 4
    · rw [z, va_up_self, va_up_self]
      exact ⟨hxT, rfl⟩
    · rw [va_up_ne _ _ z, va_up_ne _ _ z]
      exact d2.2 k (by omega)
  · have e1 : hg_cn (fun u => va_up (N 11) x (G 5 + 1) u ≠ 0) 400 = hg_cn (fun u => (fun k => N 11 k ≠ 0) u ∨ u = x) 400 := hg_cn_congr 400 (fun k _ => by
      by_cases z : k = x
      · rw [z, va_up_self]
        exact ⟨fun _ => Or.inr rfl, fun _ => by omega⟩
      · rw [va_up_ne _ _ z]
        exact ⟨Or.inl, fun q => q.elim id fun q => absurd q z⟩)
    rw [e1, hg_cn_add (P := fun k => N 11 k ≠ 0) (fun z => z hx) 400, d4, hg_b_t hx4]
  · rcases hl with ⟨z1, z2⟩ | ⟨z1, z2, z3, z4, z5, z6, z7⟩
    · rw [z2]
      exact d7 u
    · by_cases q : u = v
      · rw [z7, q, va_up_self]
        omega
      · rw [z7, va_up_ne _ _ q]
        exact d7 u
/-- the walk goes back from v, whose group stays open -/
theorem hg_DV.leave {v : Nat} (h : hg_DV T ad a G N look e hits pa op) (h0 : 0 < G 3) (hv : pa (G 3 - 1) = v) (hlk : G 2 ≤ look v) (hne : N 12 v ≠ N 11 v) : 2 ≤ G 3 ∧ hg_DV T ad a (va_up G 3 (G 3 - 1)) (tg_up N 12 (pa (G 3 - 1 - 1)) (Nat.min (N 12 (pa (G 3 - 1 - 1))) (N 12 v))) look e hits pa op := by
  obtain ⟨d1, d2, d3, d4, d5, d6, d7⟩ := h
  have h2 := hg_T_up d3 h0 hv hne
  obtain ⟨q, hq⟩ : ∃ q, G 3 = q + 2 := ⟨G 3 - 2, by omega⟩
  have e1 : G 3 - 1 = q + 1 := by omega
  have e2 : G 3 - 1 - 1 = q := by omega
  rw [hq] at d3
  have hv' : pa (q + 1) = v := by rw [← e1]; exact hv
  have t := hg_T_leave d3 hv' rfl hlk hne
  refine ⟨h2, ?_⟩
  have g2 : va_up G 3 (G 3 - 1) 2 = G 2 := by simp [va_up]
  have g3 : va_up G 3 (G 3 - 1) 3 = q + 1 := by rw [va_up_self, e1]
  have g4 : va_up G 3 (G 3 - 1) 4 = G 4 := by simp [va_up]
  have g5 : va_up G 3 (G 3 - 1) 5 = G 5 := by simp [va_up]
  unfold hg_DV
  rw [g2, g3, g4, g5, e2, hg_col, hg_oth N (j := 12) (k := 11) _ _ (by decide), hg_oth N (j := 12) (k := 14) _ _ (by decide), hg_oth N (j := 12) (k := 9) _ _ (by decide), hg_oth N (j := 12) (k := 10) _ _ (by decide)]
  exact ⟨⟨by omega, fun k hk => d1.2 k (by omega)⟩, d2, t, d4, d5, d6, d7⟩
/-- .. and where its group is closed: the lowest number above stays -/
theorem hg_DV.same {v : Nat} (h : hg_DV T ad a G N look e hits pa op) (h0 : 1 < G 3) (hv : pa (G 3 - 1) = v) (heq : N 12 v = N 11 v) : Nat.min (N 12 (pa (G 3 - 1 - 1))) (N 12 v) = N 12 (pa (G 3 - 1 - 1)) := by
  have t6 := h.2.2.1.2.2.2.2.2.1
  have t7 := h.2.2.1.2.2.2.2.2.2.1
  have t10 := h.2.2.1.2.2.2.2.2.2.2.2.2.1
  have h1 := (t10 _ (t6 (G 3 - 1 - 1) (by omega))).1
  have h2 := t7 (G 3 - 1 - 1) (G 3 - 1) (by omega) (by omega)
  rw [hv] at h2
  exact Nat.min_eq_left (by omega)
theorem hg_up_same {G : Nat → Nat} {k x : Nat} (h : x = G k) : va_up G k x = G := by
  funext a
  unfold va_up
  by_cases z : a = k
  · rw [if_pos z, z]
    exact h
  · rw [if_neg z]
theorem hg_tg_same {N : Nat → Nat → Nat} {j u x : Nat} (h : x = N j u) : tg_up N j u x = N := by
  funext a b
  unfold tg_up
  by_cases z : a = j ∧ b = u
  · rw [if_pos z, z.1, z.2]
    exact h
  · rw [if_neg z]
/-- the group of v closed: who it was -/
theorem hg_DV.group {v : Nat} (h : hg_DV T ad a G N look e hits pa op) (h0 : 0 < G 3) (hv : pa (G 3 - 1) = v) : hg_op (N 11) (fun u => N 14 u ≠ 0) v ∧ ∃ k, k < G 4 ∧ op k = v := by
  have t4 := h.2.2.1.2.2.2.1
  have t6 := h.2.2.1.2.2.2.2.2.1
  have hop := t6 (G 3 - 1) (by omega)
  rw [hv] at hop
  exact ⟨hop, t4 v hop⟩
/-- v alone, with no step to itself -/
theorem hg_DV.alone {v : Nat} (hS : hg_SV T ad a G N bc sp e hits) (h : hg_DV T ad a G N look e hits pa op) (h0 : 0 < G 3) (hv : pa (G 3 - 1) = v) (hlk : G 2 ≤ look v) (heq : N 12 v = N 11 v) (ho : 0 < G 4) (hal : op (G 4 - 1) = v) (hno : ¬ e v v) :
    hg_DV T ad a (va_up (va_up G 3 (G 3 - 1)) 4 (G 4 - 1)) (tg_up (tg_up N 10 v (1 + hg_mx e (N 10) v 400)) 14 v 1) look e hits pa op := by
  obtain ⟨hop, -⟩ := h.group h0 hv
  obtain ⟨d1, d2, d3, d4, d5, d6, d7⟩ := h
  have hee : ∀ x y, e x y → ∃ i, i < G 2 ∧ hits i = y := fun x y z => (hS.2.2.2.1 x y z).2
  have t4 := d3.2.2.2.1
  have t5 := d3.2.2.2.2.1
  have one : ∀ w, hg_G (N 11) (fun u => N 14 u ≠ 0) v w → w = v := fun w hw => by
    obtain ⟨k, hk1, hk2⟩ := t4 w hw.1
    by_cases z : k = G 4 - 1
    · rw [← hk2, z]
      exact hal
    · have h1 := t5 k (G 4 - 1) (by omega) (by omega)
      rw [hk2, hal] at h1
      have := hw.2
      omega
  obtain ⟨nO, allS⟩ := hg_T_alone d3 hee h0 hv hlk heq hno one
  have t := hg_T_close (stl' := fun u => N 14 u ≠ 0 ∨ u = v) (oc' := G 4 - 1) d3 hee h0 hv hlk heq (fun u => ⟨fun z => z.elim Or.inl fun z => Or.inr ⟨by rw [z]; exact hop, by rw [z]; exact Nat.le_refl _⟩, fun z => z.elim Or.inl fun z => Or.inr (one u z)⟩) (by omega) (fun k hk => by
    have h1 := t5 k (G 4 - 1) (by omega) (by omega)
    rw [hal] at h1
    exact h1) (fun k h1 h2 => by
    have : k = G 4 - 1 := by omega
    rw [this, hal]
    exact Nat.le_refl _)
  have g2 : va_up (va_up G 3 (G 3 - 1)) 4 (G 4 - 1) 2 = G 2 := by simp [va_up]
  have g3 : va_up (va_up G 3 (G 3 - 1)) 4 (G 4 - 1) 3 = G 3 - 1 := by simp [va_up]
  have g4 : va_up (va_up G 3 (G 3 - 1)) 4 (G 4 - 1) 4 = G 4 - 1 := by simp [va_up]
  have g5 : va_up (va_up G 3 (G 3 - 1)) 4 (G 4 - 1) 5 = G 5 := by simp [va_up]
  have c14 : (tg_up (tg_up N 10 v (1 + hg_mx e (N 10) v 400)) 14 v 1) 14 = va_up (N 14) v 1 := by rw [hg_col, hg_oth _ _ _ (by decide)]
  have c10 : (tg_up (tg_up N 10 v (1 + hg_mx e (N 10) v 400)) 14 v 1) 10 = va_up (N 10) v (1 + hg_mx e (N 10) v 400) := by rw [hg_oth _ _ _ (by decide), hg_col]
  have co : ∀ j, j ≠ 10 → j ≠ 14 → (tg_up (tg_up N 10 v (1 + hg_mx e (N 10) v 400)) 14 v 1) j = N j := fun j h1 h2 => by rw [hg_oth _ _ _ h2, hg_oth _ _ _ h1]
  have st : ∀ u, va_up (N 14) v 1 u ≠ 0 ↔ (N 14 u ≠ 0 ∨ u = v) := fun u => by
    by_cases z : u = v
    · rw [z, va_up_self]
      exact ⟨fun _ => Or.inr rfl, fun _ => by omega⟩
    · rw [va_up_ne _ _ z]
      exact ⟨Or.inl, fun q => q.elim id fun q => absurd q z⟩
  have v14 : N 14 v = 0 := Decidable.byContradiction fun z => hop.2 z
  unfold hg_DV
  rw [g2, g3, g4, g5, c14, c10, co 11 (by decide) (by decide), co 12 (by decide) (by decide), co 9 (by decide) (by decide)]
  refine ⟨⟨by omega, fun k hk => d1.2 k (by omega)⟩, ⟨by omega, fun k hk => d2.2 k (by omega)⟩, ?_, d4, fun u hu => ?_, fun u hu => ?_, d7⟩
  · have e1 : (fun u => va_up (N 14) v 1 u ≠ 0) = (fun u => N 14 u ≠ 0 ∨ u = v) := funext fun u => propext (st u)
    rw [e1]
    exact t
  · by_cases z : u = v
    · rw [z, va_up_self]
      refine ⟨⟨fun q => absurd (d6 v v14).1 q, fun q => absurd q nO⟩, ?_⟩
      have q9 : hg_mx e (N 10) v 400 = hg_mx e (hg_K e 400) v 400 := hg_mx_congr 400 fun g _ he => (d5 g (allS g he)).2
      rw [hg_K_n nO, q9]
    · rw [va_up_ne _ _ z] at hu ⊢
      exact d5 u hu
  · have z : u ≠ v := fun z => by
      rw [z, va_up_self] at hu
      omega
    rw [va_up_ne _ _ z] at hu ⊢
    exact d6 u hu
/-- what was opened from c on is closed, and round -/
noncomputable def hg_cl (N : Nat → Nat → Nat) (op : Nat → Nat) (c n : Nat) : Nat → Nat → Nat := fun j u => @ite Nat ((j = 9 ∨ j = 14) ∧ ∃ k, c ≤ k ∧ k < n ∧ op k = u) (Classical.propDecidable _) 1 (N j u)
theorem hg_cl_t {c n j u : Nat} (h : (j = 9 ∨ j = 14) ∧ ∃ k, c ≤ k ∧ k < n ∧ op k = u) : hg_cl N op c n j u = 1 := if_pos h
theorem hg_cl_f {c n j u : Nat} (h : ¬ ((j = 9 ∨ j = 14) ∧ ∃ k, c ≤ k ∧ k < n ∧ op k = u)) : hg_cl N op c n j u = N j u := if_neg h
theorem hg_cl_0 {n : Nat} : hg_cl N op n n = N := by
  funext j u
  refine hg_cl_f fun z => ?_
  obtain ⟨-, k, h1, h2, -⟩ := z
  omega
theorem hg_cl_s {c n : Nat} (h : c < n) : tg_up (tg_up (hg_cl N op (c + 1) n) 9 (op c) 1) 14 (op c) 1 = hg_cl N op c n := by
  funext j u
  by_cases z : (j = 9 ∨ j = 14) ∧ u = op c
  · rw [hg_cl_t ⟨z.1, c, Nat.le_refl _, h, z.2.symm⟩]
    rcases z.1 with q | q
    · rw [q, hg_oth _ _ _ (by decide), hg_col, z.2, va_up_self]
    · rw [q, hg_col, z.2, va_up_self]
  · have e1 : tg_up (tg_up (hg_cl N op (c + 1) n) 9 (op c) 1) 14 (op c) 1 j u = hg_cl N op (c + 1) n j u := by
      rw [tg_up_ne _ _ (fun q => z ⟨Or.inr q.1, q.2⟩), tg_up_ne _ _ (fun q => z ⟨Or.inl q.1, q.2⟩)]
    rw [e1]
    by_cases y : (j = 9 ∨ j = 14) ∧ ∃ k, c ≤ k ∧ k < n ∧ op k = u
    · obtain ⟨y1, k, y2, y3, y4⟩ := y
      have yc : c ≠ k := fun q => z ⟨y1, by rw [q]; exact y4.symm⟩
      rw [hg_cl_t ⟨y1, k, y2, y3, y4⟩, hg_cl_t ⟨y1, k, by omega, y3, y4⟩]
    · rw [hg_cl_f y, hg_cl_f (fun q => y ⟨q.1, by obtain ⟨-, k, q1, q2, q3⟩ := q; exact ⟨k, by omega, q2, q3⟩⟩)]
theorem hg_DV.round {v c : Nat} (hS : hg_SV T ad a G N bc sp e hits) (h : hg_DV T ad a G N look e hits pa op) (h0 : 0 < G 3) (hv : pa (G 3 - 1) = v) (hlk : G 2 ≤ look v) (heq : N 12 v = N 11 v) (hc : c ≤ G 4) (hhi : ∀ k, c ≤ k → k < G 4 → N 11 v ≤ N 11 (op k)) (hlo : c = 0 ∨ N 11 (op (c - 1)) < N 11 v) (hbig : e v v ∨ op (G 4 - 1) ≠ v) :
    hg_DV T ad a (va_up (va_up G 3 (G 3 - 1)) 4 c) (hg_cl N op c (G 4)) look e hits pa op := by
  obtain ⟨hop, kv, hkv1, hkv2⟩ := h.group h0 hv
  obtain ⟨d1, d2, d3, d4, d5, d6, d7⟩ := h
  have hee : ∀ x y, e x y → ∃ i, i < G 2 ∧ hits i = y := fun x y z => (hS.2.2.2.1 x y z).2
  have t3 := d3.2.2.1
  have t4 := d3.2.2.2.1
  have t5 := d3.2.2.2.2.1
  have lo : ∀ k, k < c → N 11 (op k) < N 11 v := fun k hk => by
    rcases hlo with z | z
    · omega
    · by_cases q : k = c - 1
      · rw [q]
        exact z
      · have := t5 k (c - 1) (by omega) (by omega)
        omega
  have inG : ∀ u, hg_G (N 11) (fun u => N 14 u ≠ 0) v u ↔ ∃ k, c ≤ k ∧ k < G 4 ∧ op k = u := fun u => by
    constructor
    · intro z
      obtain ⟨k, h1, h2⟩ := t4 u z.1
      refine ⟨k, ?_, h1, h2⟩
      by_cases q : c ≤ k
      · exact q
      · have := lo k (by omega)
        rw [h2] at this
        have := z.2
        omega
    · intro ⟨k, h1, h2, h3⟩
      rw [← h3]
      exact ⟨t3 k h2, hhi k h1 h2⟩
  have big : e v v ∨ ∃ w, hg_G (N 11) (fun u => N 14 u ≠ 0) v w ∧ w ≠ v := by
    rcases hbig with z | z
    · exact Or.inl z
    · refine Or.inr ⟨op (G 4 - 1), (inG _).2 ⟨G 4 - 1, ?_, by omega, rfl⟩, z⟩
      by_cases q : c ≤ G 4 - 1
      · exact q
      · have := lo kv (by omega)
        rw [hkv2] at this
        omega
  have rnd : ∀ u, hg_G (N 11) (fun u => N 14 u ≠ 0) v u → hg_O e u := fun u hu => hg_T_round d3 h0 hv heq big hu
  have c14 : ∀ u, hg_cl N op c (G 4) 14 u ≠ 0 ↔ (N 14 u ≠ 0 ∨ hg_G (N 11) (fun u => N 14 u ≠ 0) v u) := fun u => by
    by_cases z : ∃ k, c ≤ k ∧ k < G 4 ∧ op k = u
    · rw [hg_cl_t ⟨Or.inr rfl, z⟩]
      exact ⟨fun _ => Or.inr ((inG u).2 z), fun _ => by omega⟩
    · rw [hg_cl_f (fun q => z q.2)]
      exact ⟨Or.inl, fun q => q.elim id fun q => absurd ((inG u).1 q) z⟩
  have co : ∀ j, j ≠ 9 → j ≠ 14 → hg_cl N op c (G 4) j = N j := fun j h1 h2 => funext fun u => hg_cl_f (fun q => q.1.elim h1 h2)
  have t := hg_T_close (stl' := fun u => hg_cl N op c (G 4) 14 u ≠ 0) (oc' := c) d3 hee h0 hv hlk heq c14 hc lo hhi
  have g2 : va_up (va_up G 3 (G 3 - 1)) 4 c 2 = G 2 := by simp [va_up]
  have g3 : va_up (va_up G 3 (G 3 - 1)) 4 c 3 = G 3 - 1 := by simp [va_up]
  have g4 : va_up (va_up G 3 (G 3 - 1)) 4 c 4 = c := by simp [va_up]
  have g5 : va_up (va_up G 3 (G 3 - 1)) 4 c 5 = G 5 := by simp [va_up]
  unfold hg_DV
  rw [g2, g3, g4, g5, co 11 (by decide) (by decide), co 12 (by decide) (by decide), co 10 (by decide) (by decide)]
  refine ⟨⟨by omega, fun k hk => d1.2 k (by omega)⟩, ⟨by omega, fun k hk => d2.2 k (by omega)⟩, t, d4, fun u hu => ?_, fun u hu => ?_, d7⟩
  · by_cases z : ∃ k, c ≤ k ∧ k < G 4 ∧ op k = u
    · have hG := (inG u).2 z
      have u14 : N 14 u = 0 := Decidable.byContradiction fun q => hG.1.2 q
      rw [hg_cl_t ⟨Or.inl rfl, z⟩]
      refine ⟨⟨fun _ => rnd u hG, fun _ => by omega⟩, ?_⟩
      rw [(d6 u u14).2, hg_K_O (rnd u hG)]
    · rw [hg_cl_f (fun q => z q.2)] at hu
      rw [hg_cl_f (fun q => z q.2)]
      exact d5 u hu
  · have z : ¬ ∃ k, c ≤ k ∧ k < G 4 ∧ op k = u := fun z => by
      rw [hg_cl_t ⟨Or.inr rfl, z⟩] at hu
      omega
    rw [hg_cl_f (fun q => z q.2)] at hu
    rw [hg_cl_f (fun q => z q.2)]
    exact d6 u hu
/-- nothing is on the path: who was come to is settled, who isn't was not come to -/
theorem hg_DV.none (h : hg_DV T ad a G N look e hits pa op) (h0 : G 3 = 0) (u : Nat) : N 11 u ≠ 0 ↔ N 14 u ≠ 0 := by
  obtain ⟨-, -, d3, -⟩ := h
  obtain ⟨t1, t2, t3, t4, t5, t6, t7, t8, t9, t10, t11, t12, t13, t14, t15, t16, t17, t18⟩ := d3
  refine ⟨fun z => Decidable.byContradiction fun q => ?_, t1 u⟩
  obtain ⟨k, h1, -⟩ := t4 u ⟨z, fun y => q y⟩
  have := t16 h0
  omega
end HGI
