/-! the survey: who hangs on whom, who is hit first -/
/-- f is hit by a dirty cell below c -/
def mo_h (M : Nat → Nat → Nat) (B : Nat → Nat → Nat → Nat) (c f : Nat) : Prop := ∃ k, k < c ∧ M 18 k ≠ 0 ∧ (mo_in M f k ∨ (M 12 f ≠ 0 ∧ mo_sp M B f k))
/-- f hangs on g by a cell below c -/
def mo_g (M : Nat → Nat → Nat) (B : Nat → Nat → Nat → Nat) (c f g : Nat) : Prop := M 12 f ≠ 0 ∧ ∃ k, k < c ∧ mo_in M g k ∧ mo_sp M B f k
/-- what stays and what is cleared below i -/
def mo_V (M : Nat → Nat → Nat) (B : Nat → Nat → Nat → Nat) (M2 : Nat → Nat → Nat) (B2 : Nat → Nat → Nat → Nat) : Prop := (∀ j, j ≠ 19 → j ≠ 20 → j ≠ 21 → M2 j = M j) ∧ (∀ j, j ≠ 23 → B2 j = B j) ∧ (∀ j u, M2 j u < 1000000) ∧ ∀ j u z, B2 j u z < 1000000
theorem mo_sp_e {M M' : Nat → Nat → Nat} {B B' : Nat → Nat → Nat → Nat} (h15 : M' 15 = M 15) (h17 : B' 17 = B 17) (f k : Nat) : mo_sp M' B' f k ↔ mo_sp M B f k := by
  unfold mo_sp
  rw [h15, h17]
theorem mo_bb {B : Nat → Nat → Nat → Nat} (h : ∀ j u z, B j u z < 1000000) {k i x v : Nat} (hv : v < 1000000) : ∀ j u z, (tg_up B k i (va_up (B k i) x v)) j u z < 1000000 := by
  intro j u z
  unfold tg_up
  split
  · unfold va_up
    split
    · exact hv
    · exact h _ _ _
  · exact h _ _ _
theorem mo_V.m {M M2 : Nat → Nat → Nat} {B B2 : Nat → Nat → Nat → Nat} (h : mo_V M B M2 B2) {k x v : Nat} (hk : k = 19 ∨ k = 20 ∨ k = 21) (hv : v < 1000000) : mo_V M B (tg_up M2 k x v) B2 := ⟨fun j q1 q2 q3 => by rw [mo_col _ _ _ (by omega)]; exact h.1 j q1 q2 q3, h.2.1, mo_b0 h.2.2.1 hv, h.2.2.2⟩
theorem mo_V.b {M M2 : Nat → Nat → Nat} {B B2 : Nat → Nat → Nat → Nat} (h : mo_V M B M2 B2) {u x v : Nat} (hv : v < 1000000) : mo_V M B M2 (tg_up B2 23 u (va_up (B2 23 u) x v)) := ⟨h.1, fun j q => by rw [mo_col _ _ _ q]; exact h.2.1 j q, h.2.2.1, mo_bb h.2.2.2 hv⟩
/-- the survey's outer and inner state -/
def mo_S (M : Nat → Nat → Nat) (B : Nat → Nat → Nat → Nat) (c i : Nat) (M2 : Nat → Nat → Nat) (B2 : Nat → Nat → Nat → Nat) : Prop := mo_V M B M2 B2 ∧ (∀ u, u < 400 → M2 20 u = 0 ∧ M2 21 u = 0) ∧
  (∀ u, u < 400 → (M2 19 u ≠ 0 ↔ mo_h M B c u ∨ (M 18 c ≠ 0 ∧ 0 < i ∧ (mo_in M u c ∨ (u + 1 < i ∧ M 12 u ≠ 0 ∧ mo_sp M B u c))))) ∧
  ∀ u v, u < 400 → v < 400 → (B2 23 u v ≠ 0 ↔ mo_g M B c u v ∨ (u + 1 < i ∧ M 12 u ≠ 0 ∧ mo_in M v c ∧ mo_sp M B u c))
section MOS
variable {M M2 : Nat → Nat → Nat} {B B2 : Nat → Nat → Nat → Nat} {c i : Nat}
theorem mo_S.next (h : mo_S M B c 401 M2 B2) : mo_S M B (c + 1) 0 M2 B2 := by
  obtain ⟨h1, h2, h3, h4⟩ := h
  refine ⟨h1, h2, fun u hu => ?_, fun u v hu hv => ?_⟩
  · rw [h3 u hu]
    constructor
    · intro z
      refine Or.inl ?_
      rcases z with ⟨k, k1, k2⟩ | ⟨k1, -, k2⟩
      · exact ⟨k, by omega, k2⟩
      · refine ⟨c, by omega, k1, ?_⟩
        rcases k2 with q | q
        · exact Or.inl q
        · exact Or.inr q.2
    · intro z
      rcases z with ⟨k, k1, k2, k3⟩ | ⟨-, q, -⟩
      · by_cases q : k = c
        · subst q
          refine Or.inr ⟨k2, by decide, ?_⟩
          rcases k3 with q | q
          · exact Or.inl q
          · exact Or.inr ⟨by omega, q⟩
        · exact Or.inl ⟨k, by omega, k2, k3⟩
      · omega
  · rw [h4 u v hu hv]
    constructor
    · intro z
      refine Or.inl ?_
      rcases z with ⟨z0, k, k1, k2⟩ | ⟨k1, k2, k3⟩
      · exact ⟨z0, k, by omega, k2⟩
      · exact ⟨k2, c, by omega, k3⟩
    · intro z
      rcases z with ⟨z0, k, k1, k2⟩ | ⟨q, -⟩
      · by_cases q : k = c
        · subst q
          exact Or.inr ⟨by omega, z0, k2⟩
        · exact Or.inl ⟨z0, k, by omega, k2⟩
      · omega
/-- the cell's owner is seen to -/
theorem mo_S.own (h : mo_S M B c 0 M2 B2) (hn : ∀ g, g < 400 → M 18 c ≠ 0 → ¬ mo_in M g c) : mo_S M B c 1 M2 B2 := by
  obtain ⟨h1, h2, h3, h4⟩ := h
  refine ⟨h1, h2, fun u hu => ?_, fun u v hu hv => ?_⟩
  · rw [h3 u hu]
    exact ⟨fun z => z.elim Or.inl (fun q => absurd q.2.1 (by omega)), fun z => z.elim Or.inl (fun q => q.2.2.elim (fun y => absurd y (hn u hu q.1)) (fun y => absurd y.1 (by omega)))⟩
  · rw [h4 u v hu hv]
    exact ⟨fun z => z.elim Or.inl (fun q => absurd q.1 (by omega)), fun z => z.elim Or.inl (fun q => absurd q.1 (by omega))⟩
theorem mo_S.own1 (h : mo_S M B c 0 M2 B2) {g : Nat} (hg : g < 400) (hi : mo_in M g c) (hd : M 18 c ≠ 0) (hu1 : ∀ u, u < 400 → mo_in M u c → u = g) : mo_S M B c 1 (tg_up M2 19 g 1) B2 := by
  obtain ⟨h1, h2, h3, h4⟩ := h
  refine ⟨h1.m (Or.inl rfl) (by decide), fun u hu => by rw [mo_col _ _ _ (by decide), mo_col _ _ _ (by decide)]; exact h2 u hu, fun u hu => ?_, fun u v hu hv => ?_⟩
  · rw [hg_colA]
    by_cases q : u = g
    · subst q
      rw [va_up_self]
      exact ⟨fun _ => Or.inr ⟨hd, by decide, Or.inl hi⟩, fun _ => by decide⟩
    · rw [va_up_ne _ _ q, h3 u hu]
      exact ⟨fun z => z.elim Or.inl (fun q => absurd q.2.1 (by omega)), fun z => z.elim Or.inl (fun y => y.2.2.elim (fun x => absurd (hu1 u hu x) q) (fun x => absurd x.1 (by omega)))⟩
  · rw [h4 u v hu hv]
    exact ⟨fun z => z.elim Or.inl (fun q => absurd q.1 (by omega)), fun z => z.elim Or.inl (fun q => absurd q.1 (by omega))⟩
/-- one more f is seen to: nothing is changed -/
theorem mo_S.skip (h : mo_S M B c (i + 1) M2 B2) (h9 : ∀ v, v < 400 → ¬ (M 12 i ≠ 0 ∧ mo_sp M B i c ∧ (mo_in M v c ∨ M 18 c ≠ 0))) (h8 : 0 < 400) : mo_S M B c (i + 2) M2 B2 := by
  obtain ⟨h1, h2, h3, h4⟩ := h
  refine ⟨h1, h2, fun u hu => ?_, fun u v hu hv => ?_⟩
  · rw [h3 u hu]
    refine ⟨fun z => z.elim Or.inl (fun q => Or.inr ⟨q.1, by omega, q.2.2.elim Or.inl (fun y => Or.inr ⟨by omega, y.2⟩)⟩), fun z => z.elim Or.inl (fun q => Or.inr ⟨q.1, by omega, q.2.2.elim Or.inl (fun y => ?_)⟩)⟩
    by_cases e : u = i
    · subst e
      exact absurd ⟨y.2.1, y.2.2, Or.inr q.1⟩ (h9 0 h8)
    · exact Or.inr ⟨by omega, y.2⟩
  · rw [h4 u v hu hv]
    refine ⟨fun z => z.elim Or.inl (fun q => Or.inr ⟨by omega, q.2⟩), fun z => z.elim Or.inl (fun q => ?_)⟩
    by_cases e : u = i
    · subst e
      exact absurd ⟨q.2.1, q.2.2.2, Or.inl q.2.2.1⟩ (h9 v hv)
    · exact Or.inr ⟨by omega, q.2⟩
/-- f = i speaks of the cell: what is hit, what hangs -/
theorem mo_S.step (h : mo_S M B c (i + 1) M2 B2) (hi : i < 400) (ht : M 12 i ≠ 0) (hs : mo_sp M B i c) {M3 : Nat → Nat → Nat} {B3 : Nat → Nat → Nat → Nat} (hV : mo_V M B M3 B3) (hM : ∀ u, u < 400 → M3 20 u = M2 20 u ∧ M3 21 u = M2 21 u) (h19 : ∀ u, u < 400 → (M3 19 u ≠ 0 ↔ M2 19 u ≠ 0 ∨ (u = i ∧ M 18 c ≠ 0))) (h23 : ∀ u v, u < 400 → v < 400 → (B3 23 u v ≠ 0 ↔ B2 23 u v ≠ 0 ∨ (u = i ∧ mo_in M v c))) : mo_S M B c (i + 2) M3 B3 := by
  obtain ⟨h1, h2, h3, h4⟩ := h
  refine ⟨hV, fun u hu => by rw [(hM u hu).1, (hM u hu).2]; exact h2 u hu, fun u hu => ?_, fun u v hu hv => ?_⟩
  · rw [h19 u hu, h3 u hu]
    constructor
    · intro z
      rcases z with (z | z) | z
      · exact Or.inl z
      · exact Or.inr ⟨z.1, by omega, z.2.2.elim Or.inl (fun y => Or.inr ⟨by omega, y.2⟩)⟩
      · refine Or.inr ⟨z.2, by omega, Or.inr ⟨by omega, ?_⟩⟩
        rw [z.1]
        exact ⟨ht, hs⟩
    · intro z
      rcases z with z | z
      · exact Or.inl (Or.inl z)
      · by_cases e : u = i
        · exact Or.inr ⟨e, z.1⟩
        · exact Or.inl (Or.inr ⟨z.1, by omega, z.2.2.elim Or.inl (fun y => Or.inr ⟨by omega, y.2⟩)⟩)
  · rw [h23 u v hu hv, h4 u v hu hv]
    constructor
    · intro z
      rcases z with (z | z) | z
      · exact Or.inl z
      · exact Or.inr ⟨by omega, z.2⟩
      · refine Or.inr ⟨by omega, ?_⟩
        rw [z.1]
        exact ⟨ht, z.2, hs⟩
    · intro z
      rcases z with z | z
      · exact Or.inl (Or.inl z)
      · by_cases e : u = i
        · exact Or.inr ⟨e, z.2.2.1⟩
        · exact Or.inl (Or.inr ⟨by omega, z.2⟩)
theorem mo_b23 {u v g : Nat} (B2 : Nat → Nat → Nat → Nat) : (tg_up B2 23 i (va_up (B2 23 i) g 1)) 23 u v ≠ 0 ↔ B2 23 u v ≠ 0 ∨ (u = i ∧ v = g) := by
  rw [hg_colA]
  by_cases q : u = i
  · subst q
    rw [va_up_self]
    by_cases z : v = g
    · subst z
      rw [va_up_self]
      exact ⟨fun _ => Or.inr ⟨rfl, rfl⟩, fun _ => by decide⟩
    · rw [va_up_ne _ _ z]
      exact ⟨Or.inl, fun y => y.elim id (fun y => absurd y.2 z)⟩
  · rw [va_up_ne _ _ q]
    exact ⟨Or.inl, fun y => y.elim id (fun y => absurd y.1 q)⟩
theorem mo_m19 {u : Nat} (M2 : Nat → Nat → Nat) : (tg_up M2 19 i 1) 19 u ≠ 0 ↔ M2 19 u ≠ 0 ∨ u = i := by
  rw [hg_colA]
  by_cases q : u = i
  · subst q
    rw [va_up_self]
    exact ⟨fun _ => Or.inr rfl, fun _ => by decide⟩
  · rw [va_up_ne _ _ q]
    exact ⟨Or.inl, fun y => y.elim id (fun y => absurd y q)⟩
end MOS
section MOT
variable {l : Launch} {D : va_G} {F : Nat → Prop} {Nn : State → Heap → Prop} {ad : Nat → Nat → Nat} {ok : Nat → Nat → Prop} {cF cI cZ cJ cA cB : ClassId} {M : Nat → Nat → Nat} {B : Nat → Nat → Nat → Nat} {μ : Nat → Nat → va_E}
set_option maxRecDepth 100000 in
set_option maxHeartbeats 4000000 in
/-- the survey -/
theorem c_mSurvey (hO : mo_ok ok) (hMv : tg_Mv F Nn) (hB : ∀ j u, M j u < 1000000) (hBB : ∀ j u z, B j u z < 1000000) (hc : ∀ u, u < 400 → M 15 u ≤ 20) (hap : ∀ u v k, u < 400 → v < 400 → mo_in M u k → mo_in M v k → u = v) : tg_Met l yM_survey wsM_survey ({ frames := 1, cells := 0, slots := 0, locals := 40 }) D vwCl (hg_tys cI cF cZ cJ cA cB) F Nn ad ok (mo_w ad cI cZ cA cB M B μ) [.ref (ad 11 0)] (tg_po ad ok fun r w1 => r = none ∧ ∃ M' B', w1 = (mo_w ad cI cZ cA cB M' B' μ) ∧ mo_S M B 400 0 M' B') := by
  refine tg_start (cc := cM_survey) (maxL := 4) (ret := none) (by decide) rfl (Nat.le_of_ble_eq_true rfl) ?_
  intro p e R s m args below meth c Q hx hb hml hr hlocks hown hname hts hK hN hR hQ
  have hown : s.vm.findClass "HangGraphModel" = some m.cls := hown
  have hts : ∀ w ∈ lw_g, w.before args s = true := fun w z => hts w (List.mem_cons_of_mem _ z)
  refine tg_iconst (v := nI 0) hx hb dM_survey_0 (by decide +kernel) ?_
  refine tg_istore_n (L' := [(0, .ref (ad 11 0)), (1, .int (nI (0)))]) hx hb dM_survey_1 rfl (by decide) rfl rfl ?_
  refine tg_loop (fun x : Nat × (Nat → Nat → Nat) × (Nat → Nat → Nat → Nat) => x.1 ≤ 400 ∧ mo_V M B x.2.1 x.2.2 ∧ (∀ u, u < x.1 → x.2.1 19 u = 0 ∧ x.2.1 20 u = 0 ∧ x.2.1 21 u = 0) ∧ ∀ u v, u < x.1 → v < 400 → x.2.2 23 u v = 0) (fun x => 400 - x.1) (fun x => tg_W p l e R s m args below meth c Q 4 D vwCl F ad ok (mo_w ad cI cZ cA cB x.2.1 x.2.2 μ) [(0, .ref (ad 11 0)), (1, .int (nI (x.1)))] 0 0 2 []) ?_ (0, M, B) ⟨Nat.zero_le _, ⟨fun _ _ _ _ => rfl, fun _ _ => rfl, hB, hBB⟩, fun u z => absurd z (Nat.not_lt_zero _), fun u v z => absurd z (Nat.not_lt_zero _)⟩
  intro ⟨i, M1, B1⟩ ⟨hi1, hi2, hi3, hi4⟩ ih
  dsimp only at hi1 hi2 hi3 hi4 ih ⊢
  refine tg_iload_n hx hb dM_survey_2 rfl rfl ?_
  refine tg_sipush (v := nI 400) hx hb dM_survey_3 (by decide +kernel) ?_
  refine tg_icmp_ge (tgt := 60) hx hb dM_survey_6 (by decide) (fun q_1 => ?_) (fun q_1 => ?_)
  · have q_1' := q_1
    have h_2 : 400 ≤ i := (nI_leI (by omega) (by omega)).mp q_1
    refine tg_iconst (v := nI 0) hx hb dM_survey_60 (by decide +kernel) ?_
    refine tg_istore_n (L' := [(0, .ref (ad 11 0)), (1, .int (nI (0)))]) hx hb dM_survey_61 rfl (by decide) rfl rfl ?_
    have ei : i = 400 := by omega
    subst ei
    have hS0 : mo_S M B 0 0 M1 B1 := ⟨hi2, fun u hu => (hi3 u hu).2, fun u hu => ⟨fun z => absurd (hi3 u hu).1 z, fun z => z.elim (fun ⟨k, q, _⟩ => absurd q (Nat.not_lt_zero _)) (fun q => absurd q.2.1 (by omega))⟩, fun u v hu hv => ⟨fun z => absurd (hi4 u v hu hv) z, fun z => z.elim (fun ⟨_, k, q, _⟩ => absurd q (Nat.not_lt_zero _)) (fun q => absurd q.1 (by omega))⟩⟩
    clear ih hi1 hi2 hi3 hi4
    refine tg_loop (fun x : Nat × (Nat → Nat → Nat) × (Nat → Nat → Nat → Nat) => x.1 ≤ 400 ∧ mo_S M B x.1 0 x.2.1 x.2.2) (fun x => 400 - x.1) (fun x => tg_W p l e R s m args below meth c Q 4 D vwCl F ad ok (mo_w ad cI cZ cA cB x.2.1 x.2.2 μ) [(0, .ref (ad 11 0)), (1, .int (nI (x.1)))] 0 0 62 []) ?_ (0, M1, B1) ⟨Nat.zero_le _, hS0⟩
    clear hS0
    intro ⟨i, M2, B2⟩ ⟨hi1, hi2⟩ ih
    dsimp only at hi1 hi2 ih ⊢
    have hvv := hi2.1
    have e12 : M2 12 = M 12 := hvv.1 12 (by decide) (by decide) (by decide)
    have e13 : M2 13 = M 13 := hvv.1 13 (by decide) (by decide) (by decide)
    have e14 : M2 14 = M 14 := hvv.1 14 (by decide) (by decide) (by decide)
    have e18 : M2 18 = M 18 := hvv.1 18 (by decide) (by decide) (by decide)
    refine tg_iload_n hx hb dM_survey_62 rfl rfl ?_
    refine tg_sipush (v := nI 400) hx hb dM_survey_63 (by decide +kernel) ?_
    refine tg_icmp_ge (tgt := 179) hx hb dM_survey_66 (by decide) (fun q_3 => ?_) (fun q_3 => ?_)
    · have q_3' := q_3
      have h_4 : 400 ≤ i := (nI_leI (by omega) (by omega)).mp q_3
      have ei : i = 400 := by omega
      subst ei
      exact tg_vret hx hb hlocks hr hQ ⟨rfl, rfl, rfl, M2, B2, rfl, hi2⟩ dM_survey_179
    · have q_3' := q_3
      have h_5 : i < 400 := Nat.lt_of_not_le fun z => q_3 ((nI_leI (by omega) (by omega)).mpr z)
      refine tg_aload_n hx hb dM_survey_69 rfl rfl ?_
      refine tg_iload_n hx hb dM_survey_70 rfl rfl ?_
      refine tg_callV (C := "HangGraphModel") (As := [.int (nI (i))]) (rest := []) ⟨hx, hb, hml, hown, hts⟩ hK hN hMv (hO.1 11 (by decide) (by decide) (by decide) (by decide)) rfl rfl rfl (c_mOwner1 hO hvv.2.2.1 i (by omega)) (cwV 1 hts (lg_V wm_M_63 wi_M_owner1 we_M_owner1 wn_M wc_M_owner1) rfl rfl rfl ⟨rfl, by decide, by decide, rfl⟩ ⟨by rw [hR]; exact Nat.le_of_ble_eq_true rfl, by rw [hR]; exact Nat.le_of_ble_eq_true rfl⟩) rfl (Nat.le_of_ble_eq_true rfl) ⟨by rw [hR]; exact Nat.le_of_ble_eq_true rfl, by rw [hR]; exact Nat.le_of_ble_eq_true rfl⟩ rfl dM_survey_71 (tg_kk rfl rfl ?_)
      intro r w1 ⟨how, hw1⟩
      subst hw1
      have how' : mo_ow M i r := by
        unfold mo_ow at how ⊢
        simp only [mo_in_e e12 e13 e14] at how
        exact how
      rcases how' with ⟨g, h1, h2, h3, h4⟩ | ⟨h1, h3⟩ <;> subst h3
      · refine tg_st (st' := [.int (nI (g))]) rfl ?_
        have huq : ∀ u, u < 400 → mo_in M u i → u = g := fun u hu z => hap u g i hu h1 z h2
        refine tg_istore_n (L' := [(0, .ref (ad 11 0)), (1, .int (nI (i))), (2, .int (nI (g)))]) hx hb dM_survey_74 rfl (by decide) rfl rfl ?_
        refine tg_iload_n hx hb dM_survey_75 rfl rfl ?_
        refine tg_if_lt (tgt := 95) hx hb dM_survey_76 (by decide) (fun q_6 => ?_) (fun q_6 => ?_)
        · have q_6' := q_6
          rw [← nI_0] at q_6
          have h_7 : g < 0 := (nI_ltI (by omega) (by omega)).mp q_6
          omega
        · have q_6' := q_6
          rw [← nI_0] at q_6
          have h_8 : 0 ≤ g := Nat.le_of_not_lt fun z => q_6 ((nI_ltI (by omega) (by omega)).mpr z)
          refine tg_aload_n hx hb dM_survey_79 rfl rfl ?_
          refine tg_get (T := TM) (N := 13) hx hb hts inM hown hK (hO.1 11 (by decide) (by decide) (by decide) (by decide)) rfl rfl 6 (by decide) (hts _ wf_M_28) (fun _ z => z) rfl dM_survey_80 ?_
          refine tg_iload_n hx hb dM_survey_83 rfl rfl ?_
          refine tg_zald (t0 := 2) hx hb hK (hO.1 18 (by decide) (by decide) (by decide) (by decide)) rfl rfl (x := i) (by decide) (by omega) dM_survey_84 ?_
          have hb_9 := hvv.2.2.1 18 i
          refine tg_if_eq (tgt := 95) hx hb dM_survey_85 (by decide) (fun q_10 => ?_) (fun q_10 => ?_)
          · have q_10' := q_10
            rw [← nI_0] at q_10
            have h_11 : M2 18 i = 0 := (nI_eq (by omega) (by omega)).mp q_10
            refine tg_iconst (v := nI 0) hx hb dM_survey_95 (by decide +kernel) ?_
            refine tg_istore_n (L' := [(0, .ref (ad 11 0)), (1, .int (nI (i))), (2, .int (nI (g))), (3, .int (nI (0)))]) hx hb dM_survey_96 rfl (by decide) rfl rfl ?_
            have hS1 : mo_S M B i 1 M2 B2 := hi2.own (fun g _ z => absurd (by rw [← e18]; exact h_11) z)
            refine tg_loop (fun x : Nat × (Nat → Nat → Nat) × (Nat → Nat → Nat → Nat) => x.1 ≤ 400 ∧ mo_S M B i (x.1 + 1) x.2.1 x.2.2) (fun x => 400 - x.1) (fun x => tg_W p l e R s m args below meth c Q 4 D vwCl F ad ok (mo_w ad cI cZ cA cB x.2.1 x.2.2 μ) [(0, .ref (ad 11 0)), (1, .int (nI (i))), (2, .int (nI (g))), (3, .int (nI (x.1)))] 0 0 97 []) ?_ (0, M2, B2) ⟨Nat.zero_le _, hS1⟩
            intro ⟨j, M3, B3⟩ ⟨hj1, hS3⟩ ih2
            dsimp only at hj1 hS3 ih2 ⊢
            have hv3 := hS3.1
            have f12 : M3 12 = M 12 := hv3.1 12 (by decide) (by decide) (by decide)
            have f15 : M3 15 = M 15 := hv3.1 15 (by decide) (by decide) (by decide)
            have f18 : M3 18 = M 18 := hv3.1 18 (by decide) (by decide) (by decide)
            have f17 : B3 17 = B 17 := hv3.2.1 17 (by decide)
            refine tg_iload_n hx hb dM_survey_97 rfl rfl ?_
            refine tg_sipush (v := nI 400) hx hb dM_survey_98 (by decide +kernel) ?_
            refine tg_icmp_ge (tgt := 173) hx hb dM_survey_101 (by decide) (fun q_12 => ?_) (fun q_12 => ?_)
            · have q_12' := q_12
              have h_13 : 400 ≤ j := (nI_leI (by omega) (by omega)).mp q_12
              refine tg_iinc (v := nI (i + 1)) (L' := [(0, .ref (ad 11 0)), (1, .int (nI (i + 1))), (2, .int (nI (g))), (3, .int (nI (j)))]) hx hb dM_survey_173 rfl (nI_1 _) (by decide) rfl rfl ?_
              refine tg_goto (tgt := 62) hx hb dM_survey_176 (by decide) ?_
              refine tg_sub (L' := [(0, .ref (ad 11 0)), (1, .int (nI (i + 1)))]) (fun q hq => (List.mem_append_left [(2, .int (nI (g))), (3, .int (nI (j)))] hq : q ∈ [(0, .ref (ad 11 0)), (1, .int (nI (i + 1)))] ++ [(2, .int (nI (g))), (3, .int (nI (j)))])) ?_
              have ej : j = 400 := by omega
              subst ej
              exact ih (i + 1, M3, B3) ⟨by dsimp only; omega, hS3.next⟩ (by dsimp only; omega)
            · have q_12' := q_12
              have h_14 : j < 400 := Nat.lt_of_not_le fun z => q_12 ((nI_leI (by omega) (by omega)).mpr z)
              refine tg_aload_n hx hb dM_survey_104 rfl rfl ?_
              refine tg_get (T := TM) (N := 13) hx hb hts inM hown hK (hO.1 11 (by decide) (by decide) (by decide) (by decide)) rfl rfl 1 (by decide) (hts _ wf_M_7) (fun _ z => z) rfl dM_survey_105 ?_
              refine tg_iload_n hx hb dM_survey_108 rfl rfl ?_
              refine tg_zald (t0 := 2) hx hb hK (hO.1 12 (by decide) (by decide) (by decide) (by decide)) rfl rfl (x := j) (by decide) (by omega) dM_survey_109 ?_
              have hb_15 := hv3.2.2.1 12 j
              refine tg_if_eq (tgt := 167) hx hb dM_survey_110 (by decide) (fun q_16 => ?_) (fun q_16 => ?_)
              · have q_16' := q_16
                rw [← nI_0] at q_16
                have h_17 : M3 12 j = 0 := (nI_eq (by omega) (by omega)).mp q_16
                refine tg_iinc (v := nI (j + 1)) (L' := [(0, .ref (ad 11 0)), (1, .int (nI (i))), (2, .int (nI (g))), (3, .int (nI (j + 1)))]) hx hb dM_survey_167 rfl (nI_1 _) (by decide) rfl rfl ?_
                refine tg_goto (tgt := 97) hx hb dM_survey_170 (by decide) ?_
                have hnx : mo_S M B i (j + 2) M3 B3 := (hS3.skip (fun v _ z => z.1 (by rw [← f12]; exact h_17)) (by decide))
                exact ih2 (j + 1, M3, B3) ⟨by dsimp only; omega, hnx⟩ (by dsimp only; omega)
              · have q_16' := q_16
                rw [← nI_0] at q_16
                have h_18 : M3 12 j ≠ 0 := fun z => q_16 ((nI_eq (by omega) (by omega)).mpr z)
                refine tg_iload_n hx hb dM_survey_113 rfl rfl ?_
                refine tg_if_ge (tgt := 126) hx hb dM_survey_114 (by decide) (fun q_19 => ?_) (fun q_19 => ?_)
                · have q_19' := q_19
                  rw [← nI_0] at q_19
                  have h_20 : 0 ≤ g := (nI_leI (by omega) (by omega)).mp q_19
                  refine tg_aload_n hx hb dM_survey_126 rfl rfl ?_
                  refine tg_iload_n hx hb dM_survey_127 rfl rfl ?_
                  refine tg_iload_n hx hb dM_survey_128 rfl rfl ?_
                  refine tg_callV (C := "HangGraphModel") (As := [.int (nI (j)), .int (nI (i))]) (rest := []) ⟨hx, hb, hml, hown, hts⟩ hK hN hMv (hO.1 11 (by decide) (by decide) (by decide) (by decide)) rfl rfl rfl (c_mSpeaks hO hv3.2.2.1 hv3.2.2.2 j i (by omega) (by omega) (by rw [f15]; exact hc _ (by omega))) (cwV 2 hts (lg_V wm_M_74 wi_M_speaks we_M_speaks wn_M wc_M_speaks) rfl rfl rfl ⟨rfl, by decide, by decide, rfl⟩ ⟨by rw [hR]; exact Nat.le_of_ble_eq_true rfl, by rw [hR]; exact Nat.le_of_ble_eq_true rfl⟩) rfl (Nat.le_of_ble_eq_true rfl) ⟨by rw [hR]; exact Nat.le_of_ble_eq_true rfl, by rw [hR]; exact Nat.le_of_ble_eq_true rfl⟩ rfl dM_survey_129 (tg_kv rfl rfl ?_)
                  have hb9 := hg_b_le (mo_sp M3 B3 j i)
                  refine tg_if_ne (tgt := 138) hx hb dM_survey_132 (by decide) (fun q_21 => ?_) (fun q_21 => ?_)
                  · have q_21' := q_21
                    rw [← nI_0] at q_21
                    have h_22 : hg_b (mo_sp M3 B3 j i) ≠ 0 := fun z => q_21 ((nI_eq (by omega) (by omega)).mpr z)
                    refine tg_iload_n hx hb dM_survey_138 rfl rfl ?_
                    refine tg_if_lt (tgt := 151) hx hb dM_survey_139 (by decide) (fun q_23 => ?_) (fun q_23 => ?_)
                    · have q_23' := q_23
                      rw [← nI_0] at q_23
                      have h_24 : g < 0 := (nI_ltI (by omega) (by omega)).mp q_23
                      omega
                    · have q_23' := q_23
                      rw [← nI_0] at q_23
                      have h_25 : 0 ≤ g := Nat.le_of_not_lt fun z => q_23 ((nI_ltI (by omega) (by omega)).mpr z)
                      refine tg_aload_n hx hb dM_survey_142 rfl rfl ?_
                      refine tg_get (T := TM) (N := 13) hx hb hts inM hown hK (hO.1 11 (by decide) (by decide) (by decide) (by decide)) rfl rfl 10 (by decide) (hts _ wf_M_42) (fun _ z => z) rfl dM_survey_143 ?_
                      refine tg_iload_n hx hb dM_survey_146 rfl rfl ?_
                      refine tg_aaldA (t0 := 5) hx hb hK (hO.1 22 (by decide) (by decide) (by decide) (by decide)) rfl rfl rfl (x := j) (by decide) (by omega) dM_survey_147 ?_
                      refine tg_st (st' := .ref (ad 23 j) :: []) rfl ?_
                      refine tg_iload_n hx hb dM_survey_148 rfl rfl ?_
                      refine tg_iconst (v := nI 1) hx hb dM_survey_149 (by decide +kernel) ?_
                      refine tg_zast (t0 := 2) hx hb hK (hO.2.1 j (by omega)).2 rfl rfl (x := g) (v := nI (1)) (by decide +kernel) (by decide) (by omega) dM_survey_150 ?_
                      refine tg_w (mo_w_23 j g 1) ?_
                      refine tg_aload_n hx hb dM_survey_151 rfl rfl ?_
                      refine tg_get (T := TM) (N := 13) hx hb hts inM hown hK (hO.1 11 (by decide) (by decide) (by decide) (by decide)) rfl rfl 6 (by decide) (hts _ wf_M_28) (fun _ z => z) rfl dM_survey_152 ?_
                      refine tg_iload_n hx hb dM_survey_155 rfl rfl ?_
                      refine tg_zald (t0 := 2) hx hb hK (hO.1 18 (by decide) (by decide) (by decide) (by decide)) rfl rfl (x := i) (by decide) (by omega) dM_survey_156 ?_
                      have hb_26 := hv3.2.2.1 18 i
                      refine tg_if_eq (tgt := 167) hx hb dM_survey_157 (by decide) (fun q_27 => ?_) (fun q_27 => ?_)
                      · have q_27' := q_27
                        rw [← nI_0] at q_27
                        have h_28 : M3 18 i = 0 := (nI_eq (by omega) (by omega)).mp q_27
                        refine tg_iinc (v := nI (j + 1)) (L' := [(0, .ref (ad 11 0)), (1, .int (nI (i))), (2, .int (nI (g))), (3, .int (nI (j + 1)))]) hx hb dM_survey_167 rfl (nI_1 _) (by decide) rfl rfl ?_
                        refine tg_goto (tgt := 97) hx hb dM_survey_170 (by decide) ?_
                        have hnx : mo_S M B i (j + 2) M3 (tg_up B3 23 j (va_up (B3 23 j) g 1)) := (hS3.step (by omega) (by rw [← f12]; exact h_18) ((mo_sp_e f15 f17 _ _).mp (hg_b1 h_22)) (hv3.b (by decide)) (fun u _ => ⟨rfl, rfl⟩) (fun u _ => ⟨Or.inl, fun z => z.elim id (fun y => absurd (by rw [← f18]; exact h_28) y.2)⟩) (fun u v _ hv => by rw [mo_b23]; exact ⟨fun z => z.elim Or.inl (fun y => Or.inr ⟨y.1, by rw [y.2]; exact h2⟩), fun z => z.elim Or.inl (fun y => Or.inr ⟨y.1, huq v hv y.2⟩)⟩))
                        exact ih2 (j + 1, M3, (tg_up B3 23 j (va_up (B3 23 j) g 1))) ⟨by dsimp only; omega, hnx⟩ (by dsimp only; omega)
                      · have q_27' := q_27
                        rw [← nI_0] at q_27
                        have h_29 : M3 18 i ≠ 0 := fun z => q_27 ((nI_eq (by omega) (by omega)).mpr z)
                        refine tg_aload_n hx hb dM_survey_160 rfl rfl ?_
                        refine tg_get (T := TM) (N := 13) hx hb hts inM hown hK (hO.1 11 (by decide) (by decide) (by decide) (by decide)) rfl rfl 7 (by decide) (hts _ wf_M_31) (fun _ z => z) rfl dM_survey_161 ?_
                        refine tg_iload_n hx hb dM_survey_164 rfl rfl ?_
                        refine tg_iconst (v := nI 1) hx hb dM_survey_165 (by decide +kernel) ?_
                        refine tg_zast (t0 := 2) hx hb hK (hO.1 19 (by decide) (by decide) (by decide) (by decide)) rfl rfl (x := j) (v := nI (1)) (by decide +kernel) (by decide) (by omega) dM_survey_166 ?_
                        refine tg_wp (mo_w_19 hO j 1) ?_
                        refine tg_iinc (v := nI (j + 1)) (L' := [(0, .ref (ad 11 0)), (1, .int (nI (i))), (2, .int (nI (g))), (3, .int (nI (j + 1)))]) hx hb dM_survey_167 rfl (nI_1 _) (by decide) rfl rfl ?_
                        refine tg_goto (tgt := 97) hx hb dM_survey_170 (by decide) ?_
                        have hnx : mo_S M B i (j + 2) (tg_up M3 19 j 1) (tg_up B3 23 j (va_up (B3 23 j) g 1)) := (hS3.step (by omega) (by rw [← f12]; exact h_18) ((mo_sp_e f15 f17 _ _).mp (hg_b1 h_22)) ((hv3.b (by decide)).m (Or.inl rfl) (by decide)) (fun u _ => by rw [mo_col _ _ _ (by decide), mo_col _ _ _ (by decide)]; exact ⟨rfl, rfl⟩) (fun u _ => by rw [mo_m19]; exact ⟨fun z => z.elim Or.inl (fun y => Or.inr ⟨y, (by rw [← f18]; exact h_29)⟩), fun z => z.elim Or.inl (fun y => Or.inr y.1)⟩) (fun u v _ hv => by rw [mo_b23]; exact ⟨fun z => z.elim Or.inl (fun y => Or.inr ⟨y.1, by rw [y.2]; exact h2⟩), fun z => z.elim Or.inl (fun y => Or.inr ⟨y.1, huq v hv y.2⟩)⟩))
                        exact ih2 (j + 1, (tg_up M3 19 j 1), (tg_up B3 23 j (va_up (B3 23 j) g 1))) ⟨by dsimp only; omega, hnx⟩ (by dsimp only; omega)
                  · have q_21' := q_21
                    rw [← nI_0] at q_21
                    have h_30 : hg_b (mo_sp M3 B3 j i) = 0 := (nI_eq (by omega) (by omega)).mp q_21
                    refine tg_goto (tgt := 167) hx hb dM_survey_135 (by decide) ?_
                    refine tg_iinc (v := nI (j + 1)) (L' := [(0, .ref (ad 11 0)), (1, .int (nI (i))), (2, .int (nI (g))), (3, .int (nI (j + 1)))]) hx hb dM_survey_167 rfl (nI_1 _) (by decide) rfl rfl ?_
                    refine tg_goto (tgt := 97) hx hb dM_survey_170 (by decide) ?_
                    have hnx : mo_S M B i (j + 2) M3 B3 := (hS3.skip (fun v _ z => hg_b0 h_30 ((mo_sp_e f15 f17 _ _).mpr z.2.1)) (by decide))
                    exact ih2 (j + 1, M3, B3) ⟨by dsimp only; omega, hnx⟩ (by dsimp only; omega)
                · have q_19' := q_19
                  rw [← nI_0] at q_19
                  have h_31 : g < 0 := Nat.lt_of_not_le fun z => q_19 ((nI_leI (by omega) (by omega)).mpr z)
                  omega
          · have q_10' := q_10
            rw [← nI_0] at q_10
            have h_32 : M2 18 i ≠ 0 := fun z => q_10 ((nI_eq (by omega) (by omega)).mpr z)
            refine tg_aload_n hx hb dM_survey_88 rfl rfl ?_
            refine tg_get (T := TM) (N := 13) hx hb hts inM hown hK (hO.1 11 (by decide) (by decide) (by decide) (by decide)) rfl rfl 7 (by decide) (hts _ wf_M_31) (fun _ z => z) rfl dM_survey_89 ?_
            refine tg_iload_n hx hb dM_survey_92 rfl rfl ?_
            refine tg_iconst (v := nI 1) hx hb dM_survey_93 (by decide +kernel) ?_
            refine tg_zast (t0 := 2) hx hb hK (hO.1 19 (by decide) (by decide) (by decide) (by decide)) rfl rfl (x := g) (v := nI (1)) (by decide +kernel) (by decide) (by omega) dM_survey_94 ?_
            refine tg_wp (mo_w_19 hO g 1) ?_
            refine tg_iconst (v := nI 0) hx hb dM_survey_95 (by decide +kernel) ?_
            refine tg_istore_n (L' := [(0, .ref (ad 11 0)), (1, .int (nI (i))), (2, .int (nI (g))), (3, .int (nI (0)))]) hx hb dM_survey_96 rfl (by decide) rfl rfl ?_
            have hS1 : mo_S M B i 1 (tg_up M2 19 g 1) B2 := hi2.own1 h1 h2 (by rw [← e18]; exact h_32) huq
            refine tg_loop (fun x : Nat × (Nat → Nat → Nat) × (Nat → Nat → Nat → Nat) => x.1 ≤ 400 ∧ mo_S M B i (x.1 + 1) x.2.1 x.2.2) (fun x => 400 - x.1) (fun x => tg_W p l e R s m args below meth c Q 4 D vwCl F ad ok (mo_w ad cI cZ cA cB x.2.1 x.2.2 μ) [(0, .ref (ad 11 0)), (1, .int (nI (i))), (2, .int (nI (g))), (3, .int (nI (x.1)))] 0 0 97 []) ?_ (0, (tg_up M2 19 g 1), B2) ⟨Nat.zero_le _, hS1⟩
            intro ⟨j, M3, B3⟩ ⟨hj1, hS3⟩ ih2
            dsimp only at hj1 hS3 ih2 ⊢
            have hv3 := hS3.1
            have f12 : M3 12 = M 12 := hv3.1 12 (by decide) (by decide) (by decide)
            have f15 : M3 15 = M 15 := hv3.1 15 (by decide) (by decide) (by decide)
            have f18 : M3 18 = M 18 := hv3.1 18 (by decide) (by decide) (by decide)
            have f17 : B3 17 = B 17 := hv3.2.1 17 (by decide)
            refine tg_iload_n hx hb dM_survey_97 rfl rfl ?_
            refine tg_sipush (v := nI 400) hx hb dM_survey_98 (by decide +kernel) ?_
            refine tg_icmp_ge (tgt := 173) hx hb dM_survey_101 (by decide) (fun q_33 => ?_) (fun q_33 => ?_)
            · have q_33' := q_33
              have h_34 : 400 ≤ j := (nI_leI (by omega) (by omega)).mp q_33
              refine tg_iinc (v := nI (i + 1)) (L' := [(0, .ref (ad 11 0)), (1, .int (nI (i + 1))), (2, .int (nI (g))), (3, .int (nI (j)))]) hx hb dM_survey_173 rfl (nI_1 _) (by decide) rfl rfl ?_
              refine tg_goto (tgt := 62) hx hb dM_survey_176 (by decide) ?_
              refine tg_sub (L' := [(0, .ref (ad 11 0)), (1, .int (nI (i + 1)))]) (fun q hq => (List.mem_append_left [(2, .int (nI (g))), (3, .int (nI (j)))] hq : q ∈ [(0, .ref (ad 11 0)), (1, .int (nI (i + 1)))] ++ [(2, .int (nI (g))), (3, .int (nI (j)))])) ?_
              have ej : j = 400 := by omega
              subst ej
              exact ih (i + 1, M3, B3) ⟨by dsimp only; omega, hS3.next⟩ (by dsimp only; omega)
            · have q_33' := q_33
              have h_35 : j < 400 := Nat.lt_of_not_le fun z => q_33 ((nI_leI (by omega) (by omega)).mpr z)
              refine tg_aload_n hx hb dM_survey_104 rfl rfl ?_
              refine tg_get (T := TM) (N := 13) hx hb hts inM hown hK (hO.1 11 (by decide) (by decide) (by decide) (by decide)) rfl rfl 1 (by decide) (hts _ wf_M_7) (fun _ z => z) rfl dM_survey_105 ?_
              refine tg_iload_n hx hb dM_survey_108 rfl rfl ?_
              refine tg_zald (t0 := 2) hx hb hK (hO.1 12 (by decide) (by decide) (by decide) (by decide)) rfl rfl (x := j) (by decide) (by omega) dM_survey_109 ?_
              have hb_36 := hv3.2.2.1 12 j
              refine tg_if_eq (tgt := 167) hx hb dM_survey_110 (by decide) (fun q_37 => ?_) (fun q_37 => ?_)
              · have q_37' := q_37
                rw [← nI_0] at q_37
                have h_38 : M3 12 j = 0 := (nI_eq (by omega) (by omega)).mp q_37
                refine tg_iinc (v := nI (j + 1)) (L' := [(0, .ref (ad 11 0)), (1, .int (nI (i))), (2, .int (nI (g))), (3, .int (nI (j + 1)))]) hx hb dM_survey_167 rfl (nI_1 _) (by decide) rfl rfl ?_
                refine tg_goto (tgt := 97) hx hb dM_survey_170 (by decide) ?_
                have hnx : mo_S M B i (j + 2) M3 B3 := (hS3.skip (fun v _ z => z.1 (by rw [← f12]; exact h_38)) (by decide))
                exact ih2 (j + 1, M3, B3) ⟨by dsimp only; omega, hnx⟩ (by dsimp only; omega)
              · have q_37' := q_37
                rw [← nI_0] at q_37
                have h_39 : M3 12 j ≠ 0 := fun z => q_37 ((nI_eq (by omega) (by omega)).mpr z)
                refine tg_iload_n hx hb dM_survey_113 rfl rfl ?_
                refine tg_if_ge (tgt := 126) hx hb dM_survey_114 (by decide) (fun q_40 => ?_) (fun q_40 => ?_)
                · have q_40' := q_40
                  rw [← nI_0] at q_40
                  have h_41 : 0 ≤ g := (nI_leI (by omega) (by omega)).mp q_40
                  refine tg_aload_n hx hb dM_survey_126 rfl rfl ?_
                  refine tg_iload_n hx hb dM_survey_127 rfl rfl ?_
                  refine tg_iload_n hx hb dM_survey_128 rfl rfl ?_
                  refine tg_callV (C := "HangGraphModel") (As := [.int (nI (j)), .int (nI (i))]) (rest := []) ⟨hx, hb, hml, hown, hts⟩ hK hN hMv (hO.1 11 (by decide) (by decide) (by decide) (by decide)) rfl rfl rfl (c_mSpeaks hO hv3.2.2.1 hv3.2.2.2 j i (by omega) (by omega) (by rw [f15]; exact hc _ (by omega))) (cwV 2 hts (lg_V wm_M_74 wi_M_speaks we_M_speaks wn_M wc_M_speaks) rfl rfl rfl ⟨rfl, by decide, by decide, rfl⟩ ⟨by rw [hR]; exact Nat.le_of_ble_eq_true rfl, by rw [hR]; exact Nat.le_of_ble_eq_true rfl⟩) rfl (Nat.le_of_ble_eq_true rfl) ⟨by rw [hR]; exact Nat.le_of_ble_eq_true rfl, by rw [hR]; exact Nat.le_of_ble_eq_true rfl⟩ rfl dM_survey_129 (tg_kv rfl rfl ?_)
                  have hb9 := hg_b_le (mo_sp M3 B3 j i)
                  refine tg_if_ne (tgt := 138) hx hb dM_survey_132 (by decide) (fun q_42 => ?_) (fun q_42 => ?_)
                  · have q_42' := q_42
                    rw [← nI_0] at q_42
                    have h_43 : hg_b (mo_sp M3 B3 j i) ≠ 0 := fun z => q_42 ((nI_eq (by omega) (by omega)).mpr z)
                    refine tg_iload_n hx hb dM_survey_138 rfl rfl ?_
                    refine tg_if_lt (tgt := 151) hx hb dM_survey_139 (by decide) (fun q_44 => ?_) (fun q_44 => ?_)
                    · have q_44' := q_44
                      rw [← nI_0] at q_44
                      have h_45 : g < 0 := (nI_ltI (by omega) (by omega)).mp q_44
                      omega
                    · have q_44' := q_44
                      rw [← nI_0] at q_44
                      have h_46 : 0 ≤ g := Nat.le_of_not_lt fun z => q_44 ((nI_ltI (by omega) (by omega)).mpr z)
                      refine tg_aload_n hx hb dM_survey_142 rfl rfl ?_
                      refine tg_get (T := TM) (N := 13) hx hb hts inM hown hK (hO.1 11 (by decide) (by decide) (by decide) (by decide)) rfl rfl 10 (by decide) (hts _ wf_M_42) (fun _ z => z) rfl dM_survey_143 ?_
                      refine tg_iload_n hx hb dM_survey_146 rfl rfl ?_
                      refine tg_aaldA (t0 := 5) hx hb hK (hO.1 22 (by decide) (by decide) (by decide) (by decide)) rfl rfl rfl (x := j) (by decide) (by omega) dM_survey_147 ?_
                      refine tg_st (st' := .ref (ad 23 j) :: []) rfl ?_
                      refine tg_iload_n hx hb dM_survey_148 rfl rfl ?_
                      refine tg_iconst (v := nI 1) hx hb dM_survey_149 (by decide +kernel) ?_
                      refine tg_zast (t0 := 2) hx hb hK (hO.2.1 j (by omega)).2 rfl rfl (x := g) (v := nI (1)) (by decide +kernel) (by decide) (by omega) dM_survey_150 ?_
                      refine tg_w (mo_w_23 j g 1) ?_
                      refine tg_aload_n hx hb dM_survey_151 rfl rfl ?_
                      refine tg_get (T := TM) (N := 13) hx hb hts inM hown hK (hO.1 11 (by decide) (by decide) (by decide) (by decide)) rfl rfl 6 (by decide) (hts _ wf_M_28) (fun _ z => z) rfl dM_survey_152 ?_
                      refine tg_iload_n hx hb dM_survey_155 rfl rfl ?_
                      refine tg_zald (t0 := 2) hx hb hK (hO.1 18 (by decide) (by decide) (by decide) (by decide)) rfl rfl (x := i) (by decide) (by omega) dM_survey_156 ?_
                      have hb_47 := hv3.2.2.1 18 i
                      refine tg_if_eq (tgt := 167) hx hb dM_survey_157 (by decide) (fun q_48 => ?_) (fun q_48 => ?_)
                      · have q_48' := q_48
                        rw [← nI_0] at q_48
                        have h_49 : M3 18 i = 0 := (nI_eq (by omega) (by omega)).mp q_48
                        refine tg_iinc (v := nI (j + 1)) (L' := [(0, .ref (ad 11 0)), (1, .int (nI (i))), (2, .int (nI (g))), (3, .int (nI (j + 1)))]) hx hb dM_survey_167 rfl (nI_1 _) (by decide) rfl rfl ?_
                        refine tg_goto (tgt := 97) hx hb dM_survey_170 (by decide) ?_
                        have hnx : mo_S M B i (j + 2) M3 (tg_up B3 23 j (va_up (B3 23 j) g 1)) := (hS3.step (by omega) (by rw [← f12]; exact h_39) ((mo_sp_e f15 f17 _ _).mp (hg_b1 h_43)) (hv3.b (by decide)) (fun u _ => ⟨rfl, rfl⟩) (fun u _ => ⟨Or.inl, fun z => z.elim id (fun y => absurd (by rw [← f18]; exact h_49) y.2)⟩) (fun u v _ hv => by rw [mo_b23]; exact ⟨fun z => z.elim Or.inl (fun y => Or.inr ⟨y.1, by rw [y.2]; exact h2⟩), fun z => z.elim Or.inl (fun y => Or.inr ⟨y.1, huq v hv y.2⟩)⟩))
                        exact ih2 (j + 1, M3, (tg_up B3 23 j (va_up (B3 23 j) g 1))) ⟨by dsimp only; omega, hnx⟩ (by dsimp only; omega)
                      · have q_48' := q_48
                        rw [← nI_0] at q_48
                        have h_50 : M3 18 i ≠ 0 := fun z => q_48 ((nI_eq (by omega) (by omega)).mpr z)
                        refine tg_aload_n hx hb dM_survey_160 rfl rfl ?_
                        refine tg_get (T := TM) (N := 13) hx hb hts inM hown hK (hO.1 11 (by decide) (by decide) (by decide) (by decide)) rfl rfl 7 (by decide) (hts _ wf_M_31) (fun _ z => z) rfl dM_survey_161 ?_
                        refine tg_iload_n hx hb dM_survey_164 rfl rfl ?_
                        refine tg_iconst (v := nI 1) hx hb dM_survey_165 (by decide +kernel) ?_
                        refine tg_zast (t0 := 2) hx hb hK (hO.1 19 (by decide) (by decide) (by decide) (by decide)) rfl rfl (x := j) (v := nI (1)) (by decide +kernel) (by decide) (by omega) dM_survey_166 ?_
                        refine tg_wp (mo_w_19 hO j 1) ?_
                        refine tg_iinc (v := nI (j + 1)) (L' := [(0, .ref (ad 11 0)), (1, .int (nI (i))), (2, .int (nI (g))), (3, .int (nI (j + 1)))]) hx hb dM_survey_167 rfl (nI_1 _) (by decide) rfl rfl ?_
                        refine tg_goto (tgt := 97) hx hb dM_survey_170 (by decide) ?_
                        have hnx : mo_S M B i (j + 2) (tg_up M3 19 j 1) (tg_up B3 23 j (va_up (B3 23 j) g 1)) := (hS3.step (by omega) (by rw [← f12]; exact h_39) ((mo_sp_e f15 f17 _ _).mp (hg_b1 h_43)) ((hv3.b (by decide)).m (Or.inl rfl) (by decide)) (fun u _ => by rw [mo_col _ _ _ (by decide), mo_col _ _ _ (by decide)]; exact ⟨rfl, rfl⟩) (fun u _ => by rw [mo_m19]; exact ⟨fun z => z.elim Or.inl (fun y => Or.inr ⟨y, (by rw [← f18]; exact h_50)⟩), fun z => z.elim Or.inl (fun y => Or.inr y.1)⟩) (fun u v _ hv => by rw [mo_b23]; exact ⟨fun z => z.elim Or.inl (fun y => Or.inr ⟨y.1, by rw [y.2]; exact h2⟩), fun z => z.elim Or.inl (fun y => Or.inr ⟨y.1, huq v hv y.2⟩)⟩))
                        exact ih2 (j + 1, (tg_up M3 19 j 1), (tg_up B3 23 j (va_up (B3 23 j) g 1))) ⟨by dsimp only; omega, hnx⟩ (by dsimp only; omega)
                  · have q_42' := q_42
                    rw [← nI_0] at q_42
                    have h_51 : hg_b (mo_sp M3 B3 j i) = 0 := (nI_eq (by omega) (by omega)).mp q_42
                    refine tg_goto (tgt := 167) hx hb dM_survey_135 (by decide) ?_
                    refine tg_iinc (v := nI (j + 1)) (L' := [(0, .ref (ad 11 0)), (1, .int (nI (i))), (2, .int (nI (g))), (3, .int (nI (j + 1)))]) hx hb dM_survey_167 rfl (nI_1 _) (by decide) rfl rfl ?_
                    refine tg_goto (tgt := 97) hx hb dM_survey_170 (by decide) ?_
                    have hnx : mo_S M B i (j + 2) M3 B3 := (hS3.skip (fun v _ z => hg_b0 h_51 ((mo_sp_e f15 f17 _ _).mpr z.2.1)) (by decide))
                    exact ih2 (j + 1, M3, B3) ⟨by dsimp only; omega, hnx⟩ (by dsimp only; omega)
                · have q_40' := q_40
                  rw [← nI_0] at q_40
                  have h_52 : g < 0 := Nat.lt_of_not_le fun z => q_40 ((nI_leI (by omega) (by omega)).mpr z)
                  omega
      · refine tg_st (st' := [.int (-1)]) rfl ?_
        refine tg_istore_n (L' := [(0, .ref (ad 11 0)), (1, .int (nI (i))), (2, .int (-1))]) hx hb dM_survey_74 rfl (by decide) rfl rfl ?_
        refine tg_iload_n hx hb dM_survey_75 rfl rfl ?_
        refine tg_if_lt (tgt := 95) hx hb dM_survey_76 (by decide) (fun q_53 => ?_) (fun q_53 => ?_)
        · have q_53' := q_53
          refine tg_iconst (v := nI 0) hx hb dM_survey_95 (by decide +kernel) ?_
          refine tg_istore_n (L' := [(0, .ref (ad 11 0)), (1, .int (nI (i))), (2, .int (-1)), (3, .int (nI (0)))]) hx hb dM_survey_96 rfl (by decide) rfl rfl ?_
          have hS1 : mo_S M B i 1 M2 B2 := hi2.own (fun g hg _ => h1 g hg)
          refine tg_loop (fun x : Nat × (Nat → Nat → Nat) × (Nat → Nat → Nat → Nat) => x.1 ≤ 400 ∧ mo_S M B i (x.1 + 1) x.2.1 x.2.2) (fun x => 400 - x.1) (fun x => tg_W p l e R s m args below meth c Q 4 D vwCl F ad ok (mo_w ad cI cZ cA cB x.2.1 x.2.2 μ) [(0, .ref (ad 11 0)), (1, .int (nI (i))), (2, .int (-1)), (3, .int (nI (x.1)))] 0 0 97 []) ?_ (0, M2, B2) ⟨Nat.zero_le _, hS1⟩
          intro ⟨j, M3, B3⟩ ⟨hj1, hS3⟩ ih2
          dsimp only at hj1 hS3 ih2 ⊢
          have hv3 := hS3.1
          have f12 : M3 12 = M 12 := hv3.1 12 (by decide) (by decide) (by decide)
          have f15 : M3 15 = M 15 := hv3.1 15 (by decide) (by decide) (by decide)
          have f18 : M3 18 = M 18 := hv3.1 18 (by decide) (by decide) (by decide)
          have f17 : B3 17 = B 17 := hv3.2.1 17 (by decide)
          refine tg_iload_n hx hb dM_survey_97 rfl rfl ?_
          refine tg_sipush (v := nI 400) hx hb dM_survey_98 (by decide +kernel) ?_
          refine tg_icmp_ge (tgt := 173) hx hb dM_survey_101 (by decide) (fun q_54 => ?_) (fun q_54 => ?_)
          · have q_54' := q_54
            have h_55 : 400 ≤ j := (nI_leI (by omega) (by omega)).mp q_54
            refine tg_iinc (v := nI (i + 1)) (L' := [(0, .ref (ad 11 0)), (1, .int (nI (i + 1))), (2, .int (-1)), (3, .int (nI (j)))]) hx hb dM_survey_173 rfl (nI_1 _) (by decide) rfl rfl ?_
            refine tg_goto (tgt := 62) hx hb dM_survey_176 (by decide) ?_
            refine tg_sub (L' := [(0, .ref (ad 11 0)), (1, .int (nI (i + 1)))]) (fun q hq => (List.mem_append_left [(2, .int (-1)), (3, .int (nI (j)))] hq : q ∈ [(0, .ref (ad 11 0)), (1, .int (nI (i + 1)))] ++ [(2, .int (-1)), (3, .int (nI (j)))])) ?_
            have ej : j = 400 := by omega
            subst ej
            exact ih (i + 1, M3, B3) ⟨by dsimp only; omega, hS3.next⟩ (by dsimp only; omega)
          · have q_54' := q_54
            have h_56 : j < 400 := Nat.lt_of_not_le fun z => q_54 ((nI_leI (by omega) (by omega)).mpr z)
            refine tg_aload_n hx hb dM_survey_104 rfl rfl ?_
            refine tg_get (T := TM) (N := 13) hx hb hts inM hown hK (hO.1 11 (by decide) (by decide) (by decide) (by decide)) rfl rfl 1 (by decide) (hts _ wf_M_7) (fun _ z => z) rfl dM_survey_105 ?_
            refine tg_iload_n hx hb dM_survey_108 rfl rfl ?_
            refine tg_zald (t0 := 2) hx hb hK (hO.1 12 (by decide) (by decide) (by decide) (by decide)) rfl rfl (x := j) (by decide) (by omega) dM_survey_109 ?_
            have hb_57 := hv3.2.2.1 12 j
            refine tg_if_eq (tgt := 167) hx hb dM_survey_110 (by decide) (fun q_58 => ?_) (fun q_58 => ?_)
            · have q_58' := q_58
              rw [← nI_0] at q_58
              have h_59 : M3 12 j = 0 := (nI_eq (by omega) (by omega)).mp q_58
              refine tg_iinc (v := nI (j + 1)) (L' := [(0, .ref (ad 11 0)), (1, .int (nI (i))), (2, .int (-1)), (3, .int (nI (j + 1)))]) hx hb dM_survey_167 rfl (nI_1 _) (by decide) rfl rfl ?_
              refine tg_goto (tgt := 97) hx hb dM_survey_170 (by decide) ?_
              have hnx : mo_S M B i (j + 2) M3 B3 := (hS3.skip (fun v _ z => z.1 (by rw [← f12]; exact h_59)) (by decide))
              exact ih2 (j + 1, M3, B3) ⟨by dsimp only; omega, hnx⟩ (by dsimp only; omega)
            · have q_58' := q_58
              rw [← nI_0] at q_58
              have h_60 : M3 12 j ≠ 0 := fun z => q_58 ((nI_eq (by omega) (by omega)).mpr z)
              refine tg_iload_n hx hb dM_survey_113 rfl rfl ?_
              refine tg_if_ge (tgt := 126) hx hb dM_survey_114 (by decide) (fun q_61 => ?_) (fun q_61 => ?_)
              · have q_61' := q_61
                exact absurd q_61' (by decide +kernel)
              · have q_61' := q_61
                refine tg_aload_n hx hb dM_survey_117 rfl rfl ?_
                refine tg_get (T := TM) (N := 13) hx hb hts inM hown hK (hO.1 11 (by decide) (by decide) (by decide) (by decide)) rfl rfl 6 (by decide) (hts _ wf_M_28) (fun _ z => z) rfl dM_survey_118 ?_
                refine tg_iload_n hx hb dM_survey_121 rfl rfl ?_
                refine tg_zald (t0 := 2) hx hb hK (hO.1 18 (by decide) (by decide) (by decide) (by decide)) rfl rfl (x := i) (by decide) (by omega) dM_survey_122 ?_
                have hb_62 := hv3.2.2.1 18 i
                refine tg_if_eq (tgt := 167) hx hb dM_survey_123 (by decide) (fun q_63 => ?_) (fun q_63 => ?_)
                · have q_63' := q_63
                  rw [← nI_0] at q_63
                  have h_64 : M3 18 i = 0 := (nI_eq (by omega) (by omega)).mp q_63
                  refine tg_iinc (v := nI (j + 1)) (L' := [(0, .ref (ad 11 0)), (1, .int (nI (i))), (2, .int (-1)), (3, .int (nI (j + 1)))]) hx hb dM_survey_167 rfl (nI_1 _) (by decide) rfl rfl ?_
                  refine tg_goto (tgt := 97) hx hb dM_survey_170 (by decide) ?_
                  have hnx : mo_S M B i (j + 2) M3 B3 := (hS3.skip (fun v hv z => z.2.2.elim (fun y => h1 v hv y) (fun y => y (by rw [← f18]; exact h_64))) (by decide))
                  exact ih2 (j + 1, M3, B3) ⟨by dsimp only; omega, hnx⟩ (by dsimp only; omega)
                · have q_63' := q_63
                  rw [← nI_0] at q_63
                  have h_65 : M3 18 i ≠ 0 := fun z => q_63 ((nI_eq (by omega) (by omega)).mpr z)
                  refine tg_aload_n hx hb dM_survey_126 rfl rfl ?_
                  refine tg_iload_n hx hb dM_survey_127 rfl rfl ?_
                  refine tg_iload_n hx hb dM_survey_128 rfl rfl ?_
                  refine tg_callV (C := "HangGraphModel") (As := [.int (nI (j)), .int (nI (i))]) (rest := []) ⟨hx, hb, hml, hown, hts⟩ hK hN hMv (hO.1 11 (by decide) (by decide) (by decide) (by decide)) rfl rfl rfl (c_mSpeaks hO hv3.2.2.1 hv3.2.2.2 j i (by omega) (by omega) (by rw [f15]; exact hc _ (by omega))) (cwV 2 hts (lg_V wm_M_74 wi_M_speaks we_M_speaks wn_M wc_M_speaks) rfl rfl rfl ⟨rfl, by decide, by decide, rfl⟩ ⟨by rw [hR]; exact Nat.le_of_ble_eq_true rfl, by rw [hR]; exact Nat.le_of_ble_eq_true rfl⟩) rfl (Nat.le_of_ble_eq_true rfl) ⟨by rw [hR]; exact Nat.le_of_ble_eq_true rfl, by rw [hR]; exact Nat.le_of_ble_eq_true rfl⟩ rfl dM_survey_129 (tg_kv rfl rfl ?_)
                  have hb9 := hg_b_le (mo_sp M3 B3 j i)
                  refine tg_if_ne (tgt := 138) hx hb dM_survey_132 (by decide) (fun q_66 => ?_) (fun q_66 => ?_)
                  · have q_66' := q_66
                    rw [← nI_0] at q_66
                    have h_67 : hg_b (mo_sp M3 B3 j i) ≠ 0 := fun z => q_66 ((nI_eq (by omega) (by omega)).mpr z)
                    refine tg_iload_n hx hb dM_survey_138 rfl rfl ?_
                    refine tg_if_lt (tgt := 151) hx hb dM_survey_139 (by decide) (fun q_68 => ?_) (fun q_68 => ?_)
                    · have q_68' := q_68
                      refine tg_aload_n hx hb dM_survey_151 rfl rfl ?_
                      refine tg_get (T := TM) (N := 13) hx hb hts inM hown hK (hO.1 11 (by decide) (by decide) (by decide) (by decide)) rfl rfl 6 (by decide) (hts _ wf_M_28) (fun _ z => z) rfl dM_survey_152 ?_
                      refine tg_iload_n hx hb dM_survey_155 rfl rfl ?_
                      refine tg_zald (t0 := 2) hx hb hK (hO.1 18 (by decide) (by decide) (by decide) (by decide)) rfl rfl (x := i) (by decide) (by omega) dM_survey_156 ?_
                      have hb_69 := hv3.2.2.1 18 i
                      refine tg_if_eq (tgt := 167) hx hb dM_survey_157 (by decide) (fun q_70 => ?_) (fun q_70 => ?_)
                      · have q_70' := q_70
                        rw [← nI_0] at q_70
                        have h_71 : M3 18 i = 0 := (nI_eq (by omega) (by omega)).mp q_70
                        refine tg_iinc (v := nI (j + 1)) (L' := [(0, .ref (ad 11 0)), (1, .int (nI (i))), (2, .int (-1)), (3, .int (nI (j + 1)))]) hx hb dM_survey_167 rfl (nI_1 _) (by decide) rfl rfl ?_
                        refine tg_goto (tgt := 97) hx hb dM_survey_170 (by decide) ?_
                        have hnx : mo_S M B i (j + 2) M3 B3 := (hS3.step (by omega) (by rw [← f12]; exact h_60) ((mo_sp_e f15 f17 _ _).mp (hg_b1 h_67)) hv3 (fun u _ => ⟨rfl, rfl⟩) (fun u _ => ⟨Or.inl, fun z => z.elim id (fun y => absurd (by rw [← f18]; exact h_71) y.2)⟩) (fun u v _ hv => ⟨Or.inl, fun z => z.elim id (fun y => absurd y.2 (h1 v hv))⟩))
                        exact ih2 (j + 1, M3, B3) ⟨by dsimp only; omega, hnx⟩ (by dsimp only; omega)
                      · have q_70' := q_70
                        rw [← nI_0] at q_70
                        have h_72 : M3 18 i ≠ 0 := fun z => q_70 ((nI_eq (by omega) (by omega)).mpr z)
                        refine tg_aload_n hx hb dM_survey_160 rfl rfl ?_
                        refine tg_get (T := TM) (N := 13) hx hb hts inM hown hK (hO.1 11 (by decide) (by decide) (by decide) (by decide)) rfl rfl 7 (by decide) (hts _ wf_M_31) (fun _ z => z) rfl dM_survey_161 ?_
                        refine tg_iload_n hx hb dM_survey_164 rfl rfl ?_
                        refine tg_iconst (v := nI 1) hx hb dM_survey_165 (by decide +kernel) ?_
                        refine tg_zast (t0 := 2) hx hb hK (hO.1 19 (by decide) (by decide) (by decide) (by decide)) rfl rfl (x := j) (v := nI (1)) (by decide +kernel) (by decide) (by omega) dM_survey_166 ?_
                        refine tg_wp (mo_w_19 hO j 1) ?_
                        refine tg_iinc (v := nI (j + 1)) (L' := [(0, .ref (ad 11 0)), (1, .int (nI (i))), (2, .int (-1)), (3, .int (nI (j + 1)))]) hx hb dM_survey_167 rfl (nI_1 _) (by decide) rfl rfl ?_
                        refine tg_goto (tgt := 97) hx hb dM_survey_170 (by decide) ?_
                        have hnx : mo_S M B i (j + 2) (tg_up M3 19 j 1) B3 := (hS3.step (by omega) (by rw [← f12]; exact h_60) ((mo_sp_e f15 f17 _ _).mp (hg_b1 h_67)) (hv3.m (Or.inl rfl) (by decide)) (fun u _ => by rw [mo_col _ _ _ (by decide), mo_col _ _ _ (by decide)]; exact ⟨rfl, rfl⟩) (fun u _ => by rw [mo_m19]; exact ⟨fun z => z.elim Or.inl (fun y => Or.inr ⟨y, (by rw [← f18]; exact h_72)⟩), fun z => z.elim Or.inl (fun y => Or.inr y.1)⟩) (fun u v _ hv => ⟨Or.inl, fun z => z.elim id (fun y => absurd y.2 (h1 v hv))⟩))
                        exact ih2 (j + 1, (tg_up M3 19 j 1), B3) ⟨by dsimp only; omega, hnx⟩ (by dsimp only; omega)
                    · have q_68' := q_68
                      exact absurd (show (-1 : Int32) < 0 by decide +kernel) q_68'
                  · have q_66' := q_66
                    rw [← nI_0] at q_66
                    have h_73 : hg_b (mo_sp M3 B3 j i) = 0 := (nI_eq (by omega) (by omega)).mp q_66
                    refine tg_goto (tgt := 167) hx hb dM_survey_135 (by decide) ?_
                    refine tg_iinc (v := nI (j + 1)) (L' := [(0, .ref (ad 11 0)), (1, .int (nI (i))), (2, .int (-1)), (3, .int (nI (j + 1)))]) hx hb dM_survey_167 rfl (nI_1 _) (by decide) rfl rfl ?_
                    refine tg_goto (tgt := 97) hx hb dM_survey_170 (by decide) ?_
                    have hnx : mo_S M B i (j + 2) M3 B3 := (hS3.skip (fun v _ z => hg_b0 h_73 ((mo_sp_e f15 f17 _ _).mpr z.2.1)) (by decide))
                    exact ih2 (j + 1, M3, B3) ⟨by dsimp only; omega, hnx⟩ (by dsimp only; omega)
        · have q_53' := q_53
          exact absurd (show (-1 : Int32) < 0 by decide +kernel) q_53'
  · have q_1' := q_1
    have h_74 : i < 400 := Nat.lt_of_not_le fun z => q_1 ((nI_leI (by omega) (by omega)).mpr z)
    refine tg_aload_n hx hb dM_survey_9 rfl rfl ?_
    refine tg_get (T := TM) (N := 13) hx hb hts inM hown hK (hO.1 11 (by decide) (by decide) (by decide) (by decide)) rfl rfl 7 (by decide) (hts _ wf_M_31) (fun _ z => z) rfl dM_survey_10 ?_
    refine tg_iload_n hx hb dM_survey_13 rfl rfl ?_
    refine tg_iconst (v := nI 0) hx hb dM_survey_14 (by decide +kernel) ?_
    refine tg_zast (t0 := 2) hx hb hK (hO.1 19 (by decide) (by decide) (by decide) (by decide)) rfl rfl (x := i) (v := nI (0)) (by decide +kernel) (by decide) (by omega) dM_survey_15 ?_
    refine tg_wp (mo_w_19 hO i 0) ?_
    refine tg_aload_n hx hb dM_survey_16 rfl rfl ?_
    refine tg_get (T := TM) (N := 13) hx hb hts inM hown hK (hO.1 11 (by decide) (by decide) (by decide) (by decide)) rfl rfl 8 (by decide) (hts _ wf_M_34) (fun _ z => z) rfl dM_survey_17 ?_
    refine tg_iload_n hx hb dM_survey_20 rfl rfl ?_
    refine tg_iconst (v := nI 0) hx hb dM_survey_21 (by decide +kernel) ?_
    refine tg_zast (t0 := 2) hx hb hK (hO.1 20 (by decide) (by decide) (by decide) (by decide)) rfl rfl (x := i) (v := nI (0)) (by decide +kernel) (by decide) (by omega) dM_survey_22 ?_
    refine tg_wp (mo_w_20 hO i 0) ?_
    refine tg_aload_n hx hb dM_survey_23 rfl rfl ?_
    refine tg_get (T := TM) (N := 13) hx hb hts inM hown hK (hO.1 11 (by decide) (by decide) (by decide) (by decide)) rfl rfl 9 (by decide) (hts _ wf_M_37) (fun _ z => z) rfl dM_survey_24 ?_
    refine tg_iload_n hx hb dM_survey_27 rfl rfl ?_
    refine tg_iconst (v := nI 0) hx hb dM_survey_28 (by decide +kernel) ?_
    refine tg_iast (t0 := 0) hx hb hK (hO.1 21 (by decide) (by decide) (by decide) (by decide)) rfl rfl (x := i) (v := nI (0)) (by decide) (by omega) dM_survey_29 ?_
    refine tg_wp (mo_w_21 hO i 0) ?_
    refine tg_iconst (v := nI 0) hx hb dM_survey_30 (by decide +kernel) ?_
    refine tg_istore_n (L' := [(0, .ref (ad 11 0)), (1, .int (nI (i))), (2, .int (nI (0)))]) hx hb dM_survey_31 rfl (by decide) rfl rfl ?_
    have hv0 : mo_V M B (tg_up (tg_up (tg_up M1 19 i 0) 20 i 0) 21 i 0) B1 := ((hi2.m (Or.inl rfl) (by decide)).m (Or.inr (Or.inl rfl)) (by decide)).m (Or.inr (Or.inr rfl)) (by decide)
    have hz1 : (tg_up (tg_up (tg_up M1 19 i 0) 20 i 0) 21 i 0) 19 i = 0 ∧ (tg_up (tg_up (tg_up M1 19 i 0) 20 i 0) 21 i 0) 20 i = 0 ∧ (tg_up (tg_up (tg_up M1 19 i 0) 20 i 0) 21 i 0) 21 i = 0 := by simp [tg_up]
    have hz2 : ∀ u, u ≠ i → (tg_up (tg_up (tg_up M1 19 i 0) 20 i 0) 21 i 0) 19 u = M1 19 u ∧ (tg_up (tg_up (tg_up M1 19 i 0) 20 i 0) 21 i 0) 20 u = M1 20 u ∧ (tg_up (tg_up (tg_up M1 19 i 0) 20 i 0) 21 i 0) 21 u = M1 21 u := fun u q => by simp [tg_up, q]
    obtain ⟨Mz, hMz⟩ : ∃ z, z = (tg_up (tg_up (tg_up M1 19 i 0) 20 i 0) 21 i 0) := ⟨_, rfl⟩
    rw [← hMz] at hv0 hz1 hz2 ⊢
    refine tg_loop (fun x : Nat × (Nat → Nat → Nat → Nat) => x.1 ≤ 400 ∧ mo_V M B Mz x.2 ∧ (∀ v, v < x.1 → x.2 23 i v = 0) ∧ ∀ u, u ≠ i → x.2 23 u = B1 23 u) (fun x => 400 - x.1) (fun x => tg_W p l e R s m args below meth c Q 4 D vwCl F ad ok (mo_w ad cI cZ cA cB Mz x.2 μ) [(0, .ref (ad 11 0)), (1, .int (nI (i))), (2, .int (nI (x.1)))] 0 0 32 []) ?_ (0, B1) ⟨Nat.zero_le _, hv0, fun v z => absurd z (Nat.not_lt_zero _), fun _ _ => rfl⟩
    intro ⟨j, B2⟩ ⟨hj1, hj2, hj3, hj4⟩ ih2
    dsimp only at hj1 hj2 hj3 hj4 ih2 ⊢
    refine tg_iload_n hx hb dM_survey_32 rfl rfl ?_
    refine tg_sipush (v := nI 400) hx hb dM_survey_33 (by decide +kernel) ?_
    refine tg_icmp_ge (tgt := 54) hx hb dM_survey_36 (by decide) (fun q_75 => ?_) (fun q_75 => ?_)
    · have q_75' := q_75
      have h_76 : 400 ≤ j := (nI_leI (by omega) (by omega)).mp q_75
      refine tg_iinc (v := nI (i + 1)) (L' := [(0, .ref (ad 11 0)), (1, .int (nI (i + 1))), (2, .int (nI (j)))]) hx hb dM_survey_54 rfl (nI_1 _) (by decide) rfl rfl ?_
      refine tg_goto (tgt := 2) hx hb dM_survey_57 (by decide) ?_
      refine tg_sub (L' := [(0, .ref (ad 11 0)), (1, .int (nI (i + 1)))]) (fun q hq => (List.mem_append_left [(2, .int (nI (j)))] hq : q ∈ [(0, .ref (ad 11 0)), (1, .int (nI (i + 1)))] ++ [(2, .int (nI (j)))])) ?_
      refine ih (i + 1, Mz, B2) ⟨?_, hj2, ?_, ?_⟩ (by dsimp only; omega)
      · dsimp only; omega
      · intro u z; dsimp only at z ⊢; by_cases q : u = i
        · subst q; exact hz1
        · rw [(hz2 u q).1, (hz2 u q).2.1, (hz2 u q).2.2]; exact hi3 u (by omega)
      · intro u v z zv; dsimp only at z ⊢; by_cases q : u = i
        · subst q; exact hj3 v (by omega)
        · rw [hj4 u q]; exact hi4 u v (by omega) zv
    · have q_75' := q_75
      have h_77 : j < 400 := Nat.lt_of_not_le fun z => q_75 ((nI_leI (by omega) (by omega)).mpr z)
      refine tg_aload_n hx hb dM_survey_39 rfl rfl ?_
      refine tg_get (T := TM) (N := 13) hx hb hts inM hown hK (hO.1 11 (by decide) (by decide) (by decide) (by decide)) rfl rfl 10 (by decide) (hts _ wf_M_42) (fun _ z => z) rfl dM_survey_40 ?_
      refine tg_iload_n hx hb dM_survey_43 rfl rfl ?_
      refine tg_aaldA (t0 := 5) hx hb hK (hO.1 22 (by decide) (by decide) (by decide) (by decide)) rfl rfl rfl (x := i) (by decide) (by omega) dM_survey_44 ?_
      refine tg_st (st' := .ref (ad 23 i) :: []) rfl ?_
      refine tg_iload_n hx hb dM_survey_45 rfl rfl ?_
      refine tg_iconst (v := nI 0) hx hb dM_survey_46 (by decide +kernel) ?_
      refine tg_zast (t0 := 2) hx hb hK (hO.2.1 i (by omega)).2 rfl rfl (x := j) (v := nI (0)) (by decide +kernel) (by decide) (by omega) dM_survey_47 ?_
      refine tg_w (mo_w_23 i j 0) ?_
      refine tg_iinc (v := nI (j + 1)) (L' := [(0, .ref (ad 11 0)), (1, .int (nI (i))), (2, .int (nI (j + 1)))]) hx hb dM_survey_48 rfl (nI_1 _) (by decide) rfl rfl ?_
      refine tg_goto (tgt := 32) hx hb dM_survey_51 (by decide) ?_
      refine ih2 (j + 1, tg_up B2 23 i (va_up (B2 23 i) j 0)) ⟨?_, hj2.b (by decide), ?_, ?_⟩ (by dsimp only; omega)
      · dsimp only; omega
      · intro v z; dsimp only at z ⊢; rw [tg_up_self]; by_cases q : v = j
        · rw [q, va_up_self]
        · rw [va_up_ne _ _ q]; exact hj3 v (by omega)
      · intro u q; dsimp only; rw [tg_up_ne _ _ (fun z => q z.2)]; exact hj4 u q
end MOT
