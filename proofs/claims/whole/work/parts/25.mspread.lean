/-! the reference's spread -/
def mo_f (M : Nat → Nat → Nat) (B : Nat → Nat → Nat → Nat) (u v : Nat) : Prop := (u < 400 ∧ v < 400) ∧ M 12 u ≠ 0 ∧ B 23 u v ≠ 0
noncomputable def mo_ct (M : Nat → Nat → Nat) : Nat := hg_cn (fun u => M 19 u ≠ 0) 400
theorem mo_ct_le (M : Nat → Nat → Nat) : mo_ct M ≤ 400 := hg_cn_bd _ 400
def mo_A (M1 : Nat → Nat → Nat) (B : Nat → Nat → Nat → Nat) (M2 : Nat → Nat → Nat) : Prop := (∀ j, j ≠ 19 → M2 j = M1 j) ∧ (∀ j u, M2 j u < 1000000) ∧ (∀ u, u < 400 → M1 19 u ≠ 0 → M2 19 u ≠ 0) ∧ ∀ u, u < 400 → M2 19 u ≠ 0 → ∃ v, v < 400 ∧ hg_R (mo_f M1 B) u v ∧ M1 19 v ≠ 0
def mo_cl (M1 : Nat → Nat → Nat) (B : Nat → Nat → Nat → Nat) (i : Nat) (M2 : Nat → Nat → Nat) : Prop := ∀ u v, u < i → v < 400 → M1 12 u ≠ 0 → B 23 u v ≠ 0 → M2 19 v ≠ 0 → M2 19 u ≠ 0
theorem mo_A.add {M1 M2 : Nat → Nat → Nat} {B : Nat → Nat → Nat → Nat} {f g : Nat} (h : mo_A M1 B M2) (hf : f < 400) (hg : g < 400) (ht : M2 12 f ≠ 0) (hb : B 23 f g ≠ 0) (hh : M2 19 g ≠ 0) (hn : M2 19 f = 0) : mo_A M1 B (tg_up M2 19 f 1) ∧ mo_ct M2 < mo_ct (tg_up M2 19 f 1) := by
  obtain ⟨h1, h2, h3, h4⟩ := h
  refine ⟨⟨fun j q => by rw [mo_col _ _ _ q]; exact h1 j q, mo_b0 h2 (by decide), fun u hu z => by rw [mo_m19]; exact Or.inl (h3 u hu z), fun u hu z => ?_⟩, ?_⟩
  · rcases (mo_m19 M2).mp z with q | q
    · exact h4 u hu q
    · obtain ⟨v, v1, v2, v3⟩ := h4 g hg hh
      rw [q]
      exact ⟨v, v1, hg_R_step ⟨⟨hf, hg⟩, by rw [← h1 12 (by decide)]; exact ht, hb⟩ v2, v3⟩
  · exact hg_cn_lt (x := f) (fun z => z hn) (by rw [mo_m19]; exact Or.inr rfl) 400 hf (fun k _ z => by rw [mo_m19]; exact Or.inl z)
/-- rounds: how far they are known -/
def mo_Rv (M2 : Nat → Nat → Nat) (B : Nat → Nat → Nat → Nat) (i n : Nat) (M5 : Nat → Nat → Nat) : Prop := n = hg_cn (fun u => M2 19 u ≠ 0) i ∧ (∀ j, j ≠ 20 → j ≠ 24 → j ≠ 25 → M5 j = M2 j) ∧ (∀ j u, M5 j u < 1000000) ∧ (∀ u, u < i → (M5 20 u ≠ 0 ↔ M2 19 u ≠ 0 ∧ hg_O (mo_e M2 B) u)) ∧ ∀ u, i ≤ u → u < 400 → M5 20 u = 0
theorem mo_e_e {M M' : Nat → Nat → Nat} {B : Nat → Nat → Nat → Nat} (h : M' 19 = M 19) : mo_e M' B = mo_e M B := by
  unfold mo_e
  rw [h]
theorem mo_nar (P : Prop) : vp_nar .boolean (nI (hg_b P)) = nI (hg_b P) := by
  by_cases h : P
  · rw [hg_b_t h]; decide +kernel
  · rw [hg_b_f h]; decide +kernel
theorem mo_Rv.skip {M2 M5 : Nat → Nat → Nat} {B : Nat → Nat → Nat → Nat} {i n : Nat} (h : mo_Rv M2 B i n M5) (hi : i < 400) (hn : M5 19 i = 0) : mo_Rv M2 B (i + 1) n M5 := by
  obtain ⟨h1, h2, h3, h4, h5⟩ := h
  have hn2 : M2 19 i = 0 := by rw [← h2 19 (by decide) (by decide) (by decide)]; exact hn
  refine ⟨by rw [hg_cn_s, hg_b_f (fun z => z hn2)]; exact h1, h2, h3, fun u hu => ?_, fun u q => h5 u (by omega)⟩
  by_cases e : u = i
  · subst e
    exact ⟨fun z => absurd (h5 u (Nat.le_refl _) hi) z, fun z => absurd hn2 z.1⟩
  · exact h4 u (by omega)
theorem mo_Rv.add {M2 M5 M6 : Nat → Nat → Nat} {B : Nat → Nat → Nat → Nat} {i n : Nat} (h : mo_Rv M2 B i n M5) (hi : i < 400) (hn : M5 19 i ≠ 0) (h6 : ∀ j, j ≠ 24 → j ≠ 25 → M6 j = M5 j) (h7 : ∀ j u, M6 j u < 1000000) : mo_Rv M2 B (i + 1) (n + 1) (tg_up M6 20 i (hg_b (hg_O (mo_e M5 B) i))) := by
  obtain ⟨h1, h2, h3, h4, h5⟩ := h
  have e19 := h2 19 (by decide) (by decide) (by decide)
  have hn2 : M2 19 i ≠ 0 := by rw [← e19]; exact hn
  refine ⟨by rw [hg_cn_s, hg_b_t hn2, h1], fun j q1 q2 q3 => by rw [mo_col _ _ _ q1, h6 j q2 q3]; exact h2 j q1 q2 q3, mo_b0 h7 (by have := hg_b_le (hg_O (mo_e M5 B) i); omega), fun u hu => ?_, fun u q1 q2 => ?_⟩
  · rw [hg_colA]
    by_cases e : u = i
    · subst e
      rw [va_up_self, mo_e_e e19]
      exact ⟨fun z => ⟨hn2, hg_b1 z⟩, fun z => by rw [hg_b_t z.2]; decide⟩
    · rw [va_up_ne _ _ e, h6 20 (by decide) (by decide)]
      exact h4 u (by omega)
  · rw [hg_colA, va_up_ne _ _ (by omega), h6 20 (by decide) (by decide)]
    exact h5 u (by omega) q2
/-- ranks: how far they are known -/
def mo_hs (M5 : Nat → Nat → Nat) (u : Nat) : Prop := u < 400 ∧ M5 19 u ≠ 0 ∧ M5 20 u = 0
def mo_Kv (e : Nat → Nat → Prop) (M5 : Nat → Nat → Nat) (M6 : Nat → Nat → Nat) : Prop := (∀ j, j ≠ 21 → M6 j = M5 j) ∧ (∀ j u, M6 j u < 1000000) ∧ hg_J e 400 (mo_hs M5) (M6 21)
def mo_fx (e : Nat → Nat → Prop) (M5 : Nat → Nat → Nat) (i : Nat) (M6 : Nat → Nat → Nat) : Prop := ∀ u, u < i → mo_hs M5 u → M6 21 u = hg_mx e (M6 21) u 400 + 1
noncomputable def mo_sm (e : Nat → Nat → Prop) (M6 : Nat → Nat → Nat) : Nat := hg_sm (fun g => hg_K e 400 g - M6 21 g) 400
theorem mo_Kv.up {e : Nat → Nat → Prop} {M5 M6 : Nat → Nat → Nat} {f : Nat} (h : mo_Kv e M5 M6) (hh : mo_hs M5 f) (ho : ¬ hg_O e f) (hne : M6 21 f ≠ hg_mx e (M6 21) f 400 + 1) : mo_Kv e M5 (tg_up M6 21 f (hg_mx e (M6 21) f 400 + 1)) ∧ mo_sm e (tg_up M6 21 f (hg_mx e (M6 21) f 400 + 1)) < mo_sm e M6 := by
  obtain ⟨h1, h2, h3⟩ := h
  obtain ⟨j1, j2⟩ := hg_J_up h3 hh.1 hh ho hne
  have e1 : (tg_up M6 21 f (hg_mx e (M6 21) f 400 + 1)) 21 = va_up (M6 21) f (hg_mx e (M6 21) f 400 + 1) := hg_colA ..
  have hb : hg_mx e (M6 21) f 400 + 1 ≤ 401 := by
    have := hg_J_le j1 hh.1
    rw [va_up_self] at this
    exact Nat.le_trans this hg_K_le
  refine ⟨⟨fun j q => by rw [mo_col _ _ _ q]; exact h1 j q, mo_b0 h2 (by omega), by rw [e1]; exact j1⟩, ?_⟩
  unfold mo_sm
  rw [e1]
  exact j2
/-- what the reference's spread leaves -/
def mo_SP (M : Nat → Nat → Nat) (B : Nat → Nat → Nat → Nat) (M' : Nat → Nat → Nat) (B' : Nat → Nat → Nat → Nat) : Prop :=
  M' 11 0 = 0 ∧ (∀ j, 12 ≤ j → j < 16 → M' j = M j) ∧ B' 17 = B 17 ∧ (∀ u, u < 400 → M' 18 u = 0) ∧ (∀ j u, M' j u < 1000000) ∧ (∀ j u z, B' j u z < 1000000) ∧
  (∀ u v, u < 400 → v < 400 → (B' 23 u v ≠ 0 ↔ mo_g M B 400 u v)) ∧ (∀ u, u < 400 → (M' 19 u ≠ 0 ↔ ∃ v, v < 400 ∧ hg_R (mo_f M B') u v ∧ mo_h M B 400 v)) ∧
  (∀ u, u < 400 → (M' 20 u ≠ 0 ↔ hg_O (mo_e M' B') u)) ∧ (∀ u, u < 400 → M' 19 u ≠ 0 → M' 21 u = hg_K (mo_e M' B') 400 u) ∧ ∀ u, u < 400 → M' 19 u = 0 → M' 21 u = 0
section MOU
variable {l : Launch} {D : va_G} {F : Nat → Prop} {Nn : State → Heap → Prop} {ad : Nat → Nat → Nat} {ok : Nat → Nat → Prop} {cF cI cZ cJ cA cB : ClassId} {M : Nat → Nat → Nat} {B : Nat → Nat → Nat → Nat} {μ : Nat → Nat → va_E}
theorem mo_sp_0 (f k : Nat) : mo_sp (tg_up M 11 0 0) B f k ↔ mo_sp M B f k := mo_sp_e (mo_col _ _ _ (by decide)) rfl f k
theorem mo_g_0 (c f g : Nat) : mo_g (tg_up M 11 0 0) B c f g ↔ mo_g M B c f g := by
  unfold mo_g
  simp only [mo_sp_0, mo_in_0, mo_col M (j := 12) (k := 11) 0 0 (by decide)]
theorem mo_h_0 (c f : Nat) : mo_h (tg_up M 11 0 0) B c f ↔ mo_h M B c f := by
  unfold mo_h
  simp only [mo_sp_0, mo_in_0, mo_col M (j := 12) (k := 11) 0 0 (by decide), mo_col M (j := 18) (k := 11) 0 0 (by decide)]
set_option maxRecDepth 100000 in
set_option maxHeartbeats 4000000 in
/-- the reference's spread -/
theorem c_mSpread (hO : mo_ok ok) (hMv : tg_Mv F Nn) (hB : ∀ j u, M j u < 1000000) (hBB : ∀ j u z, B j u z < 1000000) (hc : ∀ u, u < 400 → M 15 u ≤ 20) (hap : ∀ u v k, u < 400 → v < 400 → mo_in M u k → mo_in M v k → u = v) : tg_Met l yM_spread wsM_spread ({ frames := 2, cells := 0, slots := 0, locals := 90 }) D vwCl (hg_tys cI cF cZ cJ cA cB) F Nn ad ok (mo_w ad cI cZ cA cB M B μ) [.ref (ad 11 0)] (tg_po ad ok fun r w1 => ∃ M' B', r = some (.int (nI (hg_cn (fun u => M' 19 u ≠ 0) 400))) ∧ w1 = (mo_w ad cI cZ cA cB M' B' μ) ∧ mo_SP M B M' B') := by
  refine tg_start (cc := cM_spread) (maxL := 6) (ret := some .int) (by decide) rfl (Nat.le_of_ble_eq_true rfl) ?_
  intro p e R s m args below meth c Q hx hb hml hr hlocks hown hname hts hK hN hR hQ
  have hown : s.vm.findClass "HangGraphModel" = some m.cls := hown
  have hts : ∀ w ∈ lw_g, w.before args s = true := fun w z => hts w (List.mem_cons_of_mem _ z)
  have hB0 : ∀ j u, (tg_up M 11 0 0) j u < 1000000 := mo_b0 hB (by decide)
  refine tg_aload_n hx hb dM_spread_0 rfl rfl ?_
  refine tg_iconst (v := nI 0) hx hb dM_spread_1 (by decide +kernel) ?_
  refine tg_put (T := TM) (N := 13) (ty := .int) hx hb hts inM tyM tyM_ok nmM hown hK (hO.1 11 (by decide) (by decide) (by decide) (by decide)) rfl rfl 0 (by decide) (hts _ wf_M_51) (fun _ z => z) rfl (by decide +kernel) rfl rfl (Nat.le_of_ble_eq_true rfl) dM_spread_2 ?_
  refine tg_wp (mo_w_11 hO 0) ?_
  refine tg_aload_n hx hb dM_spread_5 rfl rfl ?_
  refine tg_callV (C := "HangGraphModel") (As := []) (rest := []) ⟨hx, hb, hml, hown, hts⟩ hK hN hMv (hO.1 11 (by decide) (by decide) (by decide) (by decide)) rfl rfl rfl (c_mSurvey hO hMv hB0 hBB (fun u hu => by rw [mo_col _ _ _ (by decide)]; exact hc u hu) (fun u v k hu hv z1 z2 => hap u v k hu hv ((mo_in_0 M 0 u k).mp z1) ((mo_in_0 M 0 v k).mp z2))) (cwV 0 hts (lg_V wm_M_78 wi_M_survey we_M_survey wn_M wc_M_survey) rfl rfl rfl ⟨rfl, by decide, by decide, rfl⟩ ⟨by rw [hR]; exact Nat.le_of_ble_eq_true rfl, by rw [hR]; exact Nat.le_of_ble_eq_true rfl⟩) rfl (Nat.le_of_ble_eq_true rfl) ⟨by rw [hR]; exact Nat.le_of_ble_eq_true rfl, by rw [hR]; exact Nat.le_of_ble_eq_true rfl⟩ rfl dM_spread_6 (tg_kk rfl rfl ?_)
  intro r w1 ⟨hr1, M1, B1, hw1, hS1⟩
  subst hr1
  subst hw1
  refine tg_st (st' := []) rfl ?_
  have hSV := hS1.1
  refine tg_iconst (v := nI 1) hx hb dM_spread_9 (by decide +kernel) ?_
  refine tg_istore_n (L' := [(0, .ref (ad 11 0)), (1, .int (nI (1)))]) hx hb dM_spread_10 rfl (by decide) rfl rfl ?_
  refine tg_loop (fun x : Nat × (Nat → Nat → Nat) => mo_A M1 B1 x.2 ∧ x.1 ≤ 1 ∧ (x.1 = 0 → mo_cl M1 B1 400 x.2)) (fun x => 2 * (400 - mo_ct x.2) + x.1) (fun x => tg_W p l e R s m args below meth c Q 6 D vwCl F ad ok (mo_w ad cI cZ cA cB x.2 B1 μ) [(0, .ref (ad 11 0)), (1, .int (nI (x.1)))] 0 0 11 []) ?_ (1, M1) ⟨⟨fun _ _ => rfl, hSV.2.2.1, fun _ _ z => z, fun u hu z => ⟨u, hu, hg_R_refl _ u, z⟩⟩, Nat.le_refl _, fun z => absurd (show (1 : Nat) = 0 from z) (by decide)⟩
  intro ⟨mr, M2⟩ ⟨hA2, hmr, hcl⟩ ihA
  dsimp only at hA2 hmr hcl ihA ⊢
  refine tg_iload_n hx hb dM_spread_11 rfl rfl ?_
  refine tg_if_eq (tgt := 100) hx hb dM_spread_12 (by decide) (fun q_1 => ?_) (fun q_1 => ?_)
  · have q_1' := q_1
    rw [← nI_0] at q_1
    have h_2 : mr = 0 := (nI_eq (by omega) (by omega)).mp q_1
    refine tg_iconst (v := nI 0) hx hb dM_spread_100 (by decide +kernel) ?_
    refine tg_istore_n (L' := [(0, .ref (ad 11 0)), (1, .int (nI (mr))), (2, .int (nI (0)))]) hx hb dM_spread_101 rfl (by decide) rfl rfl ?_
    refine tg_iconst (v := nI 0) hx hb dM_spread_102 (by decide +kernel) ?_
    refine tg_istore_n (L' := [(0, .ref (ad 11 0)), (1, .int (nI (mr))), (2, .int (nI (0))), (3, .int (nI (0)))]) hx hb dM_spread_103 rfl (by decide) rfl rfl ?_
    have hcl4 := hcl (by omega)
    clear ihA hcl
    have h20 : ∀ u, u < 400 → M2 20 u = 0 ∧ M2 21 u = 0 := fun u hu => by rw [hA2.1 20 (by decide), hA2.1 21 (by decide)]; exact hS1.2.1 u hu
    refine tg_loop (fun x : Nat × Nat × (Nat → Nat → Nat) => x.1 ≤ 400 ∧ mo_Rv M2 B1 x.1 x.2.1 x.2.2) (fun x => 400 - x.1) (fun x => tg_W p l e R s m args below meth c Q 6 D vwCl F ad ok (mo_w ad cI cZ cA cB x.2.2 B1 μ) [(0, .ref (ad 11 0)), (1, .int (nI (mr))), (2, .int (nI (x.2.1))), (3, .int (nI (x.1)))] 0 0 104 []) ?_ (0, 0, M2) ⟨Nat.zero_le _, rfl, fun _ _ _ _ => rfl, hA2.2.1, fun u z => absurd z (Nat.not_lt_zero _), fun u _ hu => (h20 u hu).1⟩
    intro ⟨i, n, M5⟩ ⟨hi1, hR5⟩ ihB
    dsimp only at hi1 hR5 ihB ⊢
    have hn5 : n ≤ i := by rw [hR5.1]; exact hg_cn_bd _ i
    refine tg_iload_n hx hb dM_spread_104 rfl rfl ?_
    refine tg_sipush (v := nI 400) hx hb dM_spread_105 (by decide +kernel) ?_
    refine tg_icmp_ge (tgt := 143) hx hb dM_spread_108 (by decide) (fun q_3 => ?_) (fun q_3 => ?_)
    · have q_3' := q_3
      have h_4 : 400 ≤ i := (nI_leI (by omega) (by omega)).mp q_3
      refine tg_iconst (v := nI 1) hx hb dM_spread_143 (by decide +kernel) ?_
      refine tg_istore_n (L' := [(0, .ref (ad 11 0)), (1, .int (nI (1))), (2, .int (nI (n))), (3, .int (nI (i)))]) hx hb dM_spread_144 rfl (by decide) rfl rfl ?_
      refine tg_sub (L' := [(0, .ref (ad 11 0)), (1, .int (nI (1))), (2, .int (nI (n)))]) (fun q hq => (List.mem_append_left [(3, .int (nI (i)))] hq : q ∈ [(0, .ref (ad 11 0)), (1, .int (nI (1))), (2, .int (nI (n)))] ++ [(3, .int (nI (i)))])) ?_
      have ei : i = 400 := by omega
      subst ei
      clear ihB
      have e21 : M5 21 = M2 21 := hR5.2.1 21 (by decide) (by decide) (by decide)
      have e19 : M5 19 = M2 19 := hR5.2.1 19 (by decide) (by decide) (by decide)
      have hno : ∀ u, mo_hs M5 u → ¬ hg_O (mo_e M2 B1) u := fun u hu z => absurd hu.2.2 ((hR5.2.2.2.1 u hu.1).mpr ⟨by rw [← e19]; exact hu.2.1, z⟩)
      refine tg_loop (fun x : Nat × (Nat → Nat → Nat) => mo_Kv (mo_e M2 B1) M5 x.2 ∧ x.1 ≤ 1 ∧ (x.1 = 0 → mo_fx (mo_e M2 B1) M5 400 x.2)) (fun x => 2 * mo_sm (mo_e M2 B1) x.2 + x.1) (fun x => tg_W p l e R s m args below meth c Q 6 D vwCl F ad ok (mo_w ad cI cZ cA cB x.2 B1 μ) [(0, .ref (ad 11 0)), (1, .int (nI (x.1))), (2, .int (nI (n)))] 0 0 145 []) ?_ (1, M5) ⟨⟨fun _ _ => rfl, hR5.2.2.1, hg_J_0 (fun u hu => by dsimp only; rw [e21]; exact (h20 u hu).2)⟩, Nat.le_refl _, fun z => absurd (show (1 : Nat) = 0 from z) (by decide)⟩
      intro ⟨mr6, M6⟩ ⟨hK6, hmr6, hfx⟩ ihC
      dsimp only at hK6 hmr6 hfx ihC ⊢
      refine tg_iload_n hx hb dM_spread_145 rfl rfl ?_
      refine tg_if_eq (tgt := 274) hx hb dM_spread_146 (by decide) (fun q_5 => ?_) (fun q_5 => ?_)
      · have q_5' := q_5
        rw [← nI_0] at q_5
        have h_6 : mr6 = 0 := (nI_eq (by omega) (by omega)).mp q_5
        refine tg_iconst (v := nI 0) hx hb dM_spread_274 (by decide +kernel) ?_
        refine tg_istore_n (L' := [(0, .ref (ad 11 0)), (1, .int (nI (mr6))), (2, .int (nI (n))), (3, .int (nI (0)))]) hx hb dM_spread_275 rfl (by decide) rfl rfl ?_
        have hfx4 := hfx (by omega)
        clear ihC hfx
        refine tg_loop (fun x : Nat × (Nat → Nat → Nat) => x.1 ≤ 400 ∧ (∀ j, j ≠ 18 → x.2 j = M6 j) ∧ (∀ j u, x.2 j u < 1000000) ∧ ∀ u, u < x.1 → x.2 18 u = 0) (fun x => 400 - x.1) (fun x => tg_W p l e R s m args below meth c Q 6 D vwCl F ad ok (mo_w ad cI cZ cA cB x.2 B1 μ) [(0, .ref (ad 11 0)), (1, .int (nI (mr6))), (2, .int (nI (n))), (3, .int (nI (x.1)))] 0 0 276 []) ?_ (0, M6) ⟨Nat.zero_le _, fun _ _ => rfl, hK6.2.1, fun u z => absurd z (Nat.not_lt_zero _)⟩
        intro ⟨i, M8⟩ ⟨hi1, hi2, hi3, hi4⟩ ihD
        dsimp only at hi1 hi2 hi3 hi4 ihD ⊢
        refine tg_iload_n hx hb dM_spread_276 rfl rfl ?_
        refine tg_sipush (v := nI 400) hx hb dM_spread_277 (by decide +kernel) ?_
        refine tg_icmp_ge (tgt := 296) hx hb dM_spread_280 (by decide) (fun q_7 => ?_) (fun q_7 => ?_)
        · have q_7' := q_7
          have h_8 : 400 ≤ i := (nI_leI (by omega) (by omega)).mp q_7
          refine tg_iload_n hx hb dM_spread_296 rfl rfl ?_
          have ei : i = 400 := by omega
          subst ei
          have k19 : M8 19 = M2 19 := ((hi2 19 (by decide)).trans (hK6.1 19 (by decide))).trans e19
          have k20 : M8 20 = M5 20 := (hi2 20 (by decide)).trans (hK6.1 20 (by decide))
          have k21 : M8 21 = M6 21 := hi2 21 (by decide)
          have kk : ∀ j, j ≠ 18 → j ≠ 19 → j ≠ 20 → j ≠ 21 → j ≠ 24 → j ≠ 25 → M8 j = M1 j := fun j q1 q2 q3 q4 q5 q6 => (hi2 j q1).trans ((hK6.1 j q4).trans ((hR5.2.1 j q3 q5 q6).trans (hA2.1 j q2)))
          have eE : mo_e M8 B1 = mo_e M2 B1 := mo_e_e k19
          have v1 : ∀ j, j ≠ 19 → j ≠ 20 → j ≠ 21 → M1 j = (tg_up M 11 0 0) j := hSV.1
          have m12 : M1 12 = M 12 := (v1 12 (by decide) (by decide) (by decide)).trans (mo_col _ _ _ (by decide))
          refine tg_iret hx hb hlocks hr hQ ⟨rfl, rfl, M8, B1, ?_, rfl, ?_, ?_, hSV.2.1 17 (by decide), fun u hu => hi4 u hu, hi3, hSV.2.2.2, fun u v hu hv => ?_, fun u hu => ?_, fun u hu => ?_, fun u hu hh => ?_, fun u hu hh => ?_⟩ dM_spread_297
          · rw [k19]; exact congrArg (fun z => some (Value.int (nI z))) hR5.1
          · rw [kk 11 (by decide) (by decide) (by decide) (by decide) (by decide) (by decide), v1 11 (by decide) (by decide) (by decide), tg_up_self]
          · intro j q1 q2; rw [kk j (by omega) (by omega) (by omega) (by omega) (by omega) (by omega), v1 j (by omega) (by omega) (by omega)]; exact mo_col _ _ _ (by omega)
          · rw [hS1.2.2.2 u v hu hv, mo_g_0]
            exact ⟨fun z => z.elim id (fun q => absurd q.1 (by omega)), Or.inl⟩
          · rw [k19]
            have ef : mo_f M1 B1 = mo_f M B1 := by unfold mo_f; rw [m12]
            have h19 : ∀ v, v < 400 → (M1 19 v ≠ 0 ↔ mo_h M B 400 v) := fun v hv => by
              rw [hS1.2.2.1 v hv, mo_h_0]
              exact ⟨fun z => z.elim id (fun q => absurd q.2.1 (by omega)), Or.inl⟩
            constructor
            · intro z
              obtain ⟨v, q1, q2, q3⟩ := hA2.2.2.2 u hu z
              exact ⟨v, q1, ef ▸ q2, (h19 v q1).mp q3⟩
            · intro ⟨v, q1, q2, q3⟩
              rw [← ef] at q2
              exact (hg_R_back (P := fun x => x < 400 ∧ M2 19 x ≠ 0) (fun a b pb ab => ⟨ab.1.1, hcl4 a b ab.1.1 ab.1.2 ab.2.1 ab.2.2 pb.2⟩) ⟨q1, hA2.2.2.1 v q1 ((h19 v q1).mpr q3)⟩ q2).2
          · rw [k20, eE, hR5.2.2.2.1 u hu]
            exact ⟨fun z => z.2, fun z => ⟨by obtain ⟨w, w1, _⟩ := z; exact w1.2.1.1, z⟩⟩
          · rw [k21, eE]
            rw [k19] at hh
            refine hg_J_end (ht := fun x => x < 400 ∧ M2 19 x ≠ 0) hK6.2.2 (fun f => ?_) (fun f g z => ⟨⟨z.1.1, z.2.1.1⟩, z.1.2, z.2.1.2⟩) (fun f hf hs => hfx4 f hf hs) hu ⟨hu, hh⟩
            constructor
            · intro z
              exact ⟨⟨z.1, by rw [← e19]; exact z.2.1⟩, hno f z⟩
            · intro z
              refine ⟨z.1.1, by rw [e19]; exact z.1.2, Decidable.byContradiction fun q => ?_⟩
              exact z.2 ((hR5.2.2.2.1 f z.1.1).mp q).2
          · rw [k21]
            rw [k19] at hh
            exact hK6.2.2.1 u hu (fun z => z.2.1 (by rw [e19]; exact hh))
        · have q_7' := q_7
          have h_9 : i < 400 := Nat.lt_of_not_le fun z => q_7 ((nI_leI (by omega) (by omega)).mpr z)
          refine tg_aload_n hx hb dM_spread_283 rfl rfl ?_
          refine tg_get (T := TM) (N := 13) hx hb hts inM hown hK (hO.1 11 (by decide) (by decide) (by decide) (by decide)) rfl rfl 6 (by decide) (hts _ wf_M_28) (fun _ z => z) rfl dM_spread_284 ?_
          refine tg_iload_n hx hb dM_spread_287 rfl rfl ?_
          refine tg_iconst (v := nI 0) hx hb dM_spread_288 (by decide +kernel) ?_
          refine tg_zast (t0 := 2) hx hb hK (hO.1 18 (by decide) (by decide) (by decide) (by decide)) rfl rfl (x := i) (v := nI (0)) (by decide +kernel) (by decide) (by omega) dM_spread_289 ?_
          refine tg_wp (mo_w_18 hO i 0) ?_
          refine tg_iinc (v := nI (i + 1)) (L' := [(0, .ref (ad 11 0)), (1, .int (nI (mr6))), (2, .int (nI (n))), (3, .int (nI (i + 1)))]) hx hb dM_spread_290 rfl (nI_1 _) (by decide) rfl rfl ?_
          refine tg_goto (tgt := 276) hx hb dM_spread_293 (by decide) ?_
          refine ihD (i + 1, tg_up M8 18 i 0) ⟨by dsimp only; omega, fun j q => by dsimp only; rw [mo_col _ _ _ q]; exact hi2 j q, mo_b0 hi3 (by decide), fun u z => ?_⟩ (by dsimp only; omega)
          dsimp only at z ⊢
          rw [hg_colA]
          by_cases q : u = i
          · rw [q, va_up_self]
          · rw [va_up_ne _ _ q]; exact hi4 u (by omega)
      · have q_5' := q_5
        rw [← nI_0] at q_5
        have h_10 : mr6 ≠ 0 := fun z => q_5 ((nI_eq (by omega) (by omega)).mpr z)
        refine tg_iconst (v := nI 0) hx hb dM_spread_149 (by decide +kernel) ?_
        refine tg_istore_n (L' := [(0, .ref (ad 11 0)), (1, .int (nI (0))), (2, .int (nI (n)))]) hx hb dM_spread_150 rfl (by decide) rfl rfl ?_
        refine tg_iconst (v := nI 0) hx hb dM_spread_151 (by decide +kernel) ?_
        refine tg_istore_n (L' := [(0, .ref (ad 11 0)), (1, .int (nI (0))), (2, .int (nI (n))), (3, .int (nI (0)))]) hx hb dM_spread_152 rfl (by decide) rfl rfl ?_
        refine tg_loop (fun x : Nat × Nat × (Nat → Nat → Nat) => x.1 ≤ 400 ∧ mo_Kv (mo_e M2 B1) M5 x.2.2 ∧ ((x.2.1 = 0 ∧ x.2.2 = M6 ∧ mo_fx (mo_e M2 B1) M5 x.1 x.2.2) ∨ (x.2.1 = 1 ∧ mo_sm (mo_e M2 B1) x.2.2 < mo_sm (mo_e M2 B1) M6))) (fun x => 400 - x.1) (fun x => tg_W p l e R s m args below meth c Q 6 D vwCl F ad ok (mo_w ad cI cZ cA cB x.2.2 B1 μ) [(0, .ref (ad 11 0)), (1, .int (nI (x.2.1))), (2, .int (nI (n))), (3, .int (nI (x.1)))] 0 0 153 []) ?_ (0, 0, M6) ⟨Nat.zero_le _, hK6, Or.inl ⟨rfl, rfl, fun u z => absurd z (Nat.not_lt_zero _)⟩⟩
        intro ⟨i, mr7, M7⟩ ⟨hi1, hK7, hI7⟩ ihF
        dsimp only at hi1 hK7 hI7 ihF ⊢
        have g19 : M7 19 = M5 19 := hK7.1 19 (by decide)
        have g20 : M7 20 = M5 20 := hK7.1 20 (by decide)
        have hmb : ∀ j, hg_mx (mo_e M2 B1) (M7 21) i j < 1000000 := fun j => by have := hg_mx_bd (e := (mo_e M2 B1)) (K := M7 21) (f := i) (b := 999999) j (fun g _ _ => by have := hK7.2.1 21 g; omega); omega
        refine tg_iload_n hx hb dM_spread_153 rfl rfl ?_
        refine tg_sipush (v := nI 400) hx hb dM_spread_154 (by decide +kernel) ?_
        refine tg_icmp_ge (tgt := 271) hx hb dM_spread_157 (by decide) (fun q_11 => ?_) (fun q_11 => ?_)
        · have q_11' := q_11
          have h_12 : 400 ≤ i := (nI_leI (by omega) (by omega)).mp q_11
          refine tg_goto (tgt := 145) hx hb dM_spread_271 (by decide) ?_
          refine tg_sub (L' := [(0, .ref (ad 11 0)), (1, .int (nI (mr7))), (2, .int (nI (n)))]) (fun q hq => (List.mem_append_left [(3, .int (nI (i)))] hq : q ∈ [(0, .ref (ad 11 0)), (1, .int (nI (mr7))), (2, .int (nI (n)))] ++ [(3, .int (nI (i)))])) ?_
          have ei : i = 400 := by omega
          subst ei
          rcases hI7 with ⟨z1, z2, z3⟩ | ⟨z1, z2⟩
          · refine ihC (mr7, M7) ⟨hK7, by dsimp only; omega, fun _ => z3⟩ ?_
            dsimp only
            rw [z2]
            omega
          · refine ihC (mr7, M7) ⟨hK7, by dsimp only; omega, fun q => absurd (show mr7 = 0 from q) (by omega)⟩ ?_
            dsimp only
            omega
        · have q_11' := q_11
          have h_13 : i < 400 := Nat.lt_of_not_le fun z => q_11 ((nI_leI (by omega) (by omega)).mpr z)
          refine tg_aload_n hx hb dM_spread_160 rfl rfl ?_
          refine tg_get (T := TM) (N := 13) hx hb hts inM hown hK (hO.1 11 (by decide) (by decide) (by decide) (by decide)) rfl rfl 7 (by decide) (hts _ wf_M_31) (fun _ z => z) rfl dM_spread_161 ?_
          refine tg_iload_n hx hb dM_spread_164 rfl rfl ?_
          refine tg_zald (t0 := 2) hx hb hK (hO.1 19 (by decide) (by decide) (by decide) (by decide)) rfl rfl (x := i) (by decide) (by omega) dM_spread_165 ?_
          have hb_14 := hK7.2.1 19 i
          refine tg_if_eq (tgt := 265) hx hb dM_spread_166 (by decide) (fun q_15 => ?_) (fun q_15 => ?_)
          · have q_15' := q_15
            rw [← nI_0] at q_15
            have h_16 : M7 19 i = 0 := (nI_eq (by omega) (by omega)).mp q_15
            refine tg_iinc (v := nI (i + 1)) (L' := [(0, .ref (ad 11 0)), (1, .int (nI (mr7))), (2, .int (nI (n))), (3, .int (nI (i + 1)))]) hx hb dM_spread_265 rfl (nI_1 _) (by decide) rfl rfl ?_
            refine tg_goto (tgt := 153) hx hb dM_spread_268 (by decide) ?_
            refine ihF (i + 1, mr7, M7) ⟨by dsimp only; omega, hK7, ?_⟩ (by dsimp only; omega)
            dsimp only
            rcases hI7 with ⟨z1, z2, z3⟩ | z
            · refine Or.inl ⟨z1, z2, fun u qu q => ?_⟩
              by_cases eu : u = i
              · subst eu; exact absurd (by rw [← g19]; exact h_16) q.2.1
              · exact z3 u (by omega) q
            · exact Or.inr z
          · have q_15' := q_15
            rw [← nI_0] at q_15
            have h_17 : M7 19 i ≠ 0 := fun z => q_15 ((nI_eq (by omega) (by omega)).mpr z)
            refine tg_aload_n hx hb dM_spread_169 rfl rfl ?_
            refine tg_get (T := TM) (N := 13) hx hb hts inM hown hK (hO.1 11 (by decide) (by decide) (by decide) (by decide)) rfl rfl 8 (by decide) (hts _ wf_M_34) (fun _ z => z) rfl dM_spread_170 ?_
            refine tg_iload_n hx hb dM_spread_173 rfl rfl ?_
            refine tg_zald (t0 := 2) hx hb hK (hO.1 20 (by decide) (by decide) (by decide) (by decide)) rfl rfl (x := i) (by decide) (by omega) dM_spread_174 ?_
            have hb_18 := hK7.2.1 20 i
            refine tg_if_eq (tgt := 181) hx hb dM_spread_175 (by decide) (fun q_19 => ?_) (fun q_19 => ?_)
            · have q_19' := q_19
              rw [← nI_0] at q_19
              have h_20 : M7 20 i = 0 := (nI_eq (by omega) (by omega)).mp q_19
              refine tg_iconst (v := nI 0) hx hb dM_spread_181 (by decide +kernel) ?_
              refine tg_istore (L' := [(0, .ref (ad 11 0)), (1, .int (nI (mr7))), (2, .int (nI (n))), (3, .int (nI (i))), (4, .int (nI (0)))]) hx hb dM_spread_182 (by decide) rfl rfl ?_
              refine tg_iconst (v := nI 0) hx hb dM_spread_184 (by decide +kernel) ?_
              refine tg_istore (L' := [(0, .ref (ad 11 0)), (1, .int (nI (mr7))), (2, .int (nI (n))), (3, .int (nI (i))), (4, .int (nI (0))), (5, .int (nI (0)))]) hx hb dM_spread_185 (by decide) rfl rfl ?_
              have hhs : mo_hs M5 i := ⟨by omega, by rw [← g19]; exact h_17, by rw [← g20]; exact h_20⟩
              refine tg_loop (fun j : Nat => j ≤ 400) (fun j => 400 - j) (fun j => tg_W p l e R s m args below meth c Q 6 D vwCl F ad ok (mo_w ad cI cZ cA cB M7 B1 μ) [(0, .ref (ad 11 0)), (1, .int (nI (mr7))), (2, .int (nI (n))), (3, .int (nI (i))), (4, .int (nI (hg_mx (mo_e M2 B1) (M7 21) i (j)))), (5, .int (nI (j)))] 0 0 187 []) ?_ 0 (Nat.zero_le _)
              intro j hj1 ihG
              have hmj := hmb j
              refine tg_iload hx hb dM_spread_187 rfl ?_
              refine tg_sipush (v := nI 400) hx hb dM_spread_189 (by decide +kernel) ?_
              refine tg_icmp_ge (tgt := 237) hx hb dM_spread_192 (by decide) (fun q_21 => ?_) (fun q_21 => ?_)
              · have q_21' := q_21
                have h_22 : 400 ≤ j := (nI_leI (by omega) (by omega)).mp q_21
                have ej : j = 400 := by omega
                subst ej
                refine tg_aload_n hx hb dM_spread_237 rfl rfl ?_
                refine tg_get (T := TM) (N := 13) hx hb hts inM hown hK (hO.1 11 (by decide) (by decide) (by decide) (by decide)) rfl rfl 9 (by decide) (hts _ wf_M_37) (fun _ z => z) rfl dM_spread_238 ?_
                refine tg_iload_n hx hb dM_spread_241 rfl rfl ?_
                refine tg_iald (t0 := 0) hx hb hK (hO.1 21 (by decide) (by decide) (by decide) (by decide)) rfl rfl (x := i) (by decide) (by omega) dM_spread_242 ?_
                have hb_23 := hK7.2.1 21 i
                refine tg_iload hx hb dM_spread_243 rfl ?_
                refine tg_iconst (v := nI 1) hx hb dM_spread_245 (by decide +kernel) ?_
                refine tg_iadd hx hb dM_spread_246 ?_
                refine tg_top (y := nI ((hg_mx (mo_e M2 B1) (M7 21) i 400) + (1))) (nI_add _ _) ?_
                refine tg_icmp_ne (tgt := 253) hx hb dM_spread_247 (by decide) (fun q_24 => ?_) (fun q_24 => ?_)
                · have q_24' := q_24
                  have h_25 : M7 21 i ≠ (hg_mx (mo_e M2 B1) (M7 21) i 400) + (1) := fun z => q_24 ((nI_eq (by omega) (by omega)).mpr z)
                  refine tg_aload_n hx hb dM_spread_253 rfl rfl ?_
                  refine tg_get (T := TM) (N := 13) hx hb hts inM hown hK (hO.1 11 (by decide) (by decide) (by decide) (by decide)) rfl rfl 9 (by decide) (hts _ wf_M_37) (fun _ z => z) rfl dM_spread_254 ?_
                  refine tg_iload_n hx hb dM_spread_257 rfl rfl ?_
                  refine tg_iload hx hb dM_spread_258 rfl ?_
                  refine tg_iconst (v := nI 1) hx hb dM_spread_260 (by decide +kernel) ?_
                  refine tg_iadd hx hb dM_spread_261 ?_
                  refine tg_top (y := nI ((hg_mx (mo_e M2 B1) (M7 21) i 400) + (1))) (nI_add _ _) ?_
                  refine tg_iast (t0 := 0) hx hb hK (hO.1 21 (by decide) (by decide) (by decide) (by decide)) rfl rfl (x := i) (v := nI ((hg_mx (mo_e M2 B1) (M7 21) i 400) + (1))) (by decide) (by omega) dM_spread_262 ?_
                  refine tg_wp (mo_w_21 hO i ((hg_mx (mo_e M2 B1) (M7 21) i 400) + (1))) ?_
                  refine tg_iconst (v := nI 1) hx hb dM_spread_263 (by decide +kernel) ?_
                  refine tg_istore_n (L' := [(0, .ref (ad 11 0)), (1, .int (nI (1))), (2, .int (nI (n))), (3, .int (nI (i))), (4, .int (nI (hg_mx (mo_e M2 B1) (M7 21) i 400))), (5, .int (nI (400)))]) hx hb dM_spread_264 rfl (by decide) rfl rfl ?_
                  refine tg_iinc (v := nI (i + 1)) (L' := [(0, .ref (ad 11 0)), (1, .int (nI (1))), (2, .int (nI (n))), (3, .int (nI (i + 1))), (4, .int (nI (hg_mx (mo_e M2 B1) (M7 21) i 400))), (5, .int (nI (400)))]) hx hb dM_spread_265 rfl (nI_1 _) (by decide) rfl rfl ?_
                  refine tg_goto (tgt := 153) hx hb dM_spread_268 (by decide) ?_
                  refine tg_sub (L' := [(0, .ref (ad 11 0)), (1, .int (nI (1))), (2, .int (nI (n))), (3, .int (nI (i + 1)))]) (fun q hq => (List.mem_append_left [(4, .int (nI (hg_mx (mo_e M2 B1) (M7 21) i 400))), (5, .int (nI (400)))] hq : q ∈ [(0, .ref (ad 11 0)), (1, .int (nI (1))), (2, .int (nI (n))), (3, .int (nI (i + 1)))] ++ [(4, .int (nI (hg_mx (mo_e M2 B1) (M7 21) i 400))), (5, .int (nI (400)))])) ?_
                  obtain ⟨g1, g2⟩ := hK7.up (f := i) hhs (hno i hhs) (fun z => h_25 (by rw [z]))
                  refine ihF (i + 1, 1, tg_up M7 21 i (hg_mx (mo_e M2 B1) (M7 21) i 400 + 1)) ⟨by dsimp only; omega, g1, Or.inr ⟨rfl, ?_⟩⟩ (by dsimp only; omega)
                  dsimp only
                  rcases hI7 with ⟨z1, z2, z3⟩ | z
                  · rw [← z2]; exact g2
                  · exact Nat.lt_trans g2 z.2
                · have q_24' := q_24
                  have h_26 : M7 21 i = (hg_mx (mo_e M2 B1) (M7 21) i 400) + (1) := (nI_eq (by omega) (by omega)).mp q_24
                  refine tg_goto (tgt := 265) hx hb dM_spread_250 (by decide) ?_
                  refine tg_iinc (v := nI (i + 1)) (L' := [(0, .ref (ad 11 0)), (1, .int (nI (mr7))), (2, .int (nI (n))), (3, .int (nI (i + 1))), (4, .int (nI (hg_mx (mo_e M2 B1) (M7 21) i 400))), (5, .int (nI (400)))]) hx hb dM_spread_265 rfl (nI_1 _) (by decide) rfl rfl ?_
                  refine tg_goto (tgt := 153) hx hb dM_spread_268 (by decide) ?_
                  refine tg_sub (L' := [(0, .ref (ad 11 0)), (1, .int (nI (mr7))), (2, .int (nI (n))), (3, .int (nI (i + 1)))]) (fun q hq => (List.mem_append_left [(4, .int (nI (hg_mx (mo_e M2 B1) (M7 21) i 400))), (5, .int (nI (400)))] hq : q ∈ [(0, .ref (ad 11 0)), (1, .int (nI (mr7))), (2, .int (nI (n))), (3, .int (nI (i + 1)))] ++ [(4, .int (nI (hg_mx (mo_e M2 B1) (M7 21) i 400))), (5, .int (nI (400)))])) ?_
                  refine ihF (i + 1, mr7, M7) ⟨by dsimp only; omega, hK7, ?_⟩ (by dsimp only; omega)
                  dsimp only
                  rcases hI7 with ⟨z1, z2, z3⟩ | z
                  · refine Or.inl ⟨z1, z2, fun u qu q => ?_⟩
                    by_cases eu : u = i
                    · subst eu; exact h_26
                    · exact z3 u (by omega) q
                  · exact Or.inr z
              · have q_21' := q_21
                have h_27 : j < 400 := Nat.lt_of_not_le fun z => q_21 ((nI_leI (by omega) (by omega)).mpr z)
                refine tg_aload_n hx hb dM_spread_195 rfl rfl ?_
                refine tg_get (T := TM) (N := 13) hx hb hts inM hown hK (hO.1 11 (by decide) (by decide) (by decide) (by decide)) rfl rfl 10 (by decide) (hts _ wf_M_42) (fun _ z => z) rfl dM_spread_196 ?_
                refine tg_iload_n hx hb dM_spread_199 rfl rfl ?_
                refine tg_aaldA (t0 := 5) hx hb hK (hO.1 22 (by decide) (by decide) (by decide) (by decide)) rfl rfl rfl (x := i) (by decide) (by omega) dM_spread_200 ?_
                refine tg_st (st' := .ref (ad 23 i) :: []) rfl ?_
                refine tg_iload hx hb dM_spread_201 rfl ?_
                refine tg_zald (t0 := 2) hx hb hK (hO.2.1 i (by omega)).2 rfl rfl (x := j) (by decide) (by omega) dM_spread_203 ?_
                have hb_28 := hSV.2.2.2 23 i j
                refine tg_if_eq (tgt := 231) hx hb dM_spread_204 (by decide) (fun q_29 => ?_) (fun q_29 => ?_)
                · have q_29' := q_29
                  rw [← nI_0] at q_29
                  have h_30 : B1 23 i j = 0 := (nI_eq (by omega) (by omega)).mp q_29
                  refine tg_iinc (v := nI (j + 1)) (L' := [(0, .ref (ad 11 0)), (1, .int (nI (mr7))), (2, .int (nI (n))), (3, .int (nI (i))), (4, .int (nI (hg_mx (mo_e M2 B1) (M7 21) i (j)))), (5, .int (nI (j + 1)))]) hx hb dM_spread_231 rfl (nI_1 _) (by decide) rfl rfl ?_
                  refine tg_goto (tgt := 187) hx hb dM_spread_234 (by decide) ?_
                  have e9 : hg_mx (mo_e M2 B1) (M7 21) i (j + 1) = hg_mx (mo_e M2 B1) (M7 21) i (j) := by rw [hg_mx_s, hg_bK_f (fun z => z.2.2 h_30)]; exact Nat.max_eq_left (Nat.zero_le _)
                  rw [← e9]
                  exact ihG (j + 1) (by omega) (by omega)
                · have q_29' := q_29
                  rw [← nI_0] at q_29
                  have h_31 : B1 23 i j ≠ 0 := fun z => q_29 ((nI_eq (by omega) (by omega)).mpr z)
                  refine tg_aload_n hx hb dM_spread_207 rfl rfl ?_
                  refine tg_get (T := TM) (N := 13) hx hb hts inM hown hK (hO.1 11 (by decide) (by decide) (by decide) (by decide)) rfl rfl 7 (by decide) (hts _ wf_M_31) (fun _ z => z) rfl dM_spread_208 ?_
                  refine tg_iload hx hb dM_spread_211 rfl ?_
                  refine tg_zald (t0 := 2) hx hb hK (hO.1 19 (by decide) (by decide) (by decide) (by decide)) rfl rfl (x := j) (by decide) (by omega) dM_spread_213 ?_
                  have hb_32 := hK7.2.1 19 j
                  refine tg_if_eq (tgt := 231) hx hb dM_spread_214 (by decide) (fun q_33 => ?_) (fun q_33 => ?_)
                  · have q_33' := q_33
                    rw [← nI_0] at q_33
                    have h_34 : M7 19 j = 0 := (nI_eq (by omega) (by omega)).mp q_33
                    refine tg_iinc (v := nI (j + 1)) (L' := [(0, .ref (ad 11 0)), (1, .int (nI (mr7))), (2, .int (nI (n))), (3, .int (nI (i))), (4, .int (nI (hg_mx (mo_e M2 B1) (M7 21) i (j)))), (5, .int (nI (j + 1)))]) hx hb dM_spread_231 rfl (nI_1 _) (by decide) rfl rfl ?_
                    refine tg_goto (tgt := 187) hx hb dM_spread_234 (by decide) ?_
                    have e9 : hg_mx (mo_e M2 B1) (M7 21) i (j + 1) = hg_mx (mo_e M2 B1) (M7 21) i (j) := by rw [hg_mx_s, hg_bK_f (fun z => z.2.1.2 (by rw [← e19, ← g19]; exact h_34))]; exact Nat.max_eq_left (Nat.zero_le _)
                    rw [← e9]
                    exact ihG (j + 1) (by omega) (by omega)
                  · have q_33' := q_33
                    rw [← nI_0] at q_33
                    have h_35 : M7 19 j ≠ 0 := fun z => q_33 ((nI_eq (by omega) (by omega)).mpr z)
                    refine tg_iload hx hb dM_spread_217 rfl ?_
                    refine tg_aload_n hx hb dM_spread_219 rfl rfl ?_
                    refine tg_get (T := TM) (N := 13) hx hb hts inM hown hK (hO.1 11 (by decide) (by decide) (by decide) (by decide)) rfl rfl 9 (by decide) (hts _ wf_M_37) (fun _ z => z) rfl dM_spread_220 ?_
                    refine tg_iload hx hb dM_spread_223 rfl ?_
                    refine tg_iald (t0 := 0) hx hb hK (hO.1 21 (by decide) (by decide) (by decide) (by decide)) rfl rfl (x := j) (by decide) (by omega) dM_spread_225 ?_
                    have hb_36 := hK7.2.1 21 j
                    refine tg_mmax hx hb hml hown (hts _ wm_M_85) (hts _ wt_java_lang_Math_max) (hts _ wn_java_lang_Math) (hts _ wc_java_lang_Math_max) (by rw [hR]; exact Nat.le_of_ble_eq_true rfl) (by rw [hR]; exact Nat.le_of_ble_eq_true rfl) (Nat.zero_le _) (Nat.zero_le _) dM_spread_226 ?_
                    refine tg_top (y := nI (Nat.max (hg_mx (mo_e M2 B1) (M7 21) i (j)) (M7 21 j))) (hg_imax (by omega) (by omega)) ?_
                    refine tg_istore (L' := [(0, .ref (ad 11 0)), (1, .int (nI (mr7))), (2, .int (nI (n))), (3, .int (nI (i))), (4, .int (nI (Nat.max (hg_mx (mo_e M2 B1) (M7 21) i (j)) (M7 21 j)))), (5, .int (nI (j)))]) hx hb dM_spread_229 (by decide) rfl rfl ?_
                    refine tg_iinc (v := nI (j + 1)) (L' := [(0, .ref (ad 11 0)), (1, .int (nI (mr7))), (2, .int (nI (n))), (3, .int (nI (i))), (4, .int (nI (Nat.max (hg_mx (mo_e M2 B1) (M7 21) i (j)) (M7 21 j)))), (5, .int (nI (j + 1)))]) hx hb dM_spread_231 rfl (nI_1 _) (by decide) rfl rfl ?_
                    refine tg_goto (tgt := 187) hx hb dM_spread_234 (by decide) ?_
                    have e9 : hg_mx (mo_e M2 B1) (M7 21) i (j + 1) = Nat.max (hg_mx (mo_e M2 B1) (M7 21) i (j)) (M7 21 j) := by rw [hg_mx_s, hg_bK_t ⟨⟨by omega, by omega⟩, ⟨by rw [← e19]; exact hhs.2.1, by rw [← e19, ← g19]; exact h_35⟩, h_31⟩]
                    rw [← e9]
                    exact ihG (j + 1) (by omega) (by omega)
            · have q_19' := q_19
              rw [← nI_0] at q_19
              have h_37 : M7 20 i ≠ 0 := fun z => q_19 ((nI_eq (by omega) (by omega)).mpr z)
              refine tg_goto (tgt := 265) hx hb dM_spread_178 (by decide) ?_
              refine tg_iinc (v := nI (i + 1)) (L' := [(0, .ref (ad 11 0)), (1, .int (nI (mr7))), (2, .int (nI (n))), (3, .int (nI (i + 1)))]) hx hb dM_spread_265 rfl (nI_1 _) (by decide) rfl rfl ?_
              refine tg_goto (tgt := 153) hx hb dM_spread_268 (by decide) ?_
              refine ihF (i + 1, mr7, M7) ⟨by dsimp only; omega, hK7, ?_⟩ (by dsimp only; omega)
              dsimp only
              rcases hI7 with ⟨z1, z2, z3⟩ | z
              · refine Or.inl ⟨z1, z2, fun u qu q => ?_⟩
                by_cases eu : u = i
                · subst eu; exact absurd q.2.2 (by rw [← g20]; exact h_37)
                · exact z3 u (by omega) q
              · exact Or.inr z
    · have q_3' := q_3
      have h_38 : i < 400 := Nat.lt_of_not_le fun z => q_3 ((nI_leI (by omega) (by omega)).mpr z)
      refine tg_aload_n hx hb dM_spread_111 rfl rfl ?_
      refine tg_get (T := TM) (N := 13) hx hb hts inM hown hK (hO.1 11 (by decide) (by decide) (by decide) (by decide)) rfl rfl 7 (by decide) (hts _ wf_M_31) (fun _ z => z) rfl dM_spread_112 ?_
      refine tg_iload_n hx hb dM_spread_115 rfl rfl ?_
      refine tg_zald (t0 := 2) hx hb hK (hO.1 19 (by decide) (by decide) (by decide) (by decide)) rfl rfl (x := i) (by decide) (by omega) dM_spread_116 ?_
      have hb_39 := hR5.2.2.1 19 i
      refine tg_if_ne (tgt := 123) hx hb dM_spread_117 (by decide) (fun q_40 => ?_) (fun q_40 => ?_)
      · have q_40' := q_40
        rw [← nI_0] at q_40
        have h_41 : M5 19 i ≠ 0 := fun z => q_40 ((nI_eq (by omega) (by omega)).mpr z)
        refine tg_iinc (v := nI (n + 1)) (L' := [(0, .ref (ad 11 0)), (1, .int (nI (mr))), (2, .int (nI (n + 1))), (3, .int (nI (i)))]) hx hb dM_spread_123 rfl (nI_1 _) (by decide) rfl rfl ?_
        refine tg_aload_n hx hb dM_spread_126 rfl rfl ?_
        refine tg_get (T := TM) (N := 13) hx hb hts inM hown hK (hO.1 11 (by decide) (by decide) (by decide) (by decide)) rfl rfl 8 (by decide) (hts _ wf_M_34) (fun _ z => z) rfl dM_spread_127 ?_
        refine tg_iload_n hx hb dM_spread_130 rfl rfl ?_
        refine tg_aload_n hx hb dM_spread_131 rfl rfl ?_
        refine tg_iload_n hx hb dM_spread_132 rfl rfl ?_
        refine tg_callV (C := "HangGraphModel") (As := [.int (nI (i))]) (rest := [.int (nI (i)), .ref (ad 20 0)]) ⟨hx, hb, hml, hown, hts⟩ hK hN hMv (hO.1 11 (by decide) (by decide) (by decide) (by decide)) rfl rfl rfl (c_mComesBack hO hR5.2.2.1 hSV.2.2.2 i (by omega) h_41) (cwV 1 hts (lg_V wm_M_81 wi_M_comesBack we_M_comesBack wn_M wc_M_comesBack) rfl rfl rfl ⟨rfl, by decide, by decide, rfl⟩ ⟨by rw [hR]; exact Nat.le_of_ble_eq_true rfl, by rw [hR]; exact Nat.le_of_ble_eq_true rfl⟩) rfl (Nat.le_of_ble_eq_true rfl) ⟨by rw [hR]; exact Nat.le_of_ble_eq_true rfl, by rw [hR]; exact Nat.le_of_ble_eq_true rfl⟩ rfl dM_spread_133 (tg_kk rfl rfl ?_)
        intro r w1 ⟨hr6, M6, hw6, hm6, hb6⟩
        subst hr6
        subst hw6
        refine tg_st (st' := [.int (nI (hg_b (hg_O (mo_e M5 B1) i))), .int (nI i), .ref (ad 20 0)]) rfl ?_
        refine tg_zast (t0 := 2) hx hb hK (hO.1 20 (by decide) (by decide) (by decide) (by decide)) rfl rfl (x := i) (v := nI (hg_b (hg_O (mo_e M5 B1) i))) (mo_nar _) (by decide) (by omega) dM_spread_136 ?_
        refine tg_wp (mo_w_20 hO i (hg_b (hg_O (mo_e M5 B1) i))) ?_
        refine tg_iinc (v := nI (i + 1)) (L' := [(0, .ref (ad 11 0)), (1, .int (nI (mr))), (2, .int (nI (n + 1))), (3, .int (nI (i + 1)))]) hx hb dM_spread_137 rfl (nI_1 _) (by decide) rfl rfl ?_
        refine tg_goto (tgt := 104) hx hb dM_spread_140 (by decide) ?_
        exact ihB (i + 1, n + 1, tg_up M6 20 i (hg_b (hg_O (mo_e M5 B1) i))) ⟨by dsimp only; omega, hR5.add (by omega) h_41 hm6 hb6⟩ (by dsimp only; omega)
      · have q_40' := q_40
        rw [← nI_0] at q_40
        have h_42 : M5 19 i = 0 := (nI_eq (by omega) (by omega)).mp q_40
        refine tg_goto (tgt := 137) hx hb dM_spread_120 (by decide) ?_
        refine tg_iinc (v := nI (i + 1)) (L' := [(0, .ref (ad 11 0)), (1, .int (nI (mr))), (2, .int (nI (n))), (3, .int (nI (i + 1)))]) hx hb dM_spread_137 rfl (nI_1 _) (by decide) rfl rfl ?_
        refine tg_goto (tgt := 104) hx hb dM_spread_140 (by decide) ?_
        exact ihB (i + 1, n, M5) ⟨by dsimp only; omega, hR5.skip (by omega) h_42⟩ (by dsimp only; omega)
  · have q_1' := q_1
    rw [← nI_0] at q_1
    have h_43 : mr ≠ 0 := fun z => q_1 ((nI_eq (by omega) (by omega)).mpr z)
    refine tg_iconst (v := nI 0) hx hb dM_spread_15 (by decide +kernel) ?_
    refine tg_istore_n (L' := [(0, .ref (ad 11 0)), (1, .int (nI (0)))]) hx hb dM_spread_16 rfl (by decide) rfl rfl ?_
    refine tg_iconst (v := nI 0) hx hb dM_spread_17 (by decide +kernel) ?_
    refine tg_istore_n (L' := [(0, .ref (ad 11 0)), (1, .int (nI (0))), (2, .int (nI (0)))]) hx hb dM_spread_18 rfl (by decide) rfl rfl ?_
    refine tg_loop (fun x : Nat × Nat × (Nat → Nat → Nat) => x.1 ≤ 400 ∧ mo_A M1 B1 x.2.2 ∧ ((x.2.1 = 0 ∧ x.2.2 = M2 ∧ mo_cl M1 B1 x.1 x.2.2) ∨ (x.2.1 = 1 ∧ mo_ct M2 < mo_ct x.2.2))) (fun x => 400 - x.1) (fun x => tg_W p l e R s m args below meth c Q 6 D vwCl F ad ok (mo_w ad cI cZ cA cB x.2.2 B1 μ) [(0, .ref (ad 11 0)), (1, .int (nI (x.2.1))), (2, .int (nI (x.1)))] 0 0 19 []) ?_ (0, 0, M2) ⟨Nat.zero_le _, hA2, Or.inl ⟨rfl, rfl, fun u v z => absurd z (Nat.not_lt_zero _)⟩⟩
    intro ⟨i, mr3, M3⟩ ⟨hi1, hA3, hI3⟩ ihF
    dsimp only at hi1 hA3 hI3 ihF ⊢
    refine tg_iload_n hx hb dM_spread_19 rfl rfl ?_
    refine tg_sipush (v := nI 400) hx hb dM_spread_20 (by decide +kernel) ?_
    refine tg_icmp_ge (tgt := 97) hx hb dM_spread_23 (by decide) (fun q_44 => ?_) (fun q_44 => ?_)
    · have q_44' := q_44
      have h_45 : 400 ≤ i := (nI_leI (by omega) (by omega)).mp q_44
      refine tg_goto (tgt := 11) hx hb dM_spread_97 (by decide) ?_
      refine tg_sub (L' := [(0, .ref (ad 11 0)), (1, .int (nI (mr3)))]) (fun q hq => (List.mem_append_left [(2, .int (nI (i)))] hq : q ∈ [(0, .ref (ad 11 0)), (1, .int (nI (mr3)))] ++ [(2, .int (nI (i)))])) ?_
      have ei : i = 400 := by omega
      subst ei
      have c1 := mo_ct_le M2
      have c2 := mo_ct_le M3
      rcases hI3 with ⟨z1, z2, z3⟩ | ⟨z1, z2⟩
      · refine ihA (mr3, M3) ⟨hA3, by dsimp only; omega, fun _ => z3⟩ ?_
        dsimp only
        rw [z2]
        omega
      · refine ihA (mr3, M3) ⟨hA3, by dsimp only; omega, fun q => absurd (show mr3 = 0 from q) (by omega)⟩ ?_
        dsimp only
        omega
    · have q_44' := q_44
      have h_46 : i < 400 := Nat.lt_of_not_le fun z => q_44 ((nI_leI (by omega) (by omega)).mpr z)
      refine tg_iconst (v := nI 0) hx hb dM_spread_26 (by decide +kernel) ?_
      refine tg_istore_n (L' := [(0, .ref (ad 11 0)), (1, .int (nI (mr3))), (2, .int (nI (i))), (3, .int (nI (0)))]) hx hb dM_spread_27 rfl (by decide) rfl rfl ?_
      refine tg_loop (fun x : Nat × Nat × (Nat → Nat → Nat) => x.1 ≤ 400 ∧ mo_A M1 B1 x.2.2 ∧ ((x.2.1 = 0 ∧ x.2.2 = M2 ∧ mo_cl M1 B1 i x.2.2 ∧ ∀ v, v < x.1 → ¬ (B1 23 i v ≠ 0 ∧ x.2.2 19 v ≠ 0)) ∨ (x.2.1 = 1 ∧ mo_ct M2 < mo_ct x.2.2))) (fun x => 400 - x.1) (fun x => tg_W p l e R s m args below meth c Q 6 D vwCl F ad ok (mo_w ad cI cZ cA cB x.2.2 B1 μ) [(0, .ref (ad 11 0)), (1, .int (nI (x.2.1))), (2, .int (nI (i))), (3, .int (nI (x.1)))] 0 0 28 []) ?_ (0, mr3, M3) ⟨Nat.zero_le _, hA3, hI3.elim (fun z => Or.inl ⟨z.1, z.2.1, z.2.2, fun v q => absurd q (Nat.not_lt_zero _)⟩) Or.inr⟩
      intro ⟨j, mr4, M4⟩ ⟨hj1, hA4, hI4⟩ ihG
      dsimp only at hj1 hA4 hI4 ihG ⊢
      have e12 : M4 12 = M1 12 := hA4.1 12 (by decide)
      refine tg_iload_n hx hb dM_spread_28 rfl rfl ?_
      refine tg_sipush (v := nI 400) hx hb dM_spread_29 (by decide +kernel) ?_
      refine tg_icmp_ge (tgt := 91) hx hb dM_spread_32 (by decide) (fun q_47 => ?_) (fun q_47 => ?_)
      · have q_47' := q_47
        have h_48 : 400 ≤ j := (nI_leI (by omega) (by omega)).mp q_47
        refine tg_iinc (v := nI (i + 1)) (L' := [(0, .ref (ad 11 0)), (1, .int (nI (mr4))), (2, .int (nI (i + 1))), (3, .int (nI (j)))]) hx hb dM_spread_91 rfl (nI_1 _) (by decide) rfl rfl ?_
        refine tg_goto (tgt := 19) hx hb dM_spread_94 (by decide) ?_
        refine tg_sub (L' := [(0, .ref (ad 11 0)), (1, .int (nI (mr4))), (2, .int (nI (i + 1)))]) (fun q hq => (List.mem_append_left [(3, .int (nI (j)))] hq : q ∈ [(0, .ref (ad 11 0)), (1, .int (nI (mr4))), (2, .int (nI (i + 1)))] ++ [(3, .int (nI (j)))])) ?_
        refine ihF (i + 1, mr4, M4) ⟨by dsimp only; omega, hA4, ?_⟩ (by dsimp only; omega)
        dsimp only
        rcases hI4 with ⟨z1, z2, z3, z4⟩ | z
        · refine Or.inl ⟨z1, z2, fun u v q0 q1 q2 q3 q4 => ?_⟩
          by_cases eu : u = i
          · subst eu; exact absurd ⟨q3, q4⟩ (z4 v (by omega))
          · exact z3 u v (by omega) q1 q2 q3 q4
        · exact Or.inr z
      · have q_47' := q_47
        have h_49 : j < 400 := Nat.lt_of_not_le fun z => q_47 ((nI_leI (by omega) (by omega)).mpr z)
        refine tg_aload_n hx hb dM_spread_35 rfl rfl ?_
        refine tg_get (T := TM) (N := 13) hx hb hts inM hown hK (hO.1 11 (by decide) (by decide) (by decide) (by decide)) rfl rfl 1 (by decide) (hts _ wf_M_7) (fun _ z => z) rfl dM_spread_36 ?_
        refine tg_iload_n hx hb dM_spread_39 rfl rfl ?_
        refine tg_zald (t0 := 2) hx hb hK (hO.1 12 (by decide) (by decide) (by decide) (by decide)) rfl rfl (x := i) (by decide) (by omega) dM_spread_40 ?_
        have hb_50 := hA4.2.1 12 i
        refine tg_if_eq (tgt := 91) hx hb dM_spread_41 (by decide) (fun q_51 => ?_) (fun q_51 => ?_)
        · have q_51' := q_51
          rw [← nI_0] at q_51
          have h_52 : M4 12 i = 0 := (nI_eq (by omega) (by omega)).mp q_51
          refine tg_iinc (v := nI (i + 1)) (L' := [(0, .ref (ad 11 0)), (1, .int (nI (mr4))), (2, .int (nI (i + 1))), (3, .int (nI (j)))]) hx hb dM_spread_91 rfl (nI_1 _) (by decide) rfl rfl ?_
          refine tg_goto (tgt := 19) hx hb dM_spread_94 (by decide) ?_
          refine tg_sub (L' := [(0, .ref (ad 11 0)), (1, .int (nI (mr4))), (2, .int (nI (i + 1)))]) (fun q hq => (List.mem_append_left [(3, .int (nI (j)))] hq : q ∈ [(0, .ref (ad 11 0)), (1, .int (nI (mr4))), (2, .int (nI (i + 1)))] ++ [(3, .int (nI (j)))])) ?_
          refine ihF (i + 1, mr4, M4) ⟨by dsimp only; omega, hA4, ?_⟩ (by dsimp only; omega)
          dsimp only
          rcases hI4 with ⟨z1, z2, z3, z4⟩ | z
          · refine Or.inl ⟨z1, z2, fun u v q0 q1 q2 q3 q4 => ?_⟩
            by_cases eu : u = i
            · subst eu; exact absurd (by rw [← e12]; exact h_52) q2
            · exact z3 u v (by omega) q1 q2 q3 q4
          · exact Or.inr z
        · have q_51' := q_51
          rw [← nI_0] at q_51
          have h_53 : M4 12 i ≠ 0 := fun z => q_51 ((nI_eq (by omega) (by omega)).mpr z)
          refine tg_aload_n hx hb dM_spread_44 rfl rfl ?_
          refine tg_get (T := TM) (N := 13) hx hb hts inM hown hK (hO.1 11 (by decide) (by decide) (by decide) (by decide)) rfl rfl 7 (by decide) (hts _ wf_M_31) (fun _ z => z) rfl dM_spread_45 ?_
          refine tg_iload_n hx hb dM_spread_48 rfl rfl ?_
          refine tg_zald (t0 := 2) hx hb hK (hO.1 19 (by decide) (by decide) (by decide) (by decide)) rfl rfl (x := i) (by decide) (by omega) dM_spread_49 ?_
          have hb_54 := hA4.2.1 19 i
          refine tg_if_ne (tgt := 91) hx hb dM_spread_50 (by decide) (fun q_55 => ?_) (fun q_55 => ?_)
          · have q_55' := q_55
            rw [← nI_0] at q_55
            have h_56 : M4 19 i ≠ 0 := fun z => q_55 ((nI_eq (by omega) (by omega)).mpr z)
            refine tg_iinc (v := nI (i + 1)) (L' := [(0, .ref (ad 11 0)), (1, .int (nI (mr4))), (2, .int (nI (i + 1))), (3, .int (nI (j)))]) hx hb dM_spread_91 rfl (nI_1 _) (by decide) rfl rfl ?_
            refine tg_goto (tgt := 19) hx hb dM_spread_94 (by decide) ?_
            refine tg_sub (L' := [(0, .ref (ad 11 0)), (1, .int (nI (mr4))), (2, .int (nI (i + 1)))]) (fun q hq => (List.mem_append_left [(3, .int (nI (j)))] hq : q ∈ [(0, .ref (ad 11 0)), (1, .int (nI (mr4))), (2, .int (nI (i + 1)))] ++ [(3, .int (nI (j)))])) ?_
            refine ihF (i + 1, mr4, M4) ⟨by dsimp only; omega, hA4, ?_⟩ (by dsimp only; omega)
            dsimp only
            rcases hI4 with ⟨z1, z2, z3, z4⟩ | z
            · refine Or.inl ⟨z1, z2, fun u v q0 q1 q2 q3 q4 => ?_⟩
              by_cases eu : u = i
              · subst eu; exact h_56
              · exact z3 u v (by omega) q1 q2 q3 q4
            · exact Or.inr z
          · have q_55' := q_55
            rw [← nI_0] at q_55
            have h_57 : M4 19 i = 0 := (nI_eq (by omega) (by omega)).mp q_55
            refine tg_aload_n hx hb dM_spread_53 rfl rfl ?_
            refine tg_get (T := TM) (N := 13) hx hb hts inM hown hK (hO.1 11 (by decide) (by decide) (by decide) (by decide)) rfl rfl 10 (by decide) (hts _ wf_M_42) (fun _ z => z) rfl dM_spread_54 ?_
            refine tg_iload_n hx hb dM_spread_57 rfl rfl ?_
            refine tg_aaldA (t0 := 5) hx hb hK (hO.1 22 (by decide) (by decide) (by decide) (by decide)) rfl rfl rfl (x := i) (by decide) (by omega) dM_spread_58 ?_
            refine tg_st (st' := .ref (ad 23 i) :: []) rfl ?_
            refine tg_iload_n hx hb dM_spread_59 rfl rfl ?_
            refine tg_zald (t0 := 2) hx hb hK (hO.2.1 i (by omega)).2 rfl rfl (x := j) (by decide) (by omega) dM_spread_60 ?_
            have hb_58 := hSV.2.2.2 23 i j
            refine tg_if_eq (tgt := 85) hx hb dM_spread_61 (by decide) (fun q_59 => ?_) (fun q_59 => ?_)
            · have q_59' := q_59
              rw [← nI_0] at q_59
              have h_60 : B1 23 i j = 0 := (nI_eq (by omega) (by omega)).mp q_59
              refine tg_iinc (v := nI (j + 1)) (L' := [(0, .ref (ad 11 0)), (1, .int (nI (mr4))), (2, .int (nI (i))), (3, .int (nI (j + 1)))]) hx hb dM_spread_85 rfl (nI_1 _) (by decide) rfl rfl ?_
              refine tg_goto (tgt := 28) hx hb dM_spread_88 (by decide) ?_
              refine ihG (j + 1, mr4, M4) ⟨by dsimp only; omega, hA4, ?_⟩ (by dsimp only; omega)
              dsimp only
              rcases hI4 with ⟨z1, z2, z3, z4⟩ | z
              · refine Or.inl ⟨z1, z2, z3, fun v qv q => ?_⟩
                by_cases ev : v = j
                · subst ev; exact q.1 h_60
                · exact z4 v (by omega) q
              · exact Or.inr z
            · have q_59' := q_59
              rw [← nI_0] at q_59
              have h_61 : B1 23 i j ≠ 0 := fun z => q_59 ((nI_eq (by omega) (by omega)).mpr z)
              refine tg_aload_n hx hb dM_spread_64 rfl rfl ?_
              refine tg_get (T := TM) (N := 13) hx hb hts inM hown hK (hO.1 11 (by decide) (by decide) (by decide) (by decide)) rfl rfl 7 (by decide) (hts _ wf_M_31) (fun _ z => z) rfl dM_spread_65 ?_
              refine tg_iload_n hx hb dM_spread_68 rfl rfl ?_
              refine tg_zald (t0 := 2) hx hb hK (hO.1 19 (by decide) (by decide) (by decide) (by decide)) rfl rfl (x := j) (by decide) (by omega) dM_spread_69 ?_
              have hb_62 := hA4.2.1 19 j
              refine tg_if_ne (tgt := 76) hx hb dM_spread_70 (by decide) (fun q_63 => ?_) (fun q_63 => ?_)
              · have q_63' := q_63
                rw [← nI_0] at q_63
                have h_64 : M4 19 j ≠ 0 := fun z => q_63 ((nI_eq (by omega) (by omega)).mpr z)
                refine tg_aload_n hx hb dM_spread_76 rfl rfl ?_
                refine tg_get (T := TM) (N := 13) hx hb hts inM hown hK (hO.1 11 (by decide) (by decide) (by decide) (by decide)) rfl rfl 7 (by decide) (hts _ wf_M_31) (fun _ z => z) rfl dM_spread_77 ?_
                refine tg_iload_n hx hb dM_spread_80 rfl rfl ?_
                refine tg_iconst (v := nI 1) hx hb dM_spread_81 (by decide +kernel) ?_
                refine tg_zast (t0 := 2) hx hb hK (hO.1 19 (by decide) (by decide) (by decide) (by decide)) rfl rfl (x := i) (v := nI (1)) (by decide +kernel) (by decide) (by omega) dM_spread_82 ?_
                refine tg_wp (mo_w_19 hO i 1) ?_
                refine tg_iconst (v := nI 1) hx hb dM_spread_83 (by decide +kernel) ?_
                refine tg_istore_n (L' := [(0, .ref (ad 11 0)), (1, .int (nI (1))), (2, .int (nI (i))), (3, .int (nI (j)))]) hx hb dM_spread_84 rfl (by decide) rfl rfl ?_
                refine tg_iinc (v := nI (j + 1)) (L' := [(0, .ref (ad 11 0)), (1, .int (nI (1))), (2, .int (nI (i))), (3, .int (nI (j + 1)))]) hx hb dM_spread_85 rfl (nI_1 _) (by decide) rfl rfl ?_
                refine tg_goto (tgt := 28) hx hb dM_spread_88 (by decide) ?_
                obtain ⟨g1, g2⟩ := hA4.add (f := i) (g := j) (by omega) (by omega) h_53 h_61 h_64 h_57
                refine ihG (j + 1, 1, tg_up M4 19 i 1) ⟨by dsimp only; omega, g1, Or.inr ⟨rfl, ?_⟩⟩ (by dsimp only; omega)
                dsimp only
                rcases hI4 with ⟨z1, z2, z3, z4⟩ | z
                · rw [← z2]; exact g2
                · exact Nat.lt_trans z.2 g2
              · have q_63' := q_63
                rw [← nI_0] at q_63
                have h_65 : M4 19 j = 0 := (nI_eq (by omega) (by omega)).mp q_63
                refine tg_goto (tgt := 85) hx hb dM_spread_73 (by decide) ?_
                refine tg_iinc (v := nI (j + 1)) (L' := [(0, .ref (ad 11 0)), (1, .int (nI (mr4))), (2, .int (nI (i))), (3, .int (nI (j + 1)))]) hx hb dM_spread_85 rfl (nI_1 _) (by decide) rfl rfl ?_
                refine tg_goto (tgt := 28) hx hb dM_spread_88 (by decide) ?_
                refine ihG (j + 1, mr4, M4) ⟨by dsimp only; omega, hA4, ?_⟩ (by dsimp only; omega)
                dsimp only
                rcases hI4 with ⟨z1, z2, z3, z4⟩ | z
                · refine Or.inl ⟨z1, z2, z3, fun v qv q => ?_⟩
                  by_cases ev : v = j
                  · subst ev; exact q.2 h_65
                  · exact z4 v (by omega) q
                · exact Or.inr z
end MOU
