/-! a sweep begins: the living are listed, what was found before is forgotten -/
section HGS6
variable {l : Launch} {D : va_G} {F : Nat → Prop} {Nn : State → Heap → Prop} {ad : Nat → Nat → Nat} {ok : Nat → Nat → Prop} {cF cI cZ cJ cA cB : ClassId} {G : Nat → Nat} {a : Nat → Nat → Option Nat} {dr : Nat → Int32} {N : Nat → Nat → Nat} {bc : Nat → Int32} {sp : Nat → Nat → Int32} {μ : Nat → Nat → va_E} {T : Nat → Prop}
def hg_BG (T : Nat → Prop) (ad : Nat → Nat → Nat) (a0 : Nat → Nat → Option Nat) (G0 : Nat → Nat) (N0 : Nat → Nat → Nat) (c : Nat) (G : Nat → Nat) (a : Nat → Nat → Option Nat) (N : Nat → Nat → Nat) (lv : Nat → Nat) : Prop :=
  (c ≤ 400 ∧ G 1 ≤ c) ∧ (G 0 = G0 0 ∧ G 2 = 0 ∧ G 3 = 0 ∧ G 4 = 0 ∧ G 5 = 0) ∧ (∀ j, j ≠ 1 → a j = a0 j) ∧ (∀ j, j < 8 → N j = N0 j) ∧ (∀ j u, 8 ≤ j → j < 15 → j ≠ 12 → (u < c ∨ ¬ T u) → N j u = 0) ∧ (∀ j u, N j u < 1000000) ∧ (∀ k, G k < 1000000) ∧ (∀ i, i < G 1 → T (lv i) ∧ lv i < c ∧ a 1 i = some (ad 8 (lv i))) ∧ (∀ u, T u → u < c → ∃ i, i < G 1 ∧ lv i = u) ∧ ∀ i j, i < j → j < G 1 → lv i < lv j
theorem hg_fg_lo {N : Nat → Nat → Nat} {f j : Nat} (h : j < 8) : hg_fg N f j = N j := by
  funext u
  unfold hg_fg
  simp only [tg_up]
  repeat rw [if_neg (by omega)]
theorem hg_fg_hi {N : Nat → Nat → Nat} {f j : Nat} (h : 8 ≤ j) (h2 : j < 15) : hg_fg N f j f = 0 := by
  have hj : j = 8 ∨ j = 9 ∨ j = 10 ∨ j = 11 ∨ j = 12 ∨ j = 13 ∨ j = 14 := by omega
  rcases hj with z | z | z | z | z | z | z <;> subst z <;> simp [hg_fg, tg_up]
theorem hg_fg_ne {N : Nat → Nat → Nat} {f j u : Nat} (h : u ≠ f) : hg_fg N f j u = N j u := by
  unfold hg_fg
  simp [tg_up, h]
theorem hg_BG.skip {T : Nat → Prop} {ad : Nat → Nat → Nat} {a0 a : Nat → Nat → Option Nat} {G0 G : Nat → Nat} {N0 N : Nat → Nat → Nat} {c : Nat} {lv : Nat → Nat} (h : hg_BG T ad a0 G0 N0 c G a N lv) (hc : c < 400) (hn : ¬ T c) : hg_BG T ad a0 G0 N0 (c + 1) G a N lv := by
  obtain ⟨b1, b2, b3, b4, b5, b6, b7, b8, b9, b10⟩ := h
  refine ⟨⟨by omega, by omega⟩, b2, b3, b4, fun j u h1 h2 h9 h3 => b5 j u h1 h2 h9 ?_, b6, b7, fun i hi => ⟨(b8 i hi).1, Nat.lt_succ_of_lt (b8 i hi).2.1, (b8 i hi).2.2⟩, fun u hu hlt => b9 u hu ?_, b10⟩
  · rcases h3 with z | z
    · by_cases q : u = c
      · exact Or.inr (by rw [q]; exact hn)
      · exact Or.inl (by omega)
    · exact Or.inr z
  · by_cases q : u = c
    · rw [q] at hu
      exact absurd hu hn
    · omega
theorem hg_BG.add {T : Nat → Prop} {ad : Nat → Nat → Nat} {a0 a : Nat → Nat → Option Nat} {G0 G : Nat → Nat} {N0 N : Nat → Nat → Nat} {c f : Nat} {lv : Nat → Nat} (h : hg_BG T ad a0 G0 N0 c G a N lv) (hc : c < 400) (hf : T f) (hfc : f = c) : hg_BG T ad a0 G0 N0 (c + 1) (va_up G 1 (G 1 + 1)) (va_up a 1 (va_up (a 1) (G 1) (some (ad 8 f)))) (hg_fg N f) (va_up lv (G 1) f) := by
  obtain ⟨b1, b2, b3, b4, b5, b6, b7, b8, b9, b10⟩ := h
  have g1 : va_up G 1 (G 1 + 1) 1 = G 1 + 1 := va_up_self ..
  have go : ∀ k, k ≠ 1 → va_up G 1 (G 1 + 1) k = G k := fun k hk => va_up_ne _ _ hk
  unfold hg_BG
  rw [g1, go 0 (by decide), go 2 (by decide), go 3 (by decide), go 4 (by decide), go 5 (by decide), va_up_self]
  refine ⟨⟨by omega, by omega⟩, b2, fun j hj => by rw [va_up_ne _ _ hj]; exact b3 j hj, fun j hj => by rw [hg_fg_lo hj]; exact b4 j hj, fun j u h1 h2 h9 h3 => ?_, fun j u => ?_, fun k => ?_, fun i hi => ?_, fun u hu hlt => ?_, fun i j hij hj => ?_⟩
  · by_cases q : u = f
    · rw [q]
      exact hg_fg_hi h1 h2
    · rw [hg_fg_ne q]
      exact b5 j u h1 h2 h9 (h3.elim (fun z => Or.inl (by omega)) Or.inr)
  · by_cases q : u = f
    · by_cases q2 : j < 8
      · rw [hg_fg_lo q2]
        exact b6 j u
      · by_cases q3 : j < 15
        · rw [q, hg_fg_hi (by omega) q3]
          omega
        · have : hg_fg N f j u = N j u := by
            unfold hg_fg
            simp only [tg_up]
            repeat rw [if_neg (by omega)]
          rw [this]
          exact b6 j u
    · rw [hg_fg_ne q]
      exact b6 j u
  · unfold va_up
    split
    · omega
    · exact b7 k
  · by_cases q : i = G 1
    · rw [q, va_up_self, va_up_self]
      exact ⟨hf, by omega, rfl⟩
    · rw [va_up_ne _ _ q, va_up_ne _ _ q]
      obtain ⟨c1, c2, c3⟩ := b8 i (by omega)
      exact ⟨c1, by omega, c3⟩
  · by_cases q : u = c
    · exact ⟨G 1, by omega, by rw [va_up_self, q]; exact hfc⟩
    · obtain ⟨i, h1, h2⟩ := b9 u hu (by omega)
      exact ⟨i, by omega, by rw [va_up_ne _ _ (by omega)]; exact h2⟩
  · by_cases q : j = G 1
    · rw [q, va_up_self, va_up_ne _ _ (by omega)]
      have := (b8 i (by omega)).2.1
      omega
    · rw [va_up_ne _ _ (by omega), va_up_ne _ _ q]
      exact b10 i j hij (by omega)
set_option maxRecDepth 100000 in
set_option maxHeartbeats 4000000 in
/-- a sweep begins -/
theorem c_begin (hO : hg_ok ok) (hT : ∀ f, T f → ok 8 f ∧ ok 9 f) (hMv : tg_Mv F Nn) (hB : ∀ j u, N j u < 1000000) (hBG : ∀ k, G k < 1000000) (hov : ∀ c, c < 400 → a 0 c = none ∨ ∃ f, T f ∧ a 0 c = some (ad 8 f)) (hself : ∀ f, T f → f < 400 ∧ a 0 f = some (ad 8 f) ∧ N 0 f = f) (hz : ∀ u, ¬ T u → ∀ j, 8 ≤ j → j < 15 → j ≠ 12 → N j u = 0) : tg_Met l yS_begin wsS_begin ({ frames := 1, cells := 0, slots := 0, locals := 40 }) D vwCl (hg_tys cI cF cZ cJ cA cB) F Nn ad ok (hg_w ad cF cI G a dr N bc sp μ) [.ref (ad 3 0), .ref (ad 1 0)] (tg_po ad ok fun r w1 => r = none ∧ ∃ G' a' N' lv, w1 = hg_w ad cF cI G' a' dr N' bc sp μ ∧ hg_BG T ad a G N 400 G' a' N' lv) := by
  refine tg_start (cc := cS_begin) (maxL := 4) (ret := none) (by decide) rfl (Nat.le_of_ble_eq_true rfl) ?_
  intro p e R s m args below meth c Q hx hb hml hr hlocks hown hname hts hK hN hR hQ
  have hown : s.vm.findClass "HangGraph$Sweep" = some m.cls := hown
  have hts : ∀ w ∈ lw_g, w.before args s = true := fun w z => hts w (List.mem_cons_of_mem _ z)
  refine tg_inj fun hinj => ?_
  refine tg_aload_n hx hb dS_begin_0 rfl rfl ?_
  refine tg_iconst (v := nI 0) hx hb dS_begin_1 (by decide +kernel) ?_
  refine tg_put (T := TS) (N := 9) (ty := .int) hx hb hts inS tyS tyS_ok nmS hown hK (hO.1 3 (by decide)) rfl rfl 1 (by decide) (hts _ wf_S_26) (fun _ z => z) rfl (by decide +kernel) rfl rfl (Nat.le_of_ble_eq_true rfl) dS_begin_2 ?_
  refine tg_wp (hg_w_G1 hO 0) ?_
  refine tg_aload_n hx hb dS_begin_5 rfl rfl ?_
  refine tg_iconst (v := nI 0) hx hb dS_begin_6 (by decide +kernel) ?_
  refine tg_put (T := TS) (N := 9) (ty := .int) hx hb hts inS tyS tyS_ok nmS hown hK (hO.1 3 (by decide)) rfl rfl 3 (by decide) (hts _ wf_S_30) (fun _ z => z) rfl (by decide +kernel) rfl rfl (Nat.le_of_ble_eq_true rfl) dS_begin_7 ?_
  refine tg_wp (hg_w_G2 hO 0) ?_
  refine tg_aload_n hx hb dS_begin_10 rfl rfl ?_
  refine tg_iconst (v := nI 0) hx hb dS_begin_11 (by decide +kernel) ?_
  refine tg_put (T := TS) (N := 9) (ty := .int) hx hb hts inS tyS tyS_ok nmS hown hK (hO.1 3 (by decide)) rfl rfl 5 (by decide) (hts _ wf_S_33) (fun _ z => z) rfl (by decide +kernel) rfl rfl (Nat.le_of_ble_eq_true rfl) dS_begin_12 ?_
  refine tg_wp (hg_w_G3 hO 0) ?_
  refine tg_aload_n hx hb dS_begin_15 rfl rfl ?_
  refine tg_iconst (v := nI 0) hx hb dS_begin_16 (by decide +kernel) ?_
  refine tg_put (T := TS) (N := 9) (ty := .int) hx hb hts inS tyS tyS_ok nmS hown hK (hO.1 3 (by decide)) rfl rfl 7 (by decide) (hts _ wf_S_36) (fun _ z => z) rfl (by decide +kernel) rfl rfl (Nat.le_of_ble_eq_true rfl) dS_begin_17 ?_
  refine tg_wp (hg_w_G4 hO 0) ?_
  refine tg_aload_n hx hb dS_begin_20 rfl rfl ?_
  refine tg_iconst (v := nI 0) hx hb dS_begin_21 (by decide +kernel) ?_
  refine tg_put (T := TS) (N := 9) (ty := .int) hx hb hts inS tyS tyS_ok nmS hown hK (hO.1 3 (by decide)) rfl rfl 8 (by decide) (hts _ wf_S_39) (fun _ z => z) rfl (by decide +kernel) rfl rfl (Nat.le_of_ble_eq_true rfl) dS_begin_22 ?_
  refine tg_wp (hg_w_G5 hO 0) ?_
  refine tg_iconst (v := nI 0) hx hb dS_begin_25 (by decide +kernel) ?_
  refine tg_istore_n (L' := [(0, .ref (ad 3 0)), (1, .ref (ad 1 0)), (2, .int (nI (0)))]) hx hb dS_begin_26 rfl (by decide) rfl rfl ?_
  have hB0 : hg_BG T ad a G N 0 (va_up (va_up (va_up (va_up (va_up G 1 0) 2 0) 3 0) 4 0) 5 0) a N (fun _ => 0) := ⟨⟨Nat.zero_le _, by simp [va_up]⟩, ⟨by simp [va_up], by simp [va_up], by simp [va_up], by simp [va_up], by simp [va_up]⟩, fun _ _ => rfl, fun _ _ => rfl, fun j u h1 h2 h9 h3 => h3.elim (fun z => absurd z (Nat.not_lt_zero _)) (fun z => hz u z j h1 h2 h9), hB, fun k => by unfold va_up; (repeat' split) <;> first | omega | exact hBG k, fun i hi => by simp [va_up] at hi, fun u _ z => absurd z (Nat.not_lt_zero _), fun i j _ hj => by simp [va_up] at hj⟩
  refine tg_loop (fun x : Nat × (Nat → Nat) × (Nat → Nat → Option Nat) × (Nat → Nat → Nat) × (Nat → Nat) => hg_BG T ad a G N x.1 x.2.1 x.2.2.1 x.2.2.2.1 x.2.2.2.2) (fun x => 400 - x.1) (fun x => tg_W p l e R s m args below meth c Q 4 D vwCl F ad ok (hg_w ad cF cI x.2.1 x.2.2.1 dr x.2.2.2.1 bc sp μ) [(0, .ref (ad 3 0)), (1, .ref (ad 1 0)), (2, .int (nI (x.1)))] 0 0 27 []) ?_ (0, (va_up (va_up (va_up (va_up (va_up G 1 0) 2 0) 3 0) 4 0) 5 0), a, N, fun _ => 0) hB0
  intro ⟨i, G1, a1, N1, lv⟩ hI ih
  dsimp only at hI ih ⊢
  have hI' := hI
  obtain ⟨b1, b2, b3, b4, b5, b6, b7, b8, b9, b10⟩ := hI'
  refine tg_iload_n hx hb dS_begin_27 rfl rfl ?_
  refine tg_sipush (v := nI 400) hx hb dS_begin_28 (by decide +kernel) ?_
  refine tg_icmp_ge (tgt := 80) hx hb dS_begin_31 (by decide) (fun q_1 => ?_) (fun q_1 => ?_)
  · have q_1' := q_1
    have h_2 : 400 ≤ i := (nI_leI (by omega) (by omega)).mp q_1
    have ei : i = 400 := by omega
    subst ei
    exact tg_vret hx hb hlocks hr hQ ⟨rfl, rfl, rfl, G1, a1, N1, lv, rfl, hI⟩ dS_begin_80
  · have q_1' := q_1
    have h_3 : i < 400 := Nat.lt_of_not_le fun z => q_1 ((nI_leI (by omega) (by omega)).mpr z)
    refine tg_aload_n hx hb dS_begin_34 rfl rfl ?_
    refine tg_iload_n hx hb dS_begin_35 rfl rfl ?_
    refine tg_aald (t0 := 1) hx hb hK (hO.1 1 (by decide)) rfl rfl (x := i) (by decide) (by omega) dS_begin_36 ?_
    have h0a := b3 0 (by decide)
    rcases hov i (by omega) with ho1 | ⟨f, hfT, ho1⟩
    · refine tg_st (st' := [.null]) (by rw [h0a, ho1]; rfl) ?_
      refine tg_astore_nN (L' := [(0, .ref (ad 3 0)), (1, .ref (ad 1 0)), (2, .int (nI (i))), (3, .null)]) hx hb dS_begin_37 rfl (by decide) rfl rfl ?_
      refine tg_aload_nN hx hb dS_begin_38 rfl rfl ?_
      refine tg_ifnullN (tgt := 74) hx hb dS_begin_39 (by decide) ?_
      refine tg_iinc (v := nI (i + 1)) (L' := [(0, .ref (ad 3 0)), (1, .ref (ad 1 0)), (2, .int (nI (i + 1))), (3, .null)]) hx hb dS_begin_74 rfl (nI_1 _) (by decide) rfl rfl ?_
      refine tg_goto (tgt := 27) hx hb dS_begin_77 (by decide) ?_
      refine tg_sub (L' := [(0, .ref (ad 3 0)), (1, .ref (ad 1 0)), (2, .int (nI (i + 1)))]) (fun q hq => (List.mem_append_left [(3, .null)] hq : q ∈ [(0, .ref (ad 3 0)), (1, .ref (ad 1 0)), (2, .int (nI (i + 1)))] ++ [(3, .null)])) ?_
      exact ih (i + 1, G1, a1, N1, lv) (hI.skip (by omega) (fun z => by have q := (hself i z).2.1; rw [ho1] at q; cases q)) (by dsimp only; omega)
    · refine tg_st (st' := [.ref (ad 8 f)]) (by rw [h0a, ho1]; rfl) ?_
      refine tg_astore_n (L' := [(0, .ref (ad 3 0)), (1, .ref (ad 1 0)), (2, .int (nI (i))), (3, .ref (ad 8 f))]) hx hb dS_begin_37 rfl (by decide) rfl rfl ?_
      refine tg_aload_n hx hb dS_begin_38 rfl rfl ?_
      refine tg_ifnull hx hb dS_begin_39 ?_
      refine tg_aload_n hx hb dS_begin_42 rfl rfl ?_
      refine tg_get (T := TF) (N := 15) hx hb hts inF hown hK (hT f hfT).1 rfl rfl 0 (by decide) (hts _ wf_S_42) (fun _ z => z) rfl dS_begin_43 ?_
      have hb_4 := b6 0 f
      refine tg_iload_n hx hb dS_begin_46 rfl rfl ?_
      refine tg_icmp_ne (tgt := 74) hx hb dS_begin_47 (by decide) (fun q_5 => ?_) (fun q_5 => ?_)
      · have q_5' := q_5
        have h_6 : N1 0 f ≠ i := fun z => q_5 ((nI_eq (by omega) (by omega)).mpr z)
        refine tg_iinc (v := nI (i + 1)) (L' := [(0, .ref (ad 3 0)), (1, .ref (ad 1 0)), (2, .int (nI (i + 1))), (3, .ref (ad 8 f))]) hx hb dS_begin_74 rfl (nI_1 _) (by decide) rfl rfl ?_
        refine tg_goto (tgt := 27) hx hb dS_begin_77 (by decide) ?_
        refine tg_sub (L' := [(0, .ref (ad 3 0)), (1, .ref (ad 1 0)), (2, .int (nI (i + 1)))]) (fun q hq => (List.mem_append_left [(3, .ref (ad 8 f))] hq : q ∈ [(0, .ref (ad 3 0)), (1, .ref (ad 1 0)), (2, .int (nI (i + 1)))] ++ [(3, .ref (ad 8 f))])) ?_
        exact ih (i + 1, G1, a1, N1, lv) (hI.skip (by omega) (fun z => by have q := (hself i z).2.1; rw [ho1] at q; have q2 := (hinj 8 _ 8 _ (hT _ hfT).1 (hT _ z).1 (Option.some.inj q)).2; have q3 := (hself f hfT).2.2; rw [← b4 0 (by decide)] at q3; omega)) (by dsimp only; omega)
      · have q_5' := q_5
        have h_7 : N1 0 f = i := (nI_eq (by omega) (by omega)).mp q_5
        refine tg_aload_n hx hb dS_begin_50 rfl rfl ?_
        have hfc : f = i := by have q3 := (hself f hfT).2.2; rw [← b4 0 (by decide)] at q3; omega
        refine tg_callV (C := "HangGraph$Formula") (As := []) (rest := []) ⟨hx, hb, hml, hown, hts⟩ hK hN hMv (hT f hfT).1 rfl rfl rfl (c_forget hO hT f hfT) (cwV 0 hts (lg_V wm_S_45 wi_F_forget we_F_forget wn_F wc_F_forget) rfl rfl rfl ⟨rfl, by decide, by decide, rfl⟩ ⟨by rw [hR]; exact Nat.le_of_ble_eq_true rfl, by rw [hR]; exact Nat.le_of_ble_eq_true rfl⟩) rfl (Nat.le_of_ble_eq_true rfl) ⟨by rw [hR]; exact Nat.le_of_ble_eq_true rfl, by rw [hR]; exact Nat.le_of_ble_eq_true rfl⟩ rfl dS_begin_51 (tg_kn rfl rfl ?_)
        refine tg_aload_n hx hb dS_begin_54 rfl rfl ?_
        refine tg_get (T := TS) (N := 9) hx hb hts inS hown hK (hO.1 3 (by decide)) rfl rfl 0 (by decide) (hts _ wf_S_11) (fun _ z => z) rfl dS_begin_55 ?_
        refine tg_aload_n hx hb dS_begin_58 rfl rfl ?_
        refine tg_get (T := TS) (N := 9) hx hb hts inS hown hK (hO.1 3 (by decide)) rfl rfl 1 (by decide) (hts _ wf_S_26) (fun _ z => z) rfl dS_begin_59 ?_
        have hb_8 := b7 1
        refine tg_aload_n hx hb dS_begin_62 rfl rfl ?_
        refine tg_aast (t0 := 1) hx hb hK (hO.1 4 (by decide)) rfl rfl (hT f hfT).1 rfl rfl (x := G1 1) (by decide) (by omega) dS_begin_63 ?_
        refine tg_wp (hg_w_a1 hO (G1 1) (some (ad 8 f))) ?_
        refine tg_aload_n hx hb dS_begin_64 rfl rfl ?_
        refine tg_dup hx hb dS_begin_65 rfl ?_
        refine tg_get (T := TS) (N := 9) hx hb hts inS hown hK (hO.1 3 (by decide)) rfl rfl 1 (by decide) (hts _ wf_S_26) (fun _ z => z) rfl dS_begin_66 ?_
        have hb_9 := b7 1
        refine tg_iconst (v := nI 1) hx hb dS_begin_69 (by decide +kernel) ?_
        refine tg_iadd hx hb dS_begin_70 ?_
        refine tg_top (y := nI ((G1 1) + (1))) (nI_add _ _) ?_
        refine tg_put (T := TS) (N := 9) (ty := .int) hx hb hts inS tyS tyS_ok nmS hown hK (hO.1 3 (by decide)) rfl rfl 1 (by decide) (hts _ wf_S_26) (fun _ z => z) rfl (by decide +kernel) rfl rfl (Nat.le_of_ble_eq_true rfl) dS_begin_71 ?_
        refine tg_wp (hg_w_G1 hO ((G1 1) + (1))) ?_
        refine tg_iinc (v := nI (i + 1)) (L' := [(0, .ref (ad 3 0)), (1, .ref (ad 1 0)), (2, .int (nI (i + 1))), (3, .ref (ad 8 f))]) hx hb dS_begin_74 rfl (nI_1 _) (by decide) rfl rfl ?_
        refine tg_goto (tgt := 27) hx hb dS_begin_77 (by decide) ?_
        refine tg_sub (L' := [(0, .ref (ad 3 0)), (1, .ref (ad 1 0)), (2, .int (nI (i + 1)))]) (fun q hq => (List.mem_append_left [(3, .ref (ad 8 f))] hq : q ∈ [(0, .ref (ad 3 0)), (1, .ref (ad 1 0)), (2, .int (nI (i + 1)))] ++ [(3, .ref (ad 8 f))])) ?_
        exact ih (i + 1, va_up G1 1 (G1 1 + 1), va_up a1 1 (va_up (a1 1) (G1 1) (some (ad 8 f))), hg_fg N1 f, va_up lv (G1 1) f) (hI.add (by omega) hfT hfc) (by dsimp only; omega)
end HGS6
