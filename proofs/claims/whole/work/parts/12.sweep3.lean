/-! the walk's steps -/
section HGS3
variable {l : Launch} {D : va_G} {F : Nat → Prop} {Nn : State → Heap → Prop} {ad : Nat → Nat → Nat} {ok : Nat → Nat → Prop} {cF cI cZ cJ cA cB : ClassId} {G : Nat → Nat} {a : Nat → Nat → Option Nat} {dr : Nat → Int32} {N : Nat → Nat → Nat} {bc : Nat → Int32} {sp : Nat → Nat → Int32} {μ : Nat → Nat → va_E} {T : Nat → Prop}
set_option maxRecDepth 100000 in
set_option maxHeartbeats 4000000 in
/-- the next one below v -/
theorem c_nextBelow (hO : hg_ok ok) (hT : ∀ f, T f → ok 8 f ∧ ok 9 f) (hMv : tg_Mv F Nn) (hB : ∀ j u, N j u < 1000000) (hBG : ∀ k, G k < 1000000) (hits pa op : Nat → Nat) (e9 : Nat → Nat → Prop) (hS : hg_SV T ad a G N bc sp e9 hits) (hD : hg_DV T ad a G N (N 13) e9 hits pa op) (h0 : 0 < G 3) (v : Nat) (hv : pa (G 3 - 1) = v) : tg_Met l yS_nextBelow wsS_nextBelow ({ frames := 1, cells := 0, slots := 0, locals := 40 }) D vwCl (hg_tys cI cF cZ cJ cA cB) F Nn ad ok (hg_w ad cF cI G a dr N bc sp μ) [.ref (ad 3 0), .ref (ad 8 v)] (tg_po ad ok fun r w1 => ∃ N', w1 = hg_w ad cF cI G a dr N' bc sp μ ∧ (∀ j, j ≠ 12 → j ≠ 13 → N' j = N j) ∧ (∀ j u, N' j u < 1000000) ∧ ((r = some .null ∧ hg_DV T ad a G N' (N' 13) e9 hits pa op ∧ G 2 ≤ N' 13 v) ∨ ∃ i, i < G 2 ∧ r = some (.ref (ad 8 (hits i))) ∧ N' 11 (hits i) = 0 ∧ e9 v (hits i) ∧ N' 13 = va_up (N 13) v (i + 1) ∧ hg_DV T ad a G N' (va_up (N 13) v i) e9 hits pa op)) := by
  refine tg_start (cc := cS_nextBelow) (maxL := 4) (ret := some (.object "HangGraph$Formula")) (by decide) rfl (Nat.le_of_ble_eq_true rfl) ?_
  intro p e R s m args below meth c Q hx hb hml hr hlocks hown hname hts hK hN hR hQ
  have hown : s.vm.findClass "HangGraph$Sweep" = some m.cls := hown
  have hts : ∀ w ∈ lw_g, w.before args s = true := fun w z => hts w (List.mem_cons_of_mem _ z)
  have hvT : T v := by rw [← hv]; exact (hD.1.2 _ (by omega)).1
  have hvh : ∃ iv, iv < G 2 ∧ hits iv = v := hg_T_17 hD.2.2.1 v (by rw [← hv]; exact (hD.2.2.1.2.2.2.2.2.1 _ (by omega)).1)
  have hG2 := hS.2.1
  have hG3 := hD.1.1
  have hG4 := hD.2.1.1
  refine tg_aload_n hx hb dS_nextBelow_0 rfl rfl ?_
  refine tg_get (T := TF) (N := 15) hx hb hts inF hown hK (hT v hvT).1 rfl rfl 13 (by decide) (hts _ wf_S_92) (fun _ z => z) rfl dS_nextBelow_1 ?_
  have hb_1 := hB 13 v
  refine tg_istore_n (L' := [(0, .ref (ad 3 0)), (1, .ref (ad 8 v)), (2, .int (nI (N 13 v)))]) hx hb dS_nextBelow_4 rfl (by decide) rfl rfl ?_
  have hst : va_up (N 13) v (N 13 v) = N 13 := by funext z; unfold va_up; by_cases q : z = v <;> simp [q]
  refine tg_loop (fun x : Nat × (Nat → Nat → Nat) => x.1 ≤ G 2 ∧ (∀ j, j ≠ 12 → x.2 j = N j) ∧ (∀ j u, x.2 j u < 1000000) ∧ hg_DV T ad a G x.2 (va_up (N 13) v x.1) e9 hits pa op) (fun x => G 2 - x.1) (fun x => tg_W p l e R s m args below meth c Q 4 D vwCl F ad ok (hg_w ad cF cI G a dr x.2 bc sp μ) [(0, .ref (ad 3 0)), (1, .ref (ad 8 v)), (2, .int (nI (x.1)))] 0 0 5 []) ?_ (N 13 v, N) ⟨hD.2.2.2.2.2.2 v, fun _ _ => rfl, hB, by dsimp only; rw [hst]; exact hD⟩
  intro ⟨i, N1⟩ ⟨hi0, hN1, hB1, hD1⟩ ih
  dsimp only at hi0 hN1 hB1 hD1 ih ⊢
  have hNN : ∀ u, T u → N1 1 u ≤ N1 3 u ∧ N1 3 u < 20 := by rw [hN1 1 (by decide), hN1 3 (by decide)]; exact hS.1
  refine tg_iload_n hx hb dS_nextBelow_5 rfl rfl ?_
  refine tg_aload_n hx hb dS_nextBelow_6 rfl rfl ?_
  refine tg_get (T := TS) (N := 9) hx hb hts inS hown hK (hO.1 3 (by decide)) rfl rfl 3 (by decide) (hts _ wf_S_30) (fun _ z => z) rfl dS_nextBelow_7 ?_
  have hb_2 := hBG 2
  refine tg_icmp_ge (tgt := 75) hx hb dS_nextBelow_10 (by decide) (fun q_3 => ?_) (fun q_3 => ?_)
  · have q_3' := q_3
    have h_4 : G 2 ≤ i := (nI_leI (by omega) (by omega)).mp q_3
    refine tg_aload_n hx hb dS_nextBelow_75 rfl rfl ?_
    refine tg_aload_n hx hb dS_nextBelow_76 rfl rfl ?_
    refine tg_get (T := TS) (N := 9) hx hb hts inS hown hK (hO.1 3 (by decide)) rfl rfl 3 (by decide) (hts _ wf_S_30) (fun _ z => z) rfl dS_nextBelow_77 ?_
    have hb_5 := hBG 2
    refine tg_put (T := TF) (N := 15) (ty := .int) hx hb hts inF tyF tyF_ok nmF hown hK (hT v hvT).1 rfl rfl 13 (by decide) (hts _ wf_S_92) (fun _ z => z) rfl (by decide +kernel) rfl rfl (Nat.le_of_ble_eq_true rfl) dS_nextBelow_80 ?_
    refine tg_w (hg_w_N13 v (G 2)) ?_
    refine tg_null hx hb dS_nextBelow_83 ?_
    have ei : i = G 2 := by omega
    subst ei
    exact tg_aret hx hb hlocks hr hQ (Or.inl rfl) ⟨rfl, rfl, tg_up N1 13 v (G 2), rfl, fun j h1 h2 => by rw [hg_oth _ _ _ h2]; exact hN1 j h1, fun j u => by unfold tg_up; split; exact hBG 2; exact hB1 j u, Or.inl ⟨rfl, by rw [hg_col, hN1 13 (by decide)]; exact hD1.col13, by rw [hg_col, va_up_self]; exact Nat.le_refl _⟩⟩ dS_nextBelow_84
  · have q_3' := q_3
    have h_6 : i < G 2 := Nat.lt_of_not_le fun z => q_3 ((nI_leI (by omega) (by omega)).mpr z)
    have hi := hS.2.2.1 i (by omega)
    obtain ⟨iv, hiv1, hiv2⟩ := hvh
    have he9 : e9 v (hits i) ↔ hg_hk N1 bc sp v (hits i) := by rw [← hiv2]; exact (hS.2.2.2.2.1 iv i hiv1 (by omega)).trans (hg_hk_eq (hN1 1 (by decide)) (hN1 3 (by decide))).symm
    refine tg_aload_n hx hb dS_nextBelow_13 rfl rfl ?_
    refine tg_get (T := TS) (N := 9) hx hb hts inS hown hK (hO.1 3 (by decide)) rfl rfl 2 (by decide) (hts _ wf_S_17) (fun _ z => z) rfl dS_nextBelow_14 ?_
    refine tg_iload_n hx hb dS_nextBelow_17 rfl rfl ?_
    refine tg_aald (t0 := 1) hx hb hK (hO.1 5 (by decide)) rfl rfl (x := i) (by decide) (by omega) dS_nextBelow_18 ?_
    refine tg_st (st' := .ref (ad 8 (hits i)) :: []) (by rw [hi.2]; rfl) ?_
    refine tg_astore_n (L' := [(0, .ref (ad 3 0)), (1, .ref (ad 8 v)), (2, .int (nI (i))), (3, .ref (ad 8 (hits i)))]) hx hb dS_nextBelow_19 rfl (by decide) rfl rfl ?_
    refine tg_aload_n hx hb dS_nextBelow_20 rfl rfl ?_
    refine tg_get (T := TF) (N := 15) hx hb hts inF hown hK (hT (hits i) hi.1).1 rfl rfl 14 (by decide) (hts _ wf_S_70) (fun _ z => z) rfl dS_nextBelow_21 ?_
    have hb_7 := hB1 14 (hits i)
    refine tg_if_ne (tgt := 69) hx hb dS_nextBelow_24 (by decide) (fun q_8 => ?_) (fun q_8 => ?_)
    · have q_8' := q_8
      rw [← nI_0] at q_8
      have h_9 : N1 14 (hits i) ≠ 0 := fun z => q_8 ((nI_eq (by omega) (by omega)).mpr z)
      refine tg_iinc (v := nI (i + 1)) (L' := [(0, .ref (ad 3 0)), (1, .ref (ad 8 v)), (2, .int (nI (i + 1))), (3, .ref (ad 8 (hits i)))]) hx hb dS_nextBelow_69 rfl (nI_1 _) (by decide) rfl rfl ?_
      refine tg_goto (tgt := 5) hx hb dS_nextBelow_72 (by decide) ?_
      refine tg_sub (L' := [(0, .ref (ad 3 0)), (1, .ref (ad 8 v)), (2, .int (nI (i + 1)))]) (fun q hq => (List.mem_append_left [(3, .ref (ad 8 (hits i)))] hq : q ∈ [(0, .ref (ad 3 0)), (1, .ref (ad 8 v)), (2, .int (nI (i + 1)))] ++ [(3, .ref (ad 8 (hits i)))])) ?_
      exact ih (i + 1, N1) ⟨by dsimp only; omega, hN1, hB1, hD1.skip h0 hv (by omega) (fun _ => h_9)⟩ (by dsimp only; omega)
    · have q_8' := q_8
      rw [← nI_0] at q_8
      have h_10 : N1 14 (hits i) = 0 := (nI_eq (by omega) (by omega)).mp q_8
      refine tg_aload_n hx hb dS_nextBelow_27 rfl rfl ?_
      refine tg_aload_n hx hb dS_nextBelow_28 rfl rfl ?_
      refine tg_callV (C := "HangGraph$Formula") (As := [.ref (ad 8 (hits i))]) (rest := []) ⟨hx, hb, hml, hown, hts⟩ hK hN hMv (hT v hvT).1 rfl rfl rfl (c_hangsOn hO hT v (hits i) hvT hi.1 (hNN _ hi.1).1 (hNN _ hi.1).2) (cwV 1 hts (lg_V wm_S_66 wi_F_hangsOn we_F_hangsOn wn_F wc_F_hangsOn) rfl rfl rfl ⟨rfl, by decide, by decide, rfl⟩ ⟨by rw [hR]; exact Nat.le_of_ble_eq_true rfl, by rw [hR]; exact Nat.le_of_ble_eq_true rfl⟩) rfl (Nat.le_of_ble_eq_true rfl) ⟨by rw [hR]; exact Nat.le_of_ble_eq_true rfl, by rw [hR]; exact Nat.le_of_ble_eq_true rfl⟩ rfl dS_nextBelow_29 (tg_kv rfl rfl ?_)
      have hb9 := hg_b_le (hg_hk N1 bc sp v (hits i))
      refine tg_if_ne (tgt := 38) hx hb dS_nextBelow_32 (by decide) (fun q_11 => ?_) (fun q_11 => ?_)
      · have q_11' := q_11
        rw [← nI_0] at q_11
        have h_12 : hg_b (hg_hk N1 bc sp v (hits i)) ≠ 0 := fun z => q_11 ((nI_eq (by omega) (by omega)).mpr z)
        refine tg_aload_n hx hb dS_nextBelow_38 rfl rfl ?_
        refine tg_get (T := TF) (N := 15) hx hb hts inF hown hK (hT (hits i) hi.1).1 rfl rfl 11 (by decide) (hts _ wf_S_86) (fun _ z => z) rfl dS_nextBelow_39 ?_
        have hb_13 := hB1 11 (hits i)
        refine tg_if_ne (tgt := 54) hx hb dS_nextBelow_42 (by decide) (fun q_14 => ?_) (fun q_14 => ?_)
        · have q_14' := q_14
          rw [← nI_0] at q_14
          have h_15 : N1 11 (hits i) ≠ 0 := fun z => q_14 ((nI_eq (by omega) (by omega)).mpr z)
          refine tg_aload_n hx hb dS_nextBelow_54 rfl rfl ?_
          refine tg_aload_n hx hb dS_nextBelow_55 rfl rfl ?_
          refine tg_get (T := TF) (N := 15) hx hb hts inF hown hK (hT v hvT).1 rfl rfl 12 (by decide) (hts _ wf_S_89) (fun _ z => z) rfl dS_nextBelow_56 ?_
          have hb_16 := hB1 12 v
          refine tg_aload_n hx hb dS_nextBelow_59 rfl rfl ?_
          refine tg_get (T := TF) (N := 15) hx hb hts inF hown hK (hT (hits i) hi.1).1 rfl rfl 11 (by decide) (hts _ wf_S_86) (fun _ z => z) rfl dS_nextBelow_60 ?_
          have hb_17 := hB1 11 (hits i)
          refine tg_mmin hx hb hml hown (hts _ wm_S_95) (hts _ wt_java_lang_Math_min) (hts _ wn_java_lang_Math) (hts _ wc_java_lang_Math_min) (by rw [hR]; exact Nat.le_of_ble_eq_true rfl) (by rw [hR]; exact Nat.le_of_ble_eq_true rfl) (Nat.zero_le _) (Nat.zero_le _) dS_nextBelow_63 ?_
          refine tg_top (y := nI (Nat.min (N1 12 v) (N1 11 (hits i)))) (hg_imin (by omega) (by omega)) ?_
          refine tg_put (T := TF) (N := 15) (ty := .int) hx hb hts inF tyF tyF_ok nmF hown hK (hT v hvT).1 rfl rfl 12 (by decide) (hts _ wf_S_89) (fun _ z => z) rfl (by decide +kernel) rfl rfl (Nat.le_of_ble_eq_true rfl) dS_nextBelow_66 ?_
          refine tg_w (hg_w_N12 v (Nat.min (N1 12 v) (N1 11 (hits i)))) ?_
          refine tg_iinc (v := nI (i + 1)) (L' := [(0, .ref (ad 3 0)), (1, .ref (ad 8 v)), (2, .int (nI (i + 1))), (3, .ref (ad 8 (hits i)))]) hx hb dS_nextBelow_69 rfl (nI_1 _) (by decide) rfl rfl ?_
          refine tg_goto (tgt := 5) hx hb dS_nextBelow_72 (by decide) ?_
          refine tg_sub (L' := [(0, .ref (ad 3 0)), (1, .ref (ad 8 v)), (2, .int (nI (i + 1)))]) (fun q hq => (List.mem_append_left [(3, .ref (ad 8 (hits i)))] hq : q ∈ [(0, .ref (ad 3 0)), (1, .ref (ad 8 v)), (2, .int (nI (i + 1)))] ++ [(3, .ref (ad 8 (hits i)))])) ?_
          exact ih (i + 1, (tg_up N1 12 v (Nat.min (N1 12 v) (N1 11 (hits i))))) ⟨by dsimp only; omega, (fun j hj => by dsimp only; rw [hg_oth _ _ _ hj]; exact hN1 j hj), (fun j u => by dsimp only; unfold tg_up; split; exact Nat.lt_of_le_of_lt (Nat.min_le_left _ _) (hB1 _ _); exact hB1 j u), hD1.lower h0 hv (by omega) (he9.mpr (hg_b1 h_12)) h_15 (by omega)⟩ (by dsimp only; omega)
        · have q_14' := q_14
          rw [← nI_0] at q_14
          have h_18 : N1 11 (hits i) = 0 := (nI_eq (by omega) (by omega)).mp q_14
          refine tg_aload_n hx hb dS_nextBelow_45 rfl rfl ?_
          refine tg_iload_n hx hb dS_nextBelow_46 rfl rfl ?_
          refine tg_iconst (v := nI 1) hx hb dS_nextBelow_47 (by decide +kernel) ?_
          refine tg_iadd hx hb dS_nextBelow_48 ?_
          refine tg_top (y := nI ((i) + (1))) (nI_add _ _) ?_
          refine tg_put (T := TF) (N := 15) (ty := .int) hx hb hts inF tyF tyF_ok nmF hown hK (hT v hvT).1 rfl rfl 13 (by decide) (hts _ wf_S_92) (fun _ z => z) rfl (by decide +kernel) rfl rfl (Nat.le_of_ble_eq_true rfl) dS_nextBelow_49 ?_
          refine tg_w (hg_w_N13 v ((i) + (1))) ?_
          refine tg_aload_n hx hb dS_nextBelow_52 rfl rfl ?_
          exact tg_aret hx hb hlocks hr hQ (Or.inr ⟨_, rfl⟩) ⟨rfl, rfl, tg_up N1 13 v (i + 1), rfl, fun j h1 h2 => by rw [hg_oth _ _ _ h2]; exact hN1 j h1, fun j u => by unfold tg_up; split; omega; exact hB1 j u, Or.inr ⟨i, by omega, rfl, by rw [hg_oth _ _ _ (by decide)]; exact h_18, he9.mpr (hg_b1 h_12), by rw [hg_col, hN1 13 (by decide)], hD1.col13⟩⟩ dS_nextBelow_53
      · have q_11' := q_11
        rw [← nI_0] at q_11
        have h_19 : hg_b (hg_hk N1 bc sp v (hits i)) = 0 := (nI_eq (by omega) (by omega)).mp q_11
        refine tg_goto (tgt := 69) hx hb dS_nextBelow_35 (by decide) ?_
        refine tg_iinc (v := nI (i + 1)) (L' := [(0, .ref (ad 3 0)), (1, .ref (ad 8 v)), (2, .int (nI (i + 1))), (3, .ref (ad 8 (hits i)))]) hx hb dS_nextBelow_69 rfl (nI_1 _) (by decide) rfl rfl ?_
        refine tg_goto (tgt := 5) hx hb dS_nextBelow_72 (by decide) ?_
        refine tg_sub (L' := [(0, .ref (ad 3 0)), (1, .ref (ad 8 v)), (2, .int (nI (i + 1)))]) (fun q hq => (List.mem_append_left [(3, .ref (ad 8 (hits i)))] hq : q ∈ [(0, .ref (ad 3 0)), (1, .ref (ad 8 v)), (2, .int (nI (i + 1)))] ++ [(3, .ref (ad 8 (hits i)))])) ?_
        exact ih (i + 1, N1) ⟨by dsimp only; omega, hN1, hB1, hD1.skip h0 hv (by omega) (fun z => absurd (he9.mp z) (hg_b0 h_19))⟩ (by dsimp only; omega)
set_option maxRecDepth 100000 in
set_option maxHeartbeats 4000000 in
/-- the group of v is closed -/
theorem c_closeGroup (hO : hg_ok ok) (hT : ∀ f, T f → ok 8 f ∧ ok 9 f) (hMv : tg_Mv F Nn) (hB : ∀ j u, N j u < 1000000) (hBG : ∀ k, G k < 1000000) (hits pa op : Nat → Nat) (e9 : Nat → Nat → Prop) (hS : hg_SV T ad a G N bc sp e9 hits) (hD : hg_DV T ad a G N (N 13) e9 hits pa op) (h0 : 0 < G 3) (v : Nat) (hv : pa (G 3 - 1) = v) (hlk : G 2 ≤ N 13 v) (heq : N 12 v = N 11 v) : tg_Met l yS_closeGroup wsS_closeGroup ({ frames := 2, cells := 0, slots := 0, locals := 90 }) D vwCl (hg_tys cI cF cZ cJ cA cB) F Nn ad ok (hg_w ad cF cI (va_up G 3 (G 3 - 1)) a dr N bc sp μ) [.ref (ad 3 0), .ref (ad 8 v)] (tg_po ad ok fun r w1 => r = none ∧ ∃ G' N', w1 = hg_w ad cF cI G' a dr N' bc sp μ ∧ (∀ j, j ≠ 9 → j ≠ 10 → j ≠ 12 → j ≠ 14 → N' j = N j) ∧ G' 0 = G 0 ∧ G' 1 = G 1 ∧ G' 2 = G 2 ∧ G' 3 = G 3 - 1 ∧ G' 5 = G 5 ∧ (∀ j u, N' j u < 1000000) ∧ (∀ k, G' k < 1000000) ∧ (∀ u, N 14 u ≠ 0 → N' 14 u ≠ 0) ∧ hg_DV T ad a G' N' (N' 13) e9 hits pa op) := by
  refine tg_start (cc := cS_closeGroup) (maxL := 3) (ret := none) (by decide) rfl (Nat.le_of_ble_eq_true rfl) ?_
  intro p e R s m args below meth c Q hx hb hml hr hlocks hown hname hts hK hN hR hQ
  have hown : s.vm.findClass "HangGraph$Sweep" = some m.cls := hown
  have hts : ∀ w ∈ lw_g, w.before args s = true := fun w z => hts w (List.mem_cons_of_mem _ z)
  have hvT : T v := by rw [← hv]; exact (hD.1.2 _ (by omega)).1
  have hvh : ∃ iv, iv < G 2 ∧ hits iv = v := hg_T_17 hD.2.2.1 v (by rw [← hv]; exact (hD.2.2.1.2.2.2.2.2.1 _ (by omega)).1)
  have hG2 := hS.2.1
  have hG3 := hD.1.1
  have hG4 := hD.2.1.1
  have hNN := hS.1
  have hgk : 0 < G 4 := by obtain ⟨k, h1, -⟩ := (hD.group h0 hv).2; omega
  refine tg_inj fun hinj => ?_
  have he9 : e9 v v ↔ hg_hk N bc sp v v := by obtain ⟨iv, h1, h2⟩ := hvh; rw [← h2]; exact hS.2.2.2.2.1 iv iv h1 h1
  refine tg_aload_n hx hb dS_closeGroup_0 rfl rfl ?_
  refine tg_get (T := TS) (N := 9) hx hb hts inS hown hK (hO.1 3 (by decide)) rfl rfl 7 (by decide) (hts _ wf_S_36) (fun _ z => z) rfl dS_closeGroup_1 ?_
  refine tg_top (y := nI (G 4)) (by simp [va_up]) ?_
  have hb_1 := hBG 4
  refine tg_if_le (tgt := 26) hx hb dS_closeGroup_4 (by decide) (fun q_2 => ?_) (fun q_2 => ?_)
  · have q_2' := q_2
    rw [← nI_0] at q_2
    have h_3 : G 4 ≤ 0 := (nI_leI (by omega) (by omega)).mp q_2
    exact absurd hgk (by omega)
  · have q_2' := q_2
    rw [← nI_0] at q_2
    have h_4 : 0 < G 4 := Nat.lt_of_not_le fun z => q_2 ((nI_leI (by omega) (by omega)).mpr z)
    have hoT := hD.2.1.2 (G 4 - 1) (by omega)
    refine tg_aload_n hx hb dS_closeGroup_7 rfl rfl ?_
    refine tg_get (T := TS) (N := 9) hx hb hts inS hown hK (hO.1 3 (by decide)) rfl rfl 6 (by decide) (hts _ wf_S_23) (fun _ z => z) rfl dS_closeGroup_8 ?_
    refine tg_aload_n hx hb dS_closeGroup_11 rfl rfl ?_
    refine tg_get (T := TS) (N := 9) hx hb hts inS hown hK (hO.1 3 (by decide)) rfl rfl 7 (by decide) (hts _ wf_S_36) (fun _ z => z) rfl dS_closeGroup_12 ?_
    refine tg_top (y := nI (G 4)) (by simp [va_up]) ?_
    have hb_5 := hBG 4
    refine tg_iconst (v := nI 1) hx hb dS_closeGroup_15 (by decide +kernel) ?_
    refine tg_isub hx hb dS_closeGroup_16 ?_
    refine tg_top (y := nI ((G 4) - (1))) (pk_sub (by omega)) ?_
    refine tg_aald (t0 := 1) hx hb hK (hO.1 7 (by decide)) rfl rfl (x := (G 4) - (1)) (by decide) (by omega) dS_closeGroup_17 ?_
    refine tg_st (st' := .ref (ad 8 (op (G 4 - 1))) :: []) (by rw [hoT.2]; rfl) ?_
    refine tg_aload_n hx hb dS_closeGroup_18 rfl rfl ?_
    refine tg_acmp_ne (rx := some (ad 8 (op (G 4 - 1)))) (ry := some (ad 8 (v))) (tgt := 26) hx hb dS_closeGroup_19 (by decide) (fun q_6 => ?_) (fun q_6 => ?_)
    · have q_6' := q_6
      have hnv : op (G 4 - 1) ≠ v := fun z => q_6 (by rw [z])
      refine tg_iconst (v := nI 0) hx hb dS_closeGroup_26 (by decide +kernel) ?_
      refine tg_istore_n (L' := [(0, .ref (ad 3 0)), (1, .ref (ad 8 v)), (2, .int (nI (0)))]) hx hb dS_closeGroup_27 rfl (by decide) rfl rfl ?_
      refine tg_iload_n hx hb dS_closeGroup_28 rfl rfl ?_
      refine tg_if_eq (tgt := 67) hx hb dS_closeGroup_29 (by decide) (fun q_7 => ?_) (fun q_7 => ?_)
      · have q_7' := q_7
        rw [← nI_0] at q_7
        have h_8 : 0 = 0 := (nI_eq (by omega) (by omega)).mp q_7
        have hbig : e9 v v ∨ op (G 4 - 1) ≠ v := Or.inr hnv
        refine tg_w (show (hg_w ad cF cI (va_up G 3 (G 3 - 1)) a dr N bc sp μ) = hg_w ad cF cI (va_up (va_up G 3 (G 3 - 1)) 4 (G 4)) a dr (hg_cl N op (G 4) (G 4)) bc sp μ from by rw [hg_cl_0, hg_up_same (show G 4 = va_up G 3 (G 3 - 1) 4 from (va_up_ne _ _ (by decide)).symm)]) ?_
        refine tg_loop (fun c9 : Nat => c9 ≤ G 4 ∧ ∀ k, c9 ≤ k → k < G 4 → N 11 v ≤ N 11 (op k)) (fun c9 => c9) (fun c9 => tg_W p l e R s m args below meth c Q 3 D vwCl F ad ok (hg_w ad cF cI (va_up (va_up G 3 (G 3 - 1)) 4 c9) a dr (hg_cl N op c9 (G 4)) bc sp μ) [(0, .ref (ad 3 0)), (1, .ref (ad 8 v)), (2, .int (nI (0)))] 0 0 67 []) ?_ (G 4) ⟨Nat.le_refl _, fun k h1 h2 => by omega⟩
        intro c9 ⟨hc9, hhi⟩ ih
        refine tg_aload_n hx hb dS_closeGroup_67 rfl rfl ?_
        refine tg_get (T := TS) (N := 9) hx hb hts inS hown hK (hO.1 3 (by decide)) rfl rfl 7 (by decide) (hts _ wf_S_36) (fun _ z => z) rfl dS_closeGroup_68 ?_
        refine tg_top (y := nI (c9)) (by simp [va_up]) ?_
        refine tg_if_le (tgt := 134) hx hb dS_closeGroup_71 (by decide) (fun q_9 => ?_) (fun q_9 => ?_)
        · have q_9' := q_9
          rw [← nI_0] at q_9
          have h_10 : c9 ≤ 0 := (nI_leI (by omega) (by omega)).mp q_9
          have hfin := hD.round (c := c9) hS h0 hv hlk heq hc9 hhi (Or.inl (by omega)) hbig
          exact tg_vret hx hb hlocks hr hQ ⟨rfl, rfl, rfl, _, _, rfl, fun j h1 _ _ h4 => funext fun u => hg_cl_f (fun q => q.1.elim h1 h4), rfl, rfl, rfl, rfl, rfl, fun j u => by unfold hg_cl; split; omega; exact hB j u, fun k => by unfold va_up; (repeat' split) <;> first | omega | exact hBG k, fun u z => by unfold hg_cl; split; omega; exact z, by rw [show hg_cl N op c9 (G 4) 13 = N 13 from funext fun u => hg_cl_f (fun q => q.1.elim (by decide) (by decide))]; exact hfin⟩ dS_closeGroup_134
        · have q_9' := q_9
          rw [← nI_0] at q_9
          have h_11 : 0 < c9 := Nat.lt_of_not_le fun z => q_9 ((nI_leI (by omega) (by omega)).mpr z)
          have hocT := hD.2.1.2 (c9 - 1) (by omega)
          refine tg_aload_n hx hb dS_closeGroup_74 rfl rfl ?_
          refine tg_get (T := TS) (N := 9) hx hb hts inS hown hK (hO.1 3 (by decide)) rfl rfl 6 (by decide) (hts _ wf_S_23) (fun _ z => z) rfl dS_closeGroup_75 ?_
          refine tg_aload_n hx hb dS_closeGroup_78 rfl rfl ?_
          refine tg_get (T := TS) (N := 9) hx hb hts inS hown hK (hO.1 3 (by decide)) rfl rfl 7 (by decide) (hts _ wf_S_36) (fun _ z => z) rfl dS_closeGroup_79 ?_
          refine tg_top (y := nI (c9)) (by simp [va_up]) ?_
          refine tg_iconst (v := nI 1) hx hb dS_closeGroup_82 (by decide +kernel) ?_
          refine tg_isub hx hb dS_closeGroup_83 ?_
          refine tg_top (y := nI ((c9) - (1))) (pk_sub (by omega)) ?_
          refine tg_aald (t0 := 1) hx hb hK (hO.1 7 (by decide)) rfl rfl (x := (c9) - (1)) (by decide) (by omega) dS_closeGroup_84 ?_
          refine tg_st (st' := .ref (ad 8 (op (c9 - 1))) :: []) (by rw [hocT.2]; rfl) ?_
          refine tg_get (T := TF) (N := 15) hx hb hts inF hown hK (hT (op (c9 - 1)) hocT.1).1 rfl rfl 11 (by decide) (hts _ wf_S_86) (fun _ z => z) rfl dS_closeGroup_85 ?_
          refine tg_top (y := nI (N 11 (op (c9 - 1)))) (congrArg nI (hg_cl_f (fun q => q.1.elim (by decide) (by decide)))) ?_
          have hb_85 := hB 11 (op (c9 - 1))
          refine tg_aload_n hx hb dS_closeGroup_88 rfl rfl ?_
          refine tg_get (T := TF) (N := 15) hx hb hts inF hown hK (hT v hvT).1 rfl rfl 11 (by decide) (hts _ wf_S_86) (fun _ z => z) rfl dS_closeGroup_89 ?_
          refine tg_top (y := nI (N 11 v)) (congrArg nI (hg_cl_f (fun q => q.1.elim (by decide) (by decide)))) ?_
          have hb_89 := hB 11 v
          refine tg_icmp_lt (tgt := 134) hx hb dS_closeGroup_92 (by decide) (fun q_12 => ?_) (fun q_12 => ?_)
          · have q_12' := q_12
            have h_13 : N 11 (op (c9 - 1)) < N 11 v := (nI_ltI (by omega) (by omega)).mp q_12
            have hfin := hD.round (c := c9) hS h0 hv hlk heq hc9 hhi (Or.inr h_13) hbig
            exact tg_vret hx hb hlocks hr hQ ⟨rfl, rfl, rfl, _, _, rfl, fun j h1 _ _ h4 => funext fun u => hg_cl_f (fun q => q.1.elim h1 h4), rfl, rfl, rfl, rfl, rfl, fun j u => by unfold hg_cl; split; omega; exact hB j u, fun k => by unfold va_up; (repeat' split) <;> first | omega | exact hBG k, fun u z => by unfold hg_cl; split; omega; exact z, by rw [show hg_cl N op c9 (G 4) 13 = N 13 from funext fun u => hg_cl_f (fun q => q.1.elim (by decide) (by decide))]; exact hfin⟩ dS_closeGroup_134
          · have q_12' := q_12
            have h_14 : N 11 v ≤ N 11 (op (c9 - 1)) := Nat.le_of_not_lt fun z => q_12 ((nI_ltI (by omega) (by omega)).mpr z)
            refine tg_aload_n hx hb dS_closeGroup_95 rfl rfl ?_
            refine tg_dup hx hb dS_closeGroup_96 rfl ?_
            refine tg_get (T := TS) (N := 9) hx hb hts inS hown hK (hO.1 3 (by decide)) rfl rfl 7 (by decide) (hts _ wf_S_36) (fun _ z => z) rfl dS_closeGroup_97 ?_
            refine tg_top (y := nI (c9)) (by simp [va_up]) ?_
            refine tg_iconst (v := nI 1) hx hb dS_closeGroup_100 (by decide +kernel) ?_
            refine tg_isub hx hb dS_closeGroup_101 ?_
            refine tg_top (y := nI ((c9) - (1))) (pk_sub (by omega)) ?_
            refine tg_put (T := TS) (N := 9) (ty := .int) hx hb hts inS tyS tyS_ok nmS hown hK (hO.1 3 (by decide)) rfl rfl 7 (by decide) (hts _ wf_S_36) (fun _ z => z) rfl (by decide +kernel) rfl rfl (Nat.le_of_ble_eq_true rfl) dS_closeGroup_102 ?_
            refine tg_wp (hg_w_G4 hO ((c9) - (1))) ?_
            refine tg_aload_n hx hb dS_closeGroup_105 rfl rfl ?_
            refine tg_get (T := TS) (N := 9) hx hb hts inS hown hK (hO.1 3 (by decide)) rfl rfl 6 (by decide) (hts _ wf_S_23) (fun _ z => z) rfl dS_closeGroup_106 ?_
            refine tg_aload_n hx hb dS_closeGroup_109 rfl rfl ?_
            refine tg_get (T := TS) (N := 9) hx hb hts inS hown hK (hO.1 3 (by decide)) rfl rfl 7 (by decide) (hts _ wf_S_36) (fun _ z => z) rfl dS_closeGroup_110 ?_
            refine tg_top (y := nI ((c9) - (1))) (by simp [va_up]) ?_
            refine tg_aald (t0 := 1) hx hb hK (hO.1 7 (by decide)) rfl rfl (x := (c9) - (1)) (by decide) (by omega) dS_closeGroup_113 ?_
            refine tg_st (st' := .ref (ad 8 (op (c9 - 1))) :: []) (by rw [hocT.2]; rfl) ?_
            refine tg_iconst (v := nI 1) hx hb dS_closeGroup_114 (by decide +kernel) ?_
            refine tg_put (T := TF) (N := 15) (ty := .boolean) hx hb hts inF tyF tyF_ok nmF hown hK (hT (op (c9 - 1)) hocT.1).1 rfl rfl 9 (by decide) (hts _ wf_S_111) (fun _ z => z) rfl (by decide +kernel) (by decide +kernel) (by decide +kernel) (Nat.le_of_ble_eq_true rfl) dS_closeGroup_115 ?_
            refine tg_w (hg_w_N9 (op (c9 - 1)) 1) ?_
            refine tg_aload_n hx hb dS_closeGroup_118 rfl rfl ?_
            refine tg_get (T := TS) (N := 9) hx hb hts inS hown hK (hO.1 3 (by decide)) rfl rfl 6 (by decide) (hts _ wf_S_23) (fun _ z => z) rfl dS_closeGroup_119 ?_
            refine tg_aload_n hx hb dS_closeGroup_122 rfl rfl ?_
            refine tg_get (T := TS) (N := 9) hx hb hts inS hown hK (hO.1 3 (by decide)) rfl rfl 7 (by decide) (hts _ wf_S_36) (fun _ z => z) rfl dS_closeGroup_123 ?_
            refine tg_top (y := nI ((c9) - (1))) (by simp [va_up]) ?_
            refine tg_aald (t0 := 1) hx hb hK (hO.1 7 (by decide)) rfl rfl (x := (c9) - (1)) (by decide) (by omega) dS_closeGroup_126 ?_
            refine tg_st (st' := .ref (ad 8 (op (c9 - 1))) :: []) (by rw [hocT.2]; rfl) ?_
            refine tg_iconst (v := nI 1) hx hb dS_closeGroup_127 (by decide +kernel) ?_
            refine tg_put (T := TF) (N := 15) (ty := .boolean) hx hb hts inF tyF tyF_ok nmF hown hK (hT (op (c9 - 1)) hocT.1).1 rfl rfl 14 (by decide) (hts _ wf_S_70) (fun _ z => z) rfl (by decide +kernel) (by decide +kernel) (by decide +kernel) (Nat.le_of_ble_eq_true rfl) dS_closeGroup_128 ?_
            refine tg_w (hg_w_N14 (op (c9 - 1)) 1) ?_
            refine tg_goto (tgt := 67) hx hb dS_closeGroup_131 (by decide) ?_
            refine tg_w (show (hg_w ad cF cI (va_up (va_up (va_up G 3 (G 3 - 1)) 4 c9) 4 ((c9) - (1))) a dr (tg_up (tg_up (hg_cl N op c9 (G 4)) 9 (op (c9 - 1)) 1) 14 (op (c9 - 1)) 1) bc sp μ) = (hg_w ad cF cI (va_up (va_up G 3 (G 3 - 1)) 4 (c9 - 1)) a dr (hg_cl N op (c9 - 1) (G 4)) bc sp μ) from by rw [bx_uu, ← hg_cl_s (c := c9 - 1) (by omega), show c9 - 1 + 1 = c9 by omega]) ?_
            exact ih (c9 - 1) ⟨by omega, fun k h1 h2 => by rcases Nat.lt_or_ge k c9 with z | z; rw [show k = c9 - 1 by omega]; exact h_14; exact hhi k z h2⟩ (by omega)
      · have q_7' := q_7
        rw [← nI_0] at q_7
        have h_15 : 0 ≠ 0 := fun z => q_7 ((nI_eq (by omega) (by omega)).mpr z)
        omega
    · have q_6' := q_6
      have hal : op (G 4 - 1) = v := (hinj 8 _ 8 _ (hT _ hoT.1).1 (hT _ hvT).1 (Option.some.inj q_6)).2
      refine tg_iconst (v := nI 1) hx hb dS_closeGroup_22 (by decide +kernel) ?_
      refine tg_goto (tgt := 27) hx hb dS_closeGroup_23 (by decide) ?_
      refine tg_istore_n (L' := [(0, .ref (ad 3 0)), (1, .ref (ad 8 v)), (2, .int (nI (1)))]) hx hb dS_closeGroup_27 rfl (by decide) rfl rfl ?_
      refine tg_iload_n hx hb dS_closeGroup_28 rfl rfl ?_
      refine tg_if_eq (tgt := 67) hx hb dS_closeGroup_29 (by decide) (fun q_16 => ?_) (fun q_16 => ?_)
      · have q_16' := q_16
        rw [← nI_0] at q_16
        have h_17 : 1 = 0 := (nI_eq (by omega) (by omega)).mp q_16
        omega
      · have q_16' := q_16
        rw [← nI_0] at q_16
        have h_18 : 1 ≠ 0 := fun z => q_16 ((nI_eq (by omega) (by omega)).mpr z)
        refine tg_aload_n hx hb dS_closeGroup_32 rfl rfl ?_
        refine tg_aload_n hx hb dS_closeGroup_33 rfl rfl ?_
        refine tg_callV (C := "HangGraph$Formula") (As := [.ref (ad 8 v)]) (rest := []) ⟨hx, hb, hml, hown, hts⟩ hK hN hMv (hT v hvT).1 rfl rfl rfl (c_hangsOn hO hT v v hvT hvT (hNN _ hvT).1 (hNN _ hvT).2) (cwV 1 hts (lg_V wm_S_66 wi_F_hangsOn we_F_hangsOn wn_F wc_F_hangsOn) rfl rfl rfl ⟨rfl, by decide, by decide, rfl⟩ ⟨by rw [hR]; exact Nat.le_of_ble_eq_true rfl, by rw [hR]; exact Nat.le_of_ble_eq_true rfl⟩) rfl (Nat.le_of_ble_eq_true rfl) ⟨by rw [hR]; exact Nat.le_of_ble_eq_true rfl, by rw [hR]; exact Nat.le_of_ble_eq_true rfl⟩ rfl dS_closeGroup_34 (tg_kv rfl rfl ?_)
        have hb9 := hg_b_le (hg_hk N bc sp v v)
        refine tg_if_ne (tgt := 67) hx hb dS_closeGroup_37 (by decide) (fun q_19 => ?_) (fun q_19 => ?_)
        · have q_19' := q_19
          rw [← nI_0] at q_19
          have h_20 : hg_b (hg_hk N bc sp v v) ≠ 0 := fun z => q_19 ((nI_eq (by omega) (by omega)).mpr z)
          have hbig : e9 v v ∨ op (G 4 - 1) ≠ v := Or.inl (he9.mpr (hg_b1 h_20))
          refine tg_w (show (hg_w ad cF cI (va_up G 3 (G 3 - 1)) a dr N bc sp μ) = hg_w ad cF cI (va_up (va_up G 3 (G 3 - 1)) 4 (G 4)) a dr (hg_cl N op (G 4) (G 4)) bc sp μ from by rw [hg_cl_0, hg_up_same (show G 4 = va_up G 3 (G 3 - 1) 4 from (va_up_ne _ _ (by decide)).symm)]) ?_
          refine tg_loop (fun c9 : Nat => c9 ≤ G 4 ∧ ∀ k, c9 ≤ k → k < G 4 → N 11 v ≤ N 11 (op k)) (fun c9 => c9) (fun c9 => tg_W p l e R s m args below meth c Q 3 D vwCl F ad ok (hg_w ad cF cI (va_up (va_up G 3 (G 3 - 1)) 4 c9) a dr (hg_cl N op c9 (G 4)) bc sp μ) [(0, .ref (ad 3 0)), (1, .ref (ad 8 v)), (2, .int (nI (1)))] 0 0 67 []) ?_ (G 4) ⟨Nat.le_refl _, fun k h1 h2 => by omega⟩
          intro c9 ⟨hc9, hhi⟩ ih
          refine tg_aload_n hx hb dS_closeGroup_67 rfl rfl ?_
          refine tg_get (T := TS) (N := 9) hx hb hts inS hown hK (hO.1 3 (by decide)) rfl rfl 7 (by decide) (hts _ wf_S_36) (fun _ z => z) rfl dS_closeGroup_68 ?_
          refine tg_top (y := nI (c9)) (by simp [va_up]) ?_
          refine tg_if_le (tgt := 134) hx hb dS_closeGroup_71 (by decide) (fun q_21 => ?_) (fun q_21 => ?_)
          · have q_21' := q_21
            rw [← nI_0] at q_21
            have h_22 : c9 ≤ 0 := (nI_leI (by omega) (by omega)).mp q_21
            have hfin := hD.round (c := c9) hS h0 hv hlk heq hc9 hhi (Or.inl (by omega)) hbig
            exact tg_vret hx hb hlocks hr hQ ⟨rfl, rfl, rfl, _, _, rfl, fun j h1 _ _ h4 => funext fun u => hg_cl_f (fun q => q.1.elim h1 h4), rfl, rfl, rfl, rfl, rfl, fun j u => by unfold hg_cl; split; omega; exact hB j u, fun k => by unfold va_up; (repeat' split) <;> first | omega | exact hBG k, fun u z => by unfold hg_cl; split; omega; exact z, by rw [show hg_cl N op c9 (G 4) 13 = N 13 from funext fun u => hg_cl_f (fun q => q.1.elim (by decide) (by decide))]; exact hfin⟩ dS_closeGroup_134
          · have q_21' := q_21
            rw [← nI_0] at q_21
            have h_23 : 0 < c9 := Nat.lt_of_not_le fun z => q_21 ((nI_leI (by omega) (by omega)).mpr z)
            have hocT := hD.2.1.2 (c9 - 1) (by omega)
            refine tg_aload_n hx hb dS_closeGroup_74 rfl rfl ?_
            refine tg_get (T := TS) (N := 9) hx hb hts inS hown hK (hO.1 3 (by decide)) rfl rfl 6 (by decide) (hts _ wf_S_23) (fun _ z => z) rfl dS_closeGroup_75 ?_
            refine tg_aload_n hx hb dS_closeGroup_78 rfl rfl ?_
            refine tg_get (T := TS) (N := 9) hx hb hts inS hown hK (hO.1 3 (by decide)) rfl rfl 7 (by decide) (hts _ wf_S_36) (fun _ z => z) rfl dS_closeGroup_79 ?_
            refine tg_top (y := nI (c9)) (by simp [va_up]) ?_
            refine tg_iconst (v := nI 1) hx hb dS_closeGroup_82 (by decide +kernel) ?_
            refine tg_isub hx hb dS_closeGroup_83 ?_
            refine tg_top (y := nI ((c9) - (1))) (pk_sub (by omega)) ?_
            refine tg_aald (t0 := 1) hx hb hK (hO.1 7 (by decide)) rfl rfl (x := (c9) - (1)) (by decide) (by omega) dS_closeGroup_84 ?_
            refine tg_st (st' := .ref (ad 8 (op (c9 - 1))) :: []) (by rw [hocT.2]; rfl) ?_
            refine tg_get (T := TF) (N := 15) hx hb hts inF hown hK (hT (op (c9 - 1)) hocT.1).1 rfl rfl 11 (by decide) (hts _ wf_S_86) (fun _ z => z) rfl dS_closeGroup_85 ?_
            refine tg_top (y := nI (N 11 (op (c9 - 1)))) (congrArg nI (hg_cl_f (fun q => q.1.elim (by decide) (by decide)))) ?_
            have hb_85 := hB 11 (op (c9 - 1))
            refine tg_aload_n hx hb dS_closeGroup_88 rfl rfl ?_
            refine tg_get (T := TF) (N := 15) hx hb hts inF hown hK (hT v hvT).1 rfl rfl 11 (by decide) (hts _ wf_S_86) (fun _ z => z) rfl dS_closeGroup_89 ?_
            refine tg_top (y := nI (N 11 v)) (congrArg nI (hg_cl_f (fun q => q.1.elim (by decide) (by decide)))) ?_
            have hb_89 := hB 11 v
            refine tg_icmp_lt (tgt := 134) hx hb dS_closeGroup_92 (by decide) (fun q_24 => ?_) (fun q_24 => ?_)
            · have q_24' := q_24
              have h_25 : N 11 (op (c9 - 1)) < N 11 v := (nI_ltI (by omega) (by omega)).mp q_24
              have hfin := hD.round (c := c9) hS h0 hv hlk heq hc9 hhi (Or.inr h_25) hbig
              exact tg_vret hx hb hlocks hr hQ ⟨rfl, rfl, rfl, _, _, rfl, fun j h1 _ _ h4 => funext fun u => hg_cl_f (fun q => q.1.elim h1 h4), rfl, rfl, rfl, rfl, rfl, fun j u => by unfold hg_cl; split; omega; exact hB j u, fun k => by unfold va_up; (repeat' split) <;> first | omega | exact hBG k, fun u z => by unfold hg_cl; split; omega; exact z, by rw [show hg_cl N op c9 (G 4) 13 = N 13 from funext fun u => hg_cl_f (fun q => q.1.elim (by decide) (by decide))]; exact hfin⟩ dS_closeGroup_134
            · have q_24' := q_24
              have h_26 : N 11 v ≤ N 11 (op (c9 - 1)) := Nat.le_of_not_lt fun z => q_24 ((nI_ltI (by omega) (by omega)).mpr z)
              refine tg_aload_n hx hb dS_closeGroup_95 rfl rfl ?_
              refine tg_dup hx hb dS_closeGroup_96 rfl ?_
              refine tg_get (T := TS) (N := 9) hx hb hts inS hown hK (hO.1 3 (by decide)) rfl rfl 7 (by decide) (hts _ wf_S_36) (fun _ z => z) rfl dS_closeGroup_97 ?_
              refine tg_top (y := nI (c9)) (by simp [va_up]) ?_
              refine tg_iconst (v := nI 1) hx hb dS_closeGroup_100 (by decide +kernel) ?_
              refine tg_isub hx hb dS_closeGroup_101 ?_
              refine tg_top (y := nI ((c9) - (1))) (pk_sub (by omega)) ?_
              refine tg_put (T := TS) (N := 9) (ty := .int) hx hb hts inS tyS tyS_ok nmS hown hK (hO.1 3 (by decide)) rfl rfl 7 (by decide) (hts _ wf_S_36) (fun _ z => z) rfl (by decide +kernel) rfl rfl (Nat.le_of_ble_eq_true rfl) dS_closeGroup_102 ?_
              refine tg_wp (hg_w_G4 hO ((c9) - (1))) ?_
              refine tg_aload_n hx hb dS_closeGroup_105 rfl rfl ?_
              refine tg_get (T := TS) (N := 9) hx hb hts inS hown hK (hO.1 3 (by decide)) rfl rfl 6 (by decide) (hts _ wf_S_23) (fun _ z => z) rfl dS_closeGroup_106 ?_
              refine tg_aload_n hx hb dS_closeGroup_109 rfl rfl ?_
              refine tg_get (T := TS) (N := 9) hx hb hts inS hown hK (hO.1 3 (by decide)) rfl rfl 7 (by decide) (hts _ wf_S_36) (fun _ z => z) rfl dS_closeGroup_110 ?_
              refine tg_top (y := nI ((c9) - (1))) (by simp [va_up]) ?_
              refine tg_aald (t0 := 1) hx hb hK (hO.1 7 (by decide)) rfl rfl (x := (c9) - (1)) (by decide) (by omega) dS_closeGroup_113 ?_
              refine tg_st (st' := .ref (ad 8 (op (c9 - 1))) :: []) (by rw [hocT.2]; rfl) ?_
              refine tg_iconst (v := nI 1) hx hb dS_closeGroup_114 (by decide +kernel) ?_
              refine tg_put (T := TF) (N := 15) (ty := .boolean) hx hb hts inF tyF tyF_ok nmF hown hK (hT (op (c9 - 1)) hocT.1).1 rfl rfl 9 (by decide) (hts _ wf_S_111) (fun _ z => z) rfl (by decide +kernel) (by decide +kernel) (by decide +kernel) (Nat.le_of_ble_eq_true rfl) dS_closeGroup_115 ?_
              refine tg_w (hg_w_N9 (op (c9 - 1)) 1) ?_
              refine tg_aload_n hx hb dS_closeGroup_118 rfl rfl ?_
              refine tg_get (T := TS) (N := 9) hx hb hts inS hown hK (hO.1 3 (by decide)) rfl rfl 6 (by decide) (hts _ wf_S_23) (fun _ z => z) rfl dS_closeGroup_119 ?_
              refine tg_aload_n hx hb dS_closeGroup_122 rfl rfl ?_
              refine tg_get (T := TS) (N := 9) hx hb hts inS hown hK (hO.1 3 (by decide)) rfl rfl 7 (by decide) (hts _ wf_S_36) (fun _ z => z) rfl dS_closeGroup_123 ?_
              refine tg_top (y := nI ((c9) - (1))) (by simp [va_up]) ?_
              refine tg_aald (t0 := 1) hx hb hK (hO.1 7 (by decide)) rfl rfl (x := (c9) - (1)) (by decide) (by omega) dS_closeGroup_126 ?_
              refine tg_st (st' := .ref (ad 8 (op (c9 - 1))) :: []) (by rw [hocT.2]; rfl) ?_
              refine tg_iconst (v := nI 1) hx hb dS_closeGroup_127 (by decide +kernel) ?_
              refine tg_put (T := TF) (N := 15) (ty := .boolean) hx hb hts inF tyF tyF_ok nmF hown hK (hT (op (c9 - 1)) hocT.1).1 rfl rfl 14 (by decide) (hts _ wf_S_70) (fun _ z => z) rfl (by decide +kernel) (by decide +kernel) (by decide +kernel) (Nat.le_of_ble_eq_true rfl) dS_closeGroup_128 ?_
              refine tg_w (hg_w_N14 (op (c9 - 1)) 1) ?_
              refine tg_goto (tgt := 67) hx hb dS_closeGroup_131 (by decide) ?_
              refine tg_w (show (hg_w ad cF cI (va_up (va_up (va_up G 3 (G 3 - 1)) 4 c9) 4 ((c9) - (1))) a dr (tg_up (tg_up (hg_cl N op c9 (G 4)) 9 (op (c9 - 1)) 1) 14 (op (c9 - 1)) 1) bc sp μ) = (hg_w ad cF cI (va_up (va_up G 3 (G 3 - 1)) 4 (c9 - 1)) a dr (hg_cl N op (c9 - 1) (G 4)) bc sp μ) from by rw [bx_uu, ← hg_cl_s (c := c9 - 1) (by omega), show c9 - 1 + 1 = c9 by omega]) ?_
              exact ih (c9 - 1) ⟨by omega, fun k h1 h2 => by rcases Nat.lt_or_ge k c9 with z | z; rw [show k = c9 - 1 by omega]; exact h_26; exact hhi k z h2⟩ (by omega)
        · have q_19' := q_19
          rw [← nI_0] at q_19
          have h_27 : hg_b (hg_hk N bc sp v v) = 0 := (nI_eq (by omega) (by omega)).mp q_19
          refine tg_aload_n hx hb dS_closeGroup_40 rfl rfl ?_
          refine tg_iconst (v := nI 1) hx hb dS_closeGroup_41 (by decide +kernel) ?_
          refine tg_aload_n hx hb dS_closeGroup_42 rfl rfl ?_
          refine tg_aload_n hx hb dS_closeGroup_43 rfl rfl ?_
          refine tg_callV (C := "HangGraph$Sweep") (As := [.ref (ad 8 v)]) (rest := [.int (nI (1)), .ref (ad 8 v)]) ⟨hx, hb, hml, hown, hts⟩ hK hN hMv (hO.1 3 (by decide)) rfl rfl rfl (c_greatest hO hT hMv hS.1 hits (by rw [va_up_ne _ _ (by decide)]; exact hS.2.1) (by rw [va_up_ne _ _ (by decide)]; exact hS.2.2.1) (fun u _ => hD.rank u) v hvT) (cwV 1 hts (lg_V wm_S_104 wi_S_greatestRankBelow we_S_greatestRankBelow wn_S wc_S_greatestRankBelow) rfl rfl rfl ⟨rfl, by decide, by decide, rfl⟩ ⟨by rw [hR]; exact Nat.le_of_ble_eq_true rfl, by rw [hR]; exact Nat.le_of_ble_eq_true rfl⟩) rfl (Nat.le_of_ble_eq_true rfl) ⟨by rw [hR]; exact Nat.le_of_ble_eq_true rfl, by rw [hR]; exact Nat.le_of_ble_eq_true rfl⟩ rfl dS_closeGroup_44 (tg_kv rfl rfl ?_)
          have hl9 : hg_lm (hg_hk N bc sp v) (N 10) hits (G 2) ≤ 1000 := hg_lm_bd _ fun j _ _ => Nat.le_of_lt (hD.rank _)
          refine tg_iadd hx hb dS_closeGroup_47 ?_
          refine tg_top (y := nI ((1) + (hg_lm (hg_hk N bc sp v) (N 10) hits (G 2)))) (nI_add _ _) ?_
          refine tg_put (T := TF) (N := 15) (ty := .int) hx hb hts inF tyF tyF_ok nmF hown hK (hT v hvT).1 rfl rfl 10 (by decide) (hts _ wf_S_108) (fun _ z => z) rfl (by decide +kernel) rfl rfl (Nat.le_of_ble_eq_true rfl) dS_closeGroup_48 ?_
          refine tg_w (hg_w_N10 v ((1) + (hg_lm (hg_hk N bc sp v) (N 10) hits (G 2)))) ?_
          refine tg_aload_n hx hb dS_closeGroup_51 rfl rfl ?_
          refine tg_iconst (v := nI 1) hx hb dS_closeGroup_52 (by decide +kernel) ?_
          refine tg_put (T := TF) (N := 15) (ty := .boolean) hx hb hts inF tyF tyF_ok nmF hown hK (hT v hvT).1 rfl rfl 14 (by decide) (hts _ wf_S_70) (fun _ z => z) rfl (by decide +kernel) (by decide +kernel) (by decide +kernel) (Nat.le_of_ble_eq_true rfl) dS_closeGroup_53 ?_
          refine tg_w (hg_w_N14 v 1) ?_
          refine tg_aload_n hx hb dS_closeGroup_56 rfl rfl ?_
          refine tg_dup hx hb dS_closeGroup_57 rfl ?_
          refine tg_get (T := TS) (N := 9) hx hb hts inS hown hK (hO.1 3 (by decide)) rfl rfl 7 (by decide) (hts _ wf_S_36) (fun _ z => z) rfl dS_closeGroup_58 ?_
          refine tg_top (y := nI (G 4)) (by simp [va_up]) ?_
          have hb_28 := hBG 4
          refine tg_iconst (v := nI 1) hx hb dS_closeGroup_61 (by decide +kernel) ?_
          refine tg_isub hx hb dS_closeGroup_62 ?_
          refine tg_top (y := nI ((G 4) - (1))) (pk_sub (by omega)) ?_
          refine tg_put (T := TS) (N := 9) (ty := .int) hx hb hts inS tyS tyS_ok nmS hown hK (hO.1 3 (by decide)) rfl rfl 7 (by decide) (hts _ wf_S_36) (fun _ z => z) rfl (by decide +kernel) rfl rfl (Nat.le_of_ble_eq_true rfl) dS_closeGroup_63 ?_
          refine tg_wp (hg_w_G4 hO ((G 4) - (1))) ?_
          have elm : hg_lm (hg_hk N bc sp v) (N 10) hits (G 2) = hg_mx e9 (N 10) v 400 := hg_lm_mx (fun i hi hp => by obtain ⟨iv, h1, h2⟩ := hvh; exact ⟨by rw [← h2]; exact (hS.2.2.2.2.1 iv i h1 hi).mpr (by rw [h2]; exact hp), hS.2.2.2.2.2 _ (hS.2.2.1 i hi).1⟩) (fun g hg he => by obtain ⟨i, h1, h2⟩ := (hS.2.2.2.1 v g he).2; obtain ⟨iv, h3, h4⟩ := hvh; exact ⟨i, h1, h2, by rw [← h4]; exact (hS.2.2.2.2.1 iv i h3 h1).mp (by rw [h2, h4]; exact he)⟩)
          have hmx : hg_mx e9 (N 10) v 400 ≤ 1000 := hg_mx_bd 400 fun g _ _ => Nat.le_of_lt (hD.rank g)
          have hfin := hD.alone hS h0 hv hlk heq (by omega) hal (fun z => absurd (he9.mp z) (hg_b0 h_27))
          rw [elm]
          exact tg_vret hx hb hlocks hr hQ ⟨rfl, rfl, rfl, _, _, rfl, fun j h1 h2 _ h4 => by rw [hg_oth _ _ _ h4, hg_oth _ _ _ h2], rfl, rfl, rfl, rfl, rfl, fun j u => by unfold tg_up; (repeat' split) <;> first | omega | exact hB j u, fun k => by unfold va_up; (repeat' split) <;> first | omega | exact hBG k, fun u z => by rw [hg_col]; unfold va_up; split; omega; rw [hg_oth _ _ _ (by decide)]; exact z, by rw [hg_oth _ _ _ (by decide), hg_oth _ _ _ (by decide)]; exact hfin⟩ dS_closeGroup_66
set_option maxRecDepth 100000 in
set_option maxHeartbeats 4000000 in
/-- the walk goes back from v -/
theorem c_leave (hO : hg_ok ok) (hT : ∀ f, T f → ok 8 f ∧ ok 9 f) (hMv : tg_Mv F Nn) (hB : ∀ j u, N j u < 1000000) (hBG : ∀ k, G k < 1000000) (hits pa op : Nat → Nat) (e9 : Nat → Nat → Prop) (hS : hg_SV T ad a G N bc sp e9 hits) (hD : hg_DV T ad a G N (N 13) e9 hits pa op) (h0 : 0 < G 3) (v : Nat) (hv : pa (G 3 - 1) = v) (hlk : G 2 ≤ N 13 v) : tg_Met l yS_leave wsS_leave ({ frames := 3, cells := 0, slots := 0, locals := 140 }) D vwCl (hg_tys cI cF cZ cJ cA cB) F Nn ad ok (hg_w ad cF cI G a dr N bc sp μ) [.ref (ad 3 0), .ref (ad 8 v)] (tg_po ad ok fun r w1 => r = none ∧ ∃ G' N', w1 = hg_w ad cF cI G' a dr N' bc sp μ ∧ (∀ j, j ≠ 9 → j ≠ 10 → j ≠ 12 → j ≠ 14 → N' j = N j) ∧ G' 0 = G 0 ∧ G' 1 = G 1 ∧ G' 2 = G 2 ∧ G' 3 = G 3 - 1 ∧ G' 5 = G 5 ∧ (∀ j u, N' j u < 1000000) ∧ (∀ k, G' k < 1000000) ∧ (∀ u, N 14 u ≠ 0 → N' 14 u ≠ 0) ∧ hg_DV T ad a G' N' (N' 13) e9 hits pa op) := by
  refine tg_start (cc := cS_leave) (maxL := 3) (ret := none) (by decide) rfl (Nat.le_of_ble_eq_true rfl) ?_
  intro p e R s m args below meth c Q hx hb hml hr hlocks hown hname hts hK hN hR hQ
  have hown : s.vm.findClass "HangGraph$Sweep" = some m.cls := hown
  have hts : ∀ w ∈ lw_g, w.before args s = true := fun w z => hts w (List.mem_cons_of_mem _ z)
  have hvT : T v := by rw [← hv]; exact (hD.1.2 _ (by omega)).1
  have hvh : ∃ iv, iv < G 2 ∧ hits iv = v := hg_T_17 hD.2.2.1 v (by rw [← hv]; exact (hD.2.2.1.2.2.2.2.2.1 _ (by omega)).1)
  have hG2 := hS.2.1
  have hG3 := hD.1.1
  have hG4 := hD.2.1.1
  have hb_3 := hBG 3
  refine tg_aload_n hx hb dS_leave_0 rfl rfl ?_
  refine tg_dup hx hb dS_leave_1 rfl ?_
  refine tg_get (T := TS) (N := 9) hx hb hts inS hown hK (hO.1 3 (by decide)) rfl rfl 5 (by decide) (hts _ wf_S_33) (fun _ z => z) rfl dS_leave_2 ?_
  have hb_1 := hBG 3
  refine tg_iconst (v := nI 1) hx hb dS_leave_5 (by decide +kernel) ?_
  refine tg_isub hx hb dS_leave_6 ?_
  refine tg_top (y := nI ((G 3) - (1))) (pk_sub (by omega)) ?_
  refine tg_put (T := TS) (N := 9) (ty := .int) hx hb hts inS tyS tyS_ok nmS hown hK (hO.1 3 (by decide)) rfl rfl 5 (by decide) (hts _ wf_S_33) (fun _ z => z) rfl (by decide +kernel) rfl rfl (Nat.le_of_ble_eq_true rfl) dS_leave_7 ?_
  refine tg_wp (hg_w_G3 hO ((G 3) - (1))) ?_
  refine tg_aload_n hx hb dS_leave_10 rfl rfl ?_
  refine tg_get (T := TS) (N := 9) hx hb hts inS hown hK (hO.1 3 (by decide)) rfl rfl 5 (by decide) (hts _ wf_S_33) (fun _ z => z) rfl dS_leave_11 ?_
  refine tg_top (y := nI ((G 3) - (1))) (by simp [va_up]) ?_
  refine tg_if_le (tgt := 44) hx hb dS_leave_14 (by decide) (fun q_2 => ?_) (fun q_2 => ?_)
  · have q_2' := q_2
    rw [← nI_0] at q_2
    have h_3 : (G 3) - (1) ≤ 0 := (nI_leI (by omega) (by omega)).mp q_2
    refine tg_aload_n hx hb dS_leave_44 rfl rfl ?_
    refine tg_get (T := TF) (N := 15) hx hb hts inF hown hK (hT v hvT).1 rfl rfl 12 (by decide) (hts _ wf_S_89) (fun _ z => z) rfl dS_leave_45 ?_
    have hb_4 := hB 12 v
    refine tg_aload_n hx hb dS_leave_48 rfl rfl ?_
    refine tg_get (T := TF) (N := 15) hx hb hts inF hown hK (hT v hvT).1 rfl rfl 11 (by decide) (hts _ wf_S_86) (fun _ z => z) rfl dS_leave_49 ?_
    have hb_5 := hB 11 v
    refine tg_icmp_ne (tgt := 60) hx hb dS_leave_52 (by decide) (fun q_6 => ?_) (fun q_6 => ?_)
    · have q_6' := q_6
      have h_7 : N 12 v ≠ N 11 v := fun z => q_6 ((nI_eq (by omega) (by omega)).mpr z)
      obtain ⟨h2, hfin⟩ := hD.leave h0 hv hlk h_7
      omega
    · have q_6' := q_6
      have h_8 : N 12 v = N 11 v := (nI_eq (by omega) (by omega)).mp q_6
      have heq : N 12 v = N 11 v := h_8
      refine tg_aload_n hx hb dS_leave_55 rfl rfl ?_
      refine tg_aload_n hx hb dS_leave_56 rfl rfl ?_
      refine tg_callV (C := "HangGraph$Sweep") (As := [.ref (ad 8 v)]) (rest := []) ⟨hx, hb, hml, hown, hts⟩ hK hN hMv (hO.1 3 (by decide)) rfl rfl rfl (c_closeGroup hO hT hMv hB hBG hits pa op e9 hS hD h0 v hv hlk heq) (cwV 1 hts (lg_V wm_S_101 wi_S_closeGroup we_S_closeGroup wn_S wc_S_closeGroup) rfl rfl rfl ⟨rfl, by decide, by decide, rfl⟩ ⟨by rw [hR]; exact Nat.le_of_ble_eq_true rfl, by rw [hR]; exact Nat.le_of_ble_eq_true rfl⟩) rfl (Nat.le_of_ble_eq_true rfl) ⟨by rw [hR]; exact Nat.le_of_ble_eq_true rfl, by rw [hR]; exact Nat.le_of_ble_eq_true rfl⟩ rfl dS_leave_57 (tg_kk rfl rfl ?_)
      intro r w1 ⟨hr1, G', N', hw1, hrest⟩
      rw [hr1, hw1]
      exact tg_vret hx hb hlocks hr hQ ⟨rfl, rfl, rfl, G', N', rfl, hrest⟩ dS_leave_60
  · have q_2' := q_2
    rw [← nI_0] at q_2
    have h_9 : 0 < (G 3) - (1) := Nat.lt_of_not_le fun z => q_2 ((nI_leI (by omega) (by omega)).mpr z)
    have hpT := hD.1.2 (G 3 - 1 - 1) (by omega)
    have hpv : ¬ v = pa (G 3 - 1 - 1) := fun z => by have h1 := hD.2.2.1.2.2.2.2.2.2.1 (G 3 - 1 - 1) (G 3 - 1) (by omega) (by omega); rw [hv, z] at h1; omega
    refine tg_aload_n hx hb dS_leave_17 rfl rfl ?_
    refine tg_get (T := TS) (N := 9) hx hb hts inS hown hK (hO.1 3 (by decide)) rfl rfl 4 (by decide) (hts _ wf_S_20) (fun _ z => z) rfl dS_leave_18 ?_
    refine tg_aload_n hx hb dS_leave_21 rfl rfl ?_
    refine tg_get (T := TS) (N := 9) hx hb hts inS hown hK (hO.1 3 (by decide)) rfl rfl 5 (by decide) (hts _ wf_S_33) (fun _ z => z) rfl dS_leave_22 ?_
    refine tg_top (y := nI ((G 3) - (1))) (by simp [va_up]) ?_
    refine tg_iconst (v := nI 1) hx hb dS_leave_25 (by decide +kernel) ?_
    refine tg_isub hx hb dS_leave_26 ?_
    refine tg_top (y := nI (((G 3) - (1)) - (1))) (pk_sub (by omega)) ?_
    refine tg_aald (t0 := 1) hx hb hK (hO.1 6 (by decide)) rfl rfl (x := ((G 3) - (1)) - (1)) (by decide) (by omega) dS_leave_27 ?_
    refine tg_st (st' := .ref (ad 8 (pa (G 3 - 1 - 1))) :: []) (by rw [hpT.2]; rfl) ?_
    refine tg_astore_n (L' := [(0, .ref (ad 3 0)), (1, .ref (ad 8 v)), (2, .ref (ad 8 (pa (G 3 - 1 - 1))))]) hx hb dS_leave_28 rfl (by decide) rfl rfl ?_
    refine tg_aload_n hx hb dS_leave_29 rfl rfl ?_
    refine tg_aload_n hx hb dS_leave_30 rfl rfl ?_
    refine tg_get (T := TF) (N := 15) hx hb hts inF hown hK (hT (pa (G 3 - 1 - 1)) hpT.1).1 rfl rfl 12 (by decide) (hts _ wf_S_89) (fun _ z => z) rfl dS_leave_31 ?_
    have hb_10 := hB 12 (pa (G 3 - 1 - 1))
    refine tg_aload_n hx hb dS_leave_34 rfl rfl ?_
    refine tg_get (T := TF) (N := 15) hx hb hts inF hown hK (hT v hvT).1 rfl rfl 12 (by decide) (hts _ wf_S_89) (fun _ z => z) rfl dS_leave_35 ?_
    have hb_11 := hB 12 v
    refine tg_mmin hx hb hml hown (hts _ wm_S_95) (hts _ wt_java_lang_Math_min) (hts _ wn_java_lang_Math) (hts _ wc_java_lang_Math_min) (by rw [hR]; exact Nat.le_of_ble_eq_true rfl) (by rw [hR]; exact Nat.le_of_ble_eq_true rfl) (Nat.zero_le _) (Nat.zero_le _) dS_leave_38 ?_
    refine tg_top (y := nI (Nat.min (N 12 (pa (G 3 - 1 - 1))) (N 12 v))) (hg_imin (by omega) (by omega)) ?_
    refine tg_put (T := TF) (N := 15) (ty := .int) hx hb hts inF tyF tyF_ok nmF hown hK (hT (pa (G 3 - 1 - 1)) hpT.1).1 rfl rfl 12 (by decide) (hts _ wf_S_89) (fun _ z => z) rfl (by decide +kernel) rfl rfl (Nat.le_of_ble_eq_true rfl) dS_leave_41 ?_
    refine tg_w (hg_w_N12 (pa (G 3 - 1 - 1)) (Nat.min (N 12 (pa (G 3 - 1 - 1))) (N 12 v))) ?_
    refine tg_aload_n hx hb dS_leave_44 rfl rfl ?_
    refine tg_get (T := TF) (N := 15) hx hb hts inF hown hK (hT v hvT).1 rfl rfl 12 (by decide) (hts _ wf_S_89) (fun _ z => z) rfl dS_leave_45 ?_
    refine tg_top (y := nI (N 12 v)) (congrArg nI (tg_up_ne _ _ (fun z => hpv z.2))) ?_
    have hb_45 := hB 12 v
    refine tg_aload_n hx hb dS_leave_48 rfl rfl ?_
    refine tg_get (T := TF) (N := 15) hx hb hts inF hown hK (hT v hvT).1 rfl rfl 11 (by decide) (hts _ wf_S_86) (fun _ z => z) rfl dS_leave_49 ?_
    refine tg_top (y := nI (N 11 v)) (by simp [tg_up]) ?_
    have hb_12 := hB 11 v
    refine tg_icmp_ne (tgt := 60) hx hb dS_leave_52 (by decide) (fun q_13 => ?_) (fun q_13 => ?_)
    · have q_13' := q_13
      have h_14 : N 12 v ≠ N 11 v := fun z => q_13 ((nI_eq (by omega) (by omega)).mpr z)
      obtain ⟨h2, hfin⟩ := hD.leave h0 hv hlk h_14
      exact tg_vret hx hb hlocks hr hQ ⟨rfl, rfl, rfl, _, _, rfl, fun j _ _ h3 _ => by rw [hg_oth _ _ _ h3], rfl, rfl, rfl, rfl, rfl, fun j u => by unfold tg_up; split; exact Nat.lt_of_le_of_lt (Nat.min_le_left _ _) (hB _ _); exact hB j u, fun k => by unfold va_up; (repeat' split) <;> first | omega | exact hBG k, fun u z => by rw [hg_oth _ _ _ (by decide)]; exact z, by rw [hg_oth _ _ _ (by decide)]; exact hfin⟩ dS_leave_60
    · have q_13' := q_13
      have h_15 : N 12 v = N 11 v := (nI_eq (by omega) (by omega)).mp q_13
      have heq : N 12 v = N 11 v := h_15
      refine tg_w (show (hg_w ad cF cI (va_up G 3 ((G 3) - (1))) a dr (tg_up N 12 (pa (G 3 - 1 - 1)) (Nat.min (N 12 (pa (G 3 - 1 - 1))) (N 12 v))) bc sp μ) = hg_w ad cF cI (va_up G 3 (G 3 - 1)) a dr N bc sp μ from by rw [hg_tg_same (hD.same (by omega) hv heq)]) ?_
      refine tg_aload_n hx hb dS_leave_55 rfl rfl ?_
      refine tg_aload_n hx hb dS_leave_56 rfl rfl ?_
      refine tg_callV (C := "HangGraph$Sweep") (As := [.ref (ad 8 v)]) (rest := []) ⟨hx, hb, hml, hown, hts⟩ hK hN hMv (hO.1 3 (by decide)) rfl rfl rfl (c_closeGroup hO hT hMv hB hBG hits pa op e9 hS hD h0 v hv hlk heq) (cwV 1 hts (lg_V wm_S_101 wi_S_closeGroup we_S_closeGroup wn_S wc_S_closeGroup) rfl rfl rfl ⟨rfl, by decide, by decide, rfl⟩ ⟨by rw [hR]; exact Nat.le_of_ble_eq_true rfl, by rw [hR]; exact Nat.le_of_ble_eq_true rfl⟩) rfl (Nat.le_of_ble_eq_true rfl) ⟨by rw [hR]; exact Nat.le_of_ble_eq_true rfl, by rw [hR]; exact Nat.le_of_ble_eq_true rfl⟩ rfl dS_leave_57 (tg_kk rfl rfl ?_)
      intro r w1 ⟨hr1, G', N', hw1, hrest⟩
      rw [hr1, hw1]
      exact tg_vret hx hb hlocks hr hQ ⟨rfl, rfl, rfl, G', N', rfl, hrest⟩ dS_leave_60
end HGS3
