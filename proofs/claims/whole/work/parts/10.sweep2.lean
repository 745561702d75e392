/-! the sweep looks at the list of the hit -/
section HGS2
variable {l : Launch} {D : va_G} {F : Nat → Prop} {Nn : State → Heap → Prop} {ad : Nat → Nat → Nat} {ok : Nat → Nat → Prop} {cF cI cZ cJ cA cB : ClassId} {G : Nat → Nat} {a : Nat → Nat → Option Nat} {dr : Nat → Int32} {N : Nat → Nat → Nat} {bc : Nat → Int32} {sp : Nat → Nat → Int32} {μ : Nat → Nat → va_E} {T : Nat → Prop}
set_option maxRecDepth 100000 in
set_option maxHeartbeats 4000000 in
/-- the greatest rank of those that f hangs on -/
theorem c_greatest (hO : hg_ok ok) (hT : ∀ f, T f → ok 8 f ∧ ok 9 f) (hMv : tg_Mv F Nn) (hNN : ∀ u, T u → N 1 u ≤ N 3 u ∧ N 3 u < 20) (hits : Nat → Nat) (hh : G 2 ≤ 400) (hhs : ∀ i, i < G 2 → T (hits i) ∧ a 2 i = some (ad 8 (hits i))) (hrk : ∀ u, T u → N 10 u < 1000) (f : Nat) (hf : T f) : tg_Met l yS_greatestRankBelow wsS_greatestRankBelow ({ frames := 1, cells := 0, slots := 0, locals := 40 }) D vwCl (hg_tys cI cF cZ cJ cA cB) F Nn ad ok (hg_w ad cF cI G a dr N bc sp μ) [.ref (ad 3 0), .ref (ad 8 f)] (tg_po ad ok fun r w1 => r = some (.int (nI (hg_lm (hg_hk N bc sp f) (N 10) hits (G 2)))) ∧ w1 = (hg_w ad cF cI G a dr N bc sp μ)) := by
  refine tg_start (cc := cS_greatestRankBelow) (maxL := 4) (ret := some .int) (by decide) rfl (Nat.le_of_ble_eq_true rfl) ?_
  intro p e R s m args below meth c Q hx hb hml hr hlocks hown hname hts hK hN hR hQ
  have hown : s.vm.findClass "HangGraph$Sweep" = some m.cls := hown
  have hts : ∀ w ∈ lw_g, w.before args s = true := fun w z => hts w (List.mem_cons_of_mem _ z)
  refine tg_iconst (v := nI 0) hx hb dS_greatestRankBelow_0 (by decide +kernel) ?_
  refine tg_istore_n (L' := [(0, .ref (ad 3 0)), (1, .ref (ad 8 f)), (2, .int (nI (0)))]) hx hb dS_greatestRankBelow_1 rfl (by decide) rfl rfl ?_
  refine tg_iconst (v := nI 0) hx hb dS_greatestRankBelow_2 (by decide +kernel) ?_
  refine tg_istore_n (L' := [(0, .ref (ad 3 0)), (1, .ref (ad 8 f)), (2, .int (nI (0))), (3, .int (nI (0)))]) hx hb dS_greatestRankBelow_3 rfl (by decide) rfl rfl ?_
  refine tg_loop (fun i : Nat => i ≤ G 2) (fun i => G 2 - i) (fun i => tg_W p l e R s m args below meth c Q 4 D vwCl F ad ok (hg_w ad cF cI G a dr N bc sp μ) [(0, .ref (ad 3 0)), (1, .ref (ad 8 f)), (2, .int (nI (hg_lm (hg_hk N bc sp f) (N 10) hits i))), (3, .int (nI (i)))] 0 0 4 []) ?_ 0 (Nat.zero_le _)
  intro i hi0 ih
  have hl : hg_lm (hg_hk N bc sp f) (N 10) hits i ≤ 1000 := hg_lm_bd i fun j hj _ => Nat.le_of_lt (hrk _ (hhs j (by omega)).1)
  refine tg_iload_n hx hb dS_greatestRankBelow_4 rfl rfl ?_
  refine tg_aload_n hx hb dS_greatestRankBelow_5 rfl rfl ?_
  refine tg_get (T := TS) (N := 9) hx hb hts inS hown hK (hO.1 3 (by decide)) rfl rfl 3 (by decide) (hts _ wf_S_30) (fun _ z => z) rfl dS_greatestRankBelow_6 ?_
  refine tg_icmp_ge (tgt := 45) hx hb dS_greatestRankBelow_9 (by decide) (fun q_1 => ?_) (fun q_1 => ?_)
  · have q_1' := q_1
    have h_2 : G 2 ≤ i := (nI_leI (by omega) (by omega)).mp q_1
    refine tg_iload_n hx hb dS_greatestRankBelow_45 rfl rfl ?_
    have e9 : i = G 2 := by omega
    subst e9
    exact tg_iret hx hb hlocks hr hQ ⟨rfl, rfl, rfl, rfl⟩ dS_greatestRankBelow_46
  · have q_1' := q_1
    have h_3 : i < G 2 := Nat.lt_of_not_le fun z => q_1 ((nI_leI (by omega) (by omega)).mpr z)
    have hi := hhs i (by omega)
    refine tg_aload_n hx hb dS_greatestRankBelow_12 rfl rfl ?_
    refine tg_aload_n hx hb dS_greatestRankBelow_13 rfl rfl ?_
    refine tg_get (T := TS) (N := 9) hx hb hts inS hown hK (hO.1 3 (by decide)) rfl rfl 2 (by decide) (hts _ wf_S_17) (fun _ z => z) rfl dS_greatestRankBelow_14 ?_
    refine tg_iload_n hx hb dS_greatestRankBelow_17 rfl rfl ?_
    refine tg_aald (t0 := 1) hx hb hK (hO.1 5 (by decide)) rfl rfl (x := i) (by decide) (by omega) dS_greatestRankBelow_18 ?_
    refine tg_st (st' := .ref (ad 8 (hits i)) :: [.ref (ad 8 f)]) (by rw [hi.2]; rfl) ?_
    refine tg_callV (C := "HangGraph$Formula") (As := [.ref (ad 8 (hits i))]) (rest := []) ⟨hx, hb, hml, hown, hts⟩ hK hN hMv (hT f hf).1 rfl rfl rfl (c_hangsOn hO hT f (hits i) hf hi.1 (hNN _ hi.1).1 (hNN _ hi.1).2) (cwV 1 hts (lg_V wm_S_66 wi_F_hangsOn we_F_hangsOn wn_F wc_F_hangsOn) rfl rfl rfl ⟨rfl, by decide, by decide, rfl⟩ ⟨by rw [hR]; exact Nat.le_of_ble_eq_true rfl, by rw [hR]; exact Nat.le_of_ble_eq_true rfl⟩) rfl (Nat.le_of_ble_eq_true rfl) ⟨by rw [hR]; exact Nat.le_of_ble_eq_true rfl, by rw [hR]; exact Nat.le_of_ble_eq_true rfl⟩ rfl dS_greatestRankBelow_19 (tg_kv rfl rfl ?_)
    have hb9 := hg_b_le (hg_hk N bc sp f (hits i))
    refine tg_if_eq (tgt := 39) hx hb dS_greatestRankBelow_22 (by decide) (fun q_4 => ?_) (fun q_4 => ?_)
    · have q_4' := q_4
      rw [← nI_0] at q_4
      have h_5 : hg_b (hg_hk N bc sp f (hits i)) = 0 := (nI_eq (by omega) (by omega)).mp q_4
      refine tg_iinc (v := nI (i + 1)) (L' := [(0, .ref (ad 3 0)), (1, .ref (ad 8 f)), (2, .int (nI (hg_lm (hg_hk N bc sp f) (N 10) hits i))), (3, .int (nI (i + 1)))]) hx hb dS_greatestRankBelow_39 rfl (nI_1 _) (by decide) rfl rfl ?_
      refine tg_goto (tgt := 4) hx hb dS_greatestRankBelow_42 (by decide) ?_
      have e9 : hg_lm (hg_hk N bc sp f) (N 10) hits (i + 1) = hg_lm (hg_hk N bc sp f) (N 10) hits i := hg_lm_f (hg_b0 h_5)
      rw [← e9]
      exact ih (i + 1) (by omega) (by omega)
    · have q_4' := q_4
      rw [← nI_0] at q_4
      have h_6 : hg_b (hg_hk N bc sp f (hits i)) ≠ 0 := fun z => q_4 ((nI_eq (by omega) (by omega)).mpr z)
      have hr9 := hrk _ hi.1
      refine tg_iload_n hx hb dS_greatestRankBelow_25 rfl rfl ?_
      refine tg_aload_n hx hb dS_greatestRankBelow_26 rfl rfl ?_
      refine tg_get (T := TS) (N := 9) hx hb hts inS hown hK (hO.1 3 (by decide)) rfl rfl 2 (by decide) (hts _ wf_S_17) (fun _ z => z) rfl dS_greatestRankBelow_27 ?_
      refine tg_iload_n hx hb dS_greatestRankBelow_30 rfl rfl ?_
      refine tg_aald (t0 := 1) hx hb hK (hO.1 5 (by decide)) rfl rfl (x := i) (by decide) (by omega) dS_greatestRankBelow_31 ?_
      refine tg_st (st' := .ref (ad 8 (hits i)) :: [.int (nI (hg_lm (hg_hk N bc sp f) (N 10) hits i))]) (by rw [hi.2]; rfl) ?_
      refine tg_get (T := TF) (N := 15) hx hb hts inF hown hK (hT (hits i) hi.1).1 rfl rfl 10 (by decide) (hts _ wf_S_108) (fun _ z => z) rfl dS_greatestRankBelow_32 ?_
      refine tg_mmax hx hb hml hown (hts _ wm_S_114) (hts _ wt_java_lang_Math_max) (hts _ wn_java_lang_Math) (hts _ wc_java_lang_Math_max) (by rw [hR]; exact Nat.le_of_ble_eq_true rfl) (by rw [hR]; exact Nat.le_of_ble_eq_true rfl) (Nat.zero_le _) (Nat.zero_le _) dS_greatestRankBelow_35 ?_
      refine tg_top (y := nI (Nat.max (hg_lm (hg_hk N bc sp f) (N 10) hits i) (N 10 (hits i)))) (hg_imax (by omega) (by omega)) ?_
      refine tg_istore_n (L' := [(0, .ref (ad 3 0)), (1, .ref (ad 8 f)), (2, .int (nI (Nat.max (hg_lm (hg_hk N bc sp f) (N 10) hits i) (N 10 (hits i))))), (3, .int (nI (i)))]) hx hb dS_greatestRankBelow_38 rfl (by decide) rfl rfl ?_
      refine tg_iinc (v := nI (i + 1)) (L' := [(0, .ref (ad 3 0)), (1, .ref (ad 8 f)), (2, .int (nI (Nat.max (hg_lm (hg_hk N bc sp f) (N 10) hits i) (N 10 (hits i))))), (3, .int (nI (i + 1)))]) hx hb dS_greatestRankBelow_39 rfl (nI_1 _) (by decide) rfl rfl ?_
      refine tg_goto (tgt := 4) hx hb dS_greatestRankBelow_42 (by decide) ?_
      have e9 : hg_lm (hg_hk N bc sp f) (N 10) hits (i + 1) = Nat.max (hg_lm (hg_hk N bc sp f) (N 10) hits i) (N 10 (hits i)) := hg_lm_t (hg_b1 h_6)
      rw [← e9]
      exact ih (i + 1) (by omega) (by omega)
end HGS2
