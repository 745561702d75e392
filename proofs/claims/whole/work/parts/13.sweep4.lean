/-! the walk, and the ranking of all that are hit -/
section HGS4
variable {l : Launch} {D : va_G} {F : Nat → Prop} {Nn : State → Heap → Prop} {ad : Nat → Nat → Nat} {ok : Nat → Nat → Prop} {cF cI cZ cJ cA cB : ClassId} {G : Nat → Nat} {a : Nat → Nat → Option Nat} {dr : Nat → Int32} {N : Nat → Nat → Nat} {bc : Nat → Int32} {sp : Nat → Nat → Int32} {μ : Nat → Nat → va_E} {T : Nat → Prop}
set_option maxRecDepth 100000 in
set_option maxHeartbeats 4000000 in
/-- the walk from f -/
theorem c_walkFrom (hO : hg_ok ok) (hT : ∀ f, T f → ok 8 f ∧ ok 9 f) (hMv : tg_Mv F Nn) (hB : ∀ j u, N j u < 1000000) (hBG : ∀ k, G k < 1000000) (hits pa op : Nat → Nat) (e9 : Nat → Nat → Prop) (hS : hg_SV T ad a G N bc sp e9 hits) (hD : hg_DV T ad a G N (N 13) e9 hits pa op) (h0 : G 3 = 0) (f : Nat) (hfh : ∃ i, i < G 2 ∧ hits i = f) (hf : T f) (hf14 : N 14 f = 0) : tg_Met l yS_walkFrom wsS_walkFrom ({ frames := 4, cells := 0, slots := 0, locals := 190 }) D vwCl (hg_tys cI cF cZ cJ cA cB) F Nn ad ok (hg_w ad cF cI G a dr N bc sp μ) [.ref (ad 3 0), .ref (ad 8 f)] (tg_po ad ok fun r w1 => r = none ∧ ∃ a' G' N' pa' op', w1 = hg_w ad cF cI G' a' dr N' bc sp μ ∧ hg_WK T ad bc sp e9 hits a G N a' G' N' pa' op' ∧ G' 3 = 0 ∧ N' 14 f ≠ 0) := by
  refine tg_start (cc := cS_walkFrom) (maxL := 5) (ret := none) (by decide) rfl (Nat.le_of_ble_eq_true rfl) ?_
  intro p e R s m args below meth c Q hx hb hml hr hlocks hown hname hts hK hN hR hQ
  have hown : s.vm.findClass "HangGraph$Sweep" = some m.cls := hown
  have hts : ∀ w ∈ lw_g, w.before args s = true := fun w z => hts w (List.mem_cons_of_mem _ z)
  have hf11 : N 11 f = 0 := Decidable.byContradiction fun z => (hD.none h0 f).mp z hf14
  have hE := hD.enter (v := 0) (i := 0) (x := f) (look' := N 13) hf11 hf (hS.2.2.2.2.2 f hf) hfh (Or.inl ⟨h0, rfl⟩)
  have hl0 := hD.last
  have hen : (tg_up (tg_up N 11 f (G 5 + 1)) 12 f (G 5 + 1)) 11 f ≠ 0 ∧ 0 + (va_up (va_up (va_up G 5 (G 5 + 1)) 3 (G 3 + 1)) 4 (G 4 + 1)) 3 + 1 = 2 * ((va_up (va_up (va_up G 5 (G 5 + 1)) 3 (G 3 + 1)) 4 (G 4 + 1)) 5 - G 5) ∧ hg_WK T ad bc sp e9 hits a G N (va_up (va_up a 3 (va_up (a 3) (G 3) (some (ad 8 f)))) 4 (va_up (a 4) (G 4) (some (ad 8 f)))) (va_up (va_up (va_up G 5 (G 5 + 1)) 3 (G 3 + 1)) 4 (G 4 + 1)) (tg_up (tg_up N 11 f (G 5 + 1)) 12 f (G 5 + 1)) (va_up pa (G 3) f) (va_up op (G 4) f) := ⟨by simp [tg_up], by simp [va_up]; omega, hS.to (by rw [hg_oth _ _ _ (by decide), hg_oth _ _ _ (by decide)]) (by rw [hg_oth _ _ _ (by decide), hg_oth _ _ _ (by decide)]) (by simp [va_up]) (by simp [va_up]), by rw [hg_oth _ _ _ (by decide), hg_oth _ _ _ (by decide)]; exact hE.2.2, fun j hj => by rw [hg_oth _ _ _ (by omega), hg_oth _ _ _ (by omega)], ⟨by simp [va_up], by simp [va_up], by simp [va_up]⟩, ⟨by simp [va_up], by simp [va_up], by simp [va_up]⟩, fun j u => by unfold tg_up; (repeat' split) <;> first | omega | exact hB _ _, fun q => by unfold va_up; (repeat' split) <;> first | omega | exact hBG q, fun u z => by rw [hg_oth _ _ _ (by decide), hg_oth _ _ _ (by decide)]; exact z, by simp [va_up]⟩
  refine tg_aload_n hx hb dS_walkFrom_0 rfl rfl ?_
  refine tg_aload_n hx hb dS_walkFrom_1 rfl rfl ?_
  refine tg_callV (C := "HangGraph$Sweep") (As := [.ref (ad 8 f)]) (rest := []) ⟨hx, hb, hml, hown, hts⟩ hK hN hMv (hO.1 3 (by decide)) rfl rfl rfl (c_enter hO hT f hf hE.1 hE.2.1) (cwV 1 hts (lg_V wm_S_76 wi_S_enter we_S_enter wn_S wc_S_enter) rfl rfl rfl ⟨rfl, by decide, by decide, rfl⟩ ⟨by rw [hR]; exact Nat.le_of_ble_eq_true rfl, by rw [hR]; exact Nat.le_of_ble_eq_true rfl⟩) rfl (Nat.le_of_ble_eq_true rfl) ⟨by rw [hR]; exact Nat.le_of_ble_eq_true rfl, by rw [hR]; exact Nat.le_of_ble_eq_true rfl⟩ rfl dS_walkFrom_2 (tg_kn rfl rfl ?_)
  refine tg_iconst (v := nI 0) hx hb dS_walkFrom_5 (by decide +kernel) ?_
  refine tg_istore_n (L' := [(0, .ref (ad 3 0)), (1, .ref (ad 8 f)), (2, .int (nI (0)))]) hx hb dS_walkFrom_6 rfl (by decide) rfl rfl ?_
  refine tg_loop (fun x : Nat × (Nat → Nat) × (Nat → Nat → Option Nat) × (Nat → Nat → Nat) × (Nat → Nat) × (Nat → Nat) => hg_WK T ad bc sp e9 hits a G N x.2.2.1 x.2.1 x.2.2.2.1 x.2.2.2.2.1 x.2.2.2.2.2 ∧ x.2.2.2.1 11 f ≠ 0 ∧ x.1 + x.2.1 3 + 1 = 2 * (x.2.1 5 - G 5)) (fun x => 800 - x.1) (fun x => tg_W p l e R s m args below meth c Q 5 D vwCl F ad ok (hg_w ad cF cI x.2.1 x.2.2.1 dr x.2.2.2.1 bc sp μ) [(0, .ref (ad 3 0)), (1, .ref (ad 8 f)), (2, .int (nI (x.1)))] 0 0 7 []) ?_ (0, _, _, _, _, _) ⟨hen.2.2, hen.1, hen.2.1⟩
  intro ⟨k, G1, a1, N1, pa1, op1⟩ ⟨hWK, hst1, hstep⟩ ih
  dsimp only at hWK hst1 hstep ih ⊢
  have hWK' := hWK
  obtain ⟨hS1, hD1, hN1, hG1, ha1, hB1, hBG1, hm1, hl1⟩ := hWK
  have hl9 := hD1.last
  have hG3 := hD1.1.1
  have hb_5 := hBG1 5
  refine tg_iload_n hx hb dS_walkFrom_7 rfl rfl ?_
  refine tg_sipush (v := nI 800) hx hb dS_walkFrom_8 (by decide +kernel) ?_
  refine tg_icmp_ge (tgt := 65) hx hb dS_walkFrom_11 (by decide) (fun q_1 => ?_) (fun q_1 => ?_)
  · have q_1' := q_1
    have h_2 : 800 ≤ k := (nI_leI (by omega) (by omega)).mp q_1
    omega
  · have q_1' := q_1
    have h_3 : k < 800 := Nat.lt_of_not_le fun z => q_1 ((nI_leI (by omega) (by omega)).mpr z)
    refine tg_aload_n hx hb dS_walkFrom_14 rfl rfl ?_
    refine tg_get (T := TS) (N := 9) hx hb hts inS hown hK (hO.1 3 (by decide)) rfl rfl 5 (by decide) (hts _ wf_S_33) (fun _ z => z) rfl dS_walkFrom_15 ?_
    have hb_4 := hBG1 3
    refine tg_if_le (tgt := 65) hx hb dS_walkFrom_18 (by decide) (fun q_5 => ?_) (fun q_5 => ?_)
    · have q_5' := q_5
      rw [← nI_0] at q_5
      have h_6 : G1 3 ≤ 0 := (nI_leI (by omega) (by omega)).mp q_5
      have h30 : G1 3 = 0 := by omega
      exact tg_vret hx hb hlocks hr hQ ⟨rfl, rfl, rfl, a1, G1, N1, pa1, op1, rfl, hWK', h30, (hD1.none h30 f).mp hst1⟩ dS_walkFrom_65
    · have q_5' := q_5
      rw [← nI_0] at q_5
      have h_7 : 0 < G1 3 := Nat.lt_of_not_le fun z => q_5 ((nI_leI (by omega) (by omega)).mpr z)
      refine tg_aload_n hx hb dS_walkFrom_21 rfl rfl ?_
      refine tg_get (T := TS) (N := 9) hx hb hts inS hown hK (hO.1 3 (by decide)) rfl rfl 4 (by decide) (hts _ wf_S_20) (fun _ z => z) rfl dS_walkFrom_22 ?_
      refine tg_aload_n hx hb dS_walkFrom_25 rfl rfl ?_
      refine tg_get (T := TS) (N := 9) hx hb hts inS hown hK (hO.1 3 (by decide)) rfl rfl 5 (by decide) (hts _ wf_S_33) (fun _ z => z) rfl dS_walkFrom_26 ?_
      have hb_8 := hBG1 3
      refine tg_iconst (v := nI 1) hx hb dS_walkFrom_29 (by decide +kernel) ?_
      refine tg_isub hx hb dS_walkFrom_30 ?_
      refine tg_top (y := nI ((G1 3) - (1))) (pk_sub (by omega)) ?_
      refine tg_aald (t0 := 1) hx hb hK (hO.1 6 (by decide)) rfl rfl (x := (G1 3) - (1)) (by decide) (by omega) dS_walkFrom_31 ?_
      refine tg_st (st' := .ref (ad 8 (pa1 (G1 3 - 1))) :: []) (by rw [(hD1.1.2 (G1 3 - 1) (by omega)).2]; rfl) ?_
      refine tg_astore_n (L' := [(0, .ref (ad 3 0)), (1, .ref (ad 8 f)), (2, .int (nI (k))), (3, .ref (ad 8 (pa1 (G1 3 - 1))))]) hx hb dS_walkFrom_32 rfl (by decide) rfl rfl ?_
      refine tg_aload_n hx hb dS_walkFrom_33 rfl rfl ?_
      refine tg_aload_n hx hb dS_walkFrom_34 rfl rfl ?_
      have h03 : 0 < G1 3 := by omega
      refine tg_callV (C := "HangGraph$Sweep") (As := [.ref (ad 8 (pa1 (G1 3 - 1)))]) (rest := []) ⟨hx, hb, hml, hown, hts⟩ hK hN hMv (hO.1 3 (by decide)) rfl rfl rfl (c_nextBelow hO hT hMv hB1 hBG1 hits pa1 op1 e9 hS1 hD1 h03 (pa1 (G1 3 - 1)) rfl) (cwV 1 hts (lg_V wm_S_79 wi_S_nextBelow we_S_nextBelow wn_S wc_S_nextBelow) rfl rfl rfl ⟨rfl, by decide, by decide, rfl⟩ ⟨by rw [hR]; exact Nat.le_of_ble_eq_true rfl, by rw [hR]; exact Nat.le_of_ble_eq_true rfl⟩) rfl (Nat.le_of_ble_eq_true rfl) ⟨by rw [hR]; exact Nat.le_of_ble_eq_true rfl, by rw [hR]; exact Nat.le_of_ble_eq_true rfl⟩ rfl dS_walkFrom_35 (tg_kk rfl rfl ?_)
      intro r w1 ⟨N2, hw1, hk2, hB2, hcase⟩
      rw [hw1]
      have hS2 : hg_SV T ad a1 G1 N2 bc sp e9 hits := hS1.to (hk2 1 (by decide) (by decide)) (hk2 3 (by decide) (by decide)) rfl rfl
      rcases hcase with ⟨hr1, hD2, hlk⟩ | ⟨i, hi1, hr1, hi3, hi4, hi5, hD2⟩
      · rw [hr1]
        refine tg_st (st' := [.null]) rfl ?_
        refine tg_astoreN (L' := [(0, .ref (ad 3 0)), (1, .ref (ad 8 f)), (2, .int (nI (k))), (3, .ref (ad 8 (pa1 (G1 3 - 1)))), (4, .null)]) hx hb dS_walkFrom_38 (by decide) rfl rfl ?_
        refine tg_aloadN hx hb dS_walkFrom_40 rfl ?_
        refine tg_ifnonnullN hx hb dS_walkFrom_42 ?_
        refine tg_aload_n hx hb dS_walkFrom_45 rfl rfl ?_
        refine tg_aload_n hx hb dS_walkFrom_46 rfl rfl ?_
        refine tg_callV (C := "HangGraph$Sweep") (As := [.ref (ad 8 (pa1 (G1 3 - 1)))]) (rest := []) ⟨hx, hb, hml, hown, hts⟩ hK hN hMv (hO.1 3 (by decide)) rfl rfl rfl (c_leave hO hT hMv hB2 hBG1 hits pa1 op1 e9 hS2 hD2 h03 (pa1 (G1 3 - 1)) rfl hlk) (cwV 1 hts (lg_V wm_S_83 wi_S_leave we_S_leave wn_S wc_S_leave) rfl rfl rfl ⟨rfl, by decide, by decide, rfl⟩ ⟨by rw [hR]; exact Nat.le_of_ble_eq_true rfl, by rw [hR]; exact Nat.le_of_ble_eq_true rfl⟩) rfl (Nat.le_of_ble_eq_true rfl) ⟨by rw [hR]; exact Nat.le_of_ble_eq_true rfl, by rw [hR]; exact Nat.le_of_ble_eq_true rfl⟩ rfl dS_walkFrom_47 (tg_kk rfl rfl ?_)
        intro r w1 ⟨hr2, G2_, N3, hw2, hk3, hg0, hg1, hg2, hg3, hg5, hB3, hBG3, hm3, hD3⟩
        rw [hr2, hw2]
        refine tg_st (st' := []) rfl ?_
        refine tg_goto (tgt := 59) hx hb dS_walkFrom_50 (by decide) ?_
        refine tg_iinc (v := nI (k + 1)) (L' := [(0, .ref (ad 3 0)), (1, .ref (ad 8 f)), (2, .int (nI (k + 1))), (3, .ref (ad 8 (pa1 (G1 3 - 1)))), (4, .null)]) hx hb dS_walkFrom_59 rfl (nI_1 _) (by decide) rfl rfl ?_
        refine tg_goto (tgt := 7) hx hb dS_walkFrom_62 (by decide) ?_
        refine tg_sub (L' := [(0, .ref (ad 3 0)), (1, .ref (ad 8 f)), (2, .int (nI (k + 1)))]) (fun q hq => (List.mem_append_left [(3, .ref (ad 8 (pa1 (G1 3 - 1)))), (4, .null)] hq : q ∈ [(0, .ref (ad 3 0)), (1, .ref (ad 8 f)), (2, .int (nI (k + 1)))] ++ [(3, .ref (ad 8 (pa1 (G1 3 - 1)))), (4, .null)])) ?_
        refine ih (k + 1, G2_, a1, N3, pa1, op1) ?_ (by dsimp only; omega)
        dsimp only
        exact ⟨⟨hS2.to (hk3 1 (by decide) (by decide) (by decide) (by decide)) (hk3 3 (by decide) (by decide) (by decide) (by decide)) rfl hg2, hD3, fun j hj => by rw [hk3 j (by omega) (by omega) (by omega) (by omega), hk2 j (by omega) (by omega)]; exact hN1 j hj, ⟨hg0.trans hG1.1, hg1.trans hG1.2.1, hg2.trans hG1.2.2⟩, ha1, hB3, hBG3, fun u z => hm3 u (by rw [hk2 14 (by decide) (by decide)]; exact hm1 u z), by omega⟩, by rw [hk3 11 (by decide) (by decide) (by decide) (by decide), hk2 11 (by decide) (by decide)]; exact hst1, by omega⟩
      · rw [hr1]
        have hiT := (hS1.2.2.1 i hi1)
        refine tg_st (st' := [.ref (ad 8 (hits i))]) rfl ?_
        refine tg_astore (L' := [(0, .ref (ad 3 0)), (1, .ref (ad 8 f)), (2, .int (nI (k))), (3, .ref (ad 8 (pa1 (G1 3 - 1)))), (4, .ref (ad 8 (hits i)))]) hx hb dS_walkFrom_38 (by decide) rfl rfl ?_
        refine tg_aload hx hb dS_walkFrom_40 rfl ?_
        refine tg_ifnonnull (tgt := 53) hx hb dS_walkFrom_42 (by decide) ?_
        refine tg_aload_n hx hb dS_walkFrom_53 rfl rfl ?_
        refine tg_aload hx hb dS_walkFrom_54 rfl ?_
        have hE := hD2.enter (v := pa1 (G1 3 - 1)) (i := i) (x := hits i) (look' := va_up (N1 13) (pa1 (G1 3 - 1)) (i + 1)) hi3 hiT.1 (hS1.2.2.2.2.2 _ hiT.1) ⟨i, hi1, rfl⟩ (Or.inr ⟨h03, rfl, va_up_self _ _ _, rfl, hi1, hi4, (bx_uu _ _ _ _).symm⟩)
        refine tg_callV (C := "HangGraph$Sweep") (As := [.ref (ad 8 (hits i))]) (rest := []) ⟨hx, hb, hml, hown, hts⟩ hK hN hMv (hO.1 3 (by decide)) rfl rfl rfl (c_enter hO hT (hits i) hiT.1 hE.1 hE.2.1) (cwV 1 hts (lg_V wm_S_76 wi_S_enter we_S_enter wn_S wc_S_enter) rfl rfl rfl ⟨rfl, by decide, by decide, rfl⟩ ⟨by rw [hR]; exact Nat.le_of_ble_eq_true rfl, by rw [hR]; exact Nat.le_of_ble_eq_true rfl⟩) rfl (Nat.le_of_ble_eq_true rfl) ⟨by rw [hR]; exact Nat.le_of_ble_eq_true rfl, by rw [hR]; exact Nat.le_of_ble_eq_true rfl⟩ rfl dS_walkFrom_56 (tg_kn rfl rfl ?_)
        refine tg_iinc (v := nI (k + 1)) (L' := [(0, .ref (ad 3 0)), (1, .ref (ad 8 f)), (2, .int (nI (k + 1))), (3, .ref (ad 8 (pa1 (G1 3 - 1)))), (4, .ref (ad 8 (hits i)))]) hx hb dS_walkFrom_59 rfl (nI_1 _) (by decide) rfl rfl ?_
        refine tg_goto (tgt := 7) hx hb dS_walkFrom_62 (by decide) ?_
        refine tg_sub (L' := [(0, .ref (ad 3 0)), (1, .ref (ad 8 f)), (2, .int (nI (k + 1)))]) (fun q hq => (List.mem_append_left [(3, .ref (ad 8 (pa1 (G1 3 - 1)))), (4, .ref (ad 8 (hits i)))] hq : q ∈ [(0, .ref (ad 3 0)), (1, .ref (ad 8 f)), (2, .int (nI (k + 1)))] ++ [(3, .ref (ad 8 (pa1 (G1 3 - 1)))), (4, .ref (ad 8 (hits i)))])) ?_
        refine ih (k + 1, (va_up (va_up (va_up G1 5 (G1 5 + 1)) 3 (G1 3 + 1)) 4 (G1 4 + 1)), (va_up (va_up a1 3 (va_up (a1 3) (G1 3) (some (ad 8 (hits i))))) 4 (va_up (a1 4) (G1 4) (some (ad 8 (hits i))))), (tg_up (tg_up N2 11 (hits i) (G1 5 + 1)) 12 (hits i) (G1 5 + 1)), va_up pa1 (G1 3) (hits i), va_up op1 (G1 4) (hits i)) ?_ (by dsimp only; omega)
        dsimp only
        exact ⟨⟨hS2.to (by rw [hg_oth _ _ _ (by decide), hg_oth _ _ _ (by decide)]) (by rw [hg_oth _ _ _ (by decide), hg_oth _ _ _ (by decide)]) (by simp [va_up]) (by simp [va_up]), by rw [hg_oth _ _ _ (by decide), hg_oth _ _ _ (by decide), hi5]; exact hE.2.2, fun j hj => by rw [hg_oth _ _ _ (by omega), hg_oth _ _ _ (by omega), hk2 j (by omega) (by omega)]; exact hN1 j hj, ⟨by simp [va_up, hG1.1], by simp [va_up, hG1.2.1], by simp [va_up, hG1.2.2]⟩, ⟨by simp [va_up, ha1.1], by simp [va_up, ha1.2.1], by simp [va_up, ha1.2.2]⟩, fun j u => by unfold tg_up; (repeat' split) <;> first | omega | exact hB2 _ _, fun q => by unfold va_up; (repeat' split) <;> first | omega | exact hBG1 q, fun u z => by rw [hg_oth _ _ _ (by decide), hg_oth _ _ _ (by decide), hk2 14 (by decide) (by decide)]; exact hm1 u z, by simp [va_up]; omega⟩, by rw [hg_oth _ _ _ (by decide), hg_col]; unfold va_up; split; omega; rw [hk2 11 (by decide) (by decide)]; exact hst1, by simp [va_up]; omega⟩
set_option maxRecDepth 100000 in
set_option maxHeartbeats 4000000 in
/-- all that are hit get round and rank -/
theorem c_rankHit (hO : hg_ok ok) (hT : ∀ f, T f → ok 8 f ∧ ok 9 f) (hMv : tg_Mv F Nn) (hB : ∀ j u, N j u < 1000000) (hBG : ∀ k, G k < 1000000) (hits pa op : Nat → Nat) (e9 : Nat → Nat → Prop) (hS : hg_SV T ad a G N bc sp e9 hits) (hD : hg_DV T ad a G N (N 13) e9 hits pa op) (h0 : G 3 = 0) : tg_Met l yS_rankHit wsS_rankHit ({ frames := 5, cells := 0, slots := 0, locals := 240 }) D vwCl (hg_tys cI cF cZ cJ cA cB) F Nn ad ok (hg_w ad cF cI G a dr N bc sp μ) [.ref (ad 3 0)] (tg_po ad ok fun r w1 => r = none ∧ ∃ a' G' N' pa' op', w1 = hg_w ad cF cI G' a' dr N' bc sp μ ∧ hg_WK T ad bc sp e9 hits a G N a' G' N' pa' op' ∧ G' 3 = 0 ∧ ∀ j, j < G 2 → N' 14 (hits j) ≠ 0) := by
  refine tg_start (cc := cS_rankHit) (maxL := 2) (ret := none) (by decide) rfl (Nat.le_of_ble_eq_true rfl) ?_
  intro p e R s m args below meth c Q hx hb hml hr hlocks hown hname hts hK hN hR hQ
  have hown : s.vm.findClass "HangGraph$Sweep" = some m.cls := hown
  have hts : ∀ w ∈ lw_g, w.before args s = true := fun w z => hts w (List.mem_cons_of_mem _ z)
  refine tg_iconst (v := nI 0) hx hb dS_rankHit_0 (by decide +kernel) ?_
  refine tg_istore_n (L' := [(0, .ref (ad 3 0)), (1, .int (nI (0)))]) hx hb dS_rankHit_1 rfl (by decide) rfl rfl ?_
  refine tg_loop (fun x : Nat × (Nat → Nat) × (Nat → Nat → Option Nat) × (Nat → Nat → Nat) × (Nat → Nat) × (Nat → Nat) => hg_WK T ad bc sp e9 hits a G N x.2.2.1 x.2.1 x.2.2.2.1 x.2.2.2.2.1 x.2.2.2.2.2 ∧ x.2.1 3 = 0 ∧ x.1 ≤ G 2 ∧ ∀ j, j < x.1 → x.2.2.2.1 14 (hits j) ≠ 0) (fun x => G 2 - x.1) (fun x => tg_W p l e R s m args below meth c Q 2 D vwCl F ad ok (hg_w ad cF cI x.2.1 x.2.2.1 dr x.2.2.2.1 bc sp μ) [(0, .ref (ad 3 0)), (1, .int (nI (x.1)))] 0 0 2 []) ?_ (0, G, a, N, pa, op) ⟨⟨hS, hD, fun _ _ => rfl, ⟨rfl, rfl, rfl⟩, ⟨rfl, rfl, rfl⟩, hB, hBG, fun _ z => z, Nat.le_refl _⟩, h0, Nat.zero_le _, fun j hj => absurd hj (Nat.not_lt_zero _)⟩
  intro ⟨i, G1, a1, N1, pa1, op1⟩ ⟨hWK, h30, hi0, hall⟩ ih
  dsimp only at hWK h30 hi0 hall ih ⊢
  have hWK' := hWK
  obtain ⟨hS1, hD1, hN1, hG1, ha1, hB1, hBG1, hm1, hl1⟩ := hWK
  have hG2 := hS1.2.1
  refine tg_iload_n hx hb dS_rankHit_2 rfl rfl ?_
  refine tg_aload_n hx hb dS_rankHit_3 rfl rfl ?_
  refine tg_get (T := TS) (N := 9) hx hb hts inS hown hK (hO.1 3 (by decide)) rfl rfl 3 (by decide) (hts _ wf_S_30) (fun _ z => z) rfl dS_rankHit_4 ?_
  have hb_1 := hBG1 2
  refine tg_icmp_ge (tgt := 38) hx hb dS_rankHit_7 (by decide) (fun q_2 => ?_) (fun q_2 => ?_)
  · have q_2' := q_2
    have h_3 : G1 2 ≤ i := (nI_leI (by omega) (by omega)).mp q_2
    have hG12 := hG1.2.2
    exact tg_vret hx hb hlocks hr hQ ⟨rfl, rfl, rfl, a1, G1, N1, pa1, op1, rfl, hWK', h30, fun j hj => hall j (by omega)⟩ dS_rankHit_38
  · have q_2' := q_2
    have h_4 : i < G1 2 := Nat.lt_of_not_le fun z => q_2 ((nI_leI (by omega) (by omega)).mpr z)
    have hi := hS1.2.2.1 i (by omega)
    refine tg_aload_n hx hb dS_rankHit_10 rfl rfl ?_
    refine tg_get (T := TS) (N := 9) hx hb hts inS hown hK (hO.1 3 (by decide)) rfl rfl 2 (by decide) (hts _ wf_S_17) (fun _ z => z) rfl dS_rankHit_11 ?_
    refine tg_iload_n hx hb dS_rankHit_14 rfl rfl ?_
    refine tg_aald (t0 := 1) hx hb hK (hO.1 5 (by decide)) rfl rfl (x := i) (by decide) (by omega) dS_rankHit_15 ?_
    refine tg_st (st' := .ref (ad 8 (hits i)) :: []) (by rw [hi.2]; rfl) ?_
    refine tg_get (T := TF) (N := 15) hx hb hts inF hown hK (hT (hits i) hi.1).1 rfl rfl 14 (by decide) (hts _ wf_S_70) (fun _ z => z) rfl dS_rankHit_16 ?_
    have hb_5 := hB1 14 (hits i)
    refine tg_if_ne (tgt := 32) hx hb dS_rankHit_19 (by decide) (fun q_6 => ?_) (fun q_6 => ?_)
    · have q_6' := q_6
      rw [← nI_0] at q_6
      have h_7 : N1 14 (hits i) ≠ 0 := fun z => q_6 ((nI_eq (by omega) (by omega)).mpr z)
      refine tg_iinc (v := nI (i + 1)) (L' := [(0, .ref (ad 3 0)), (1, .int (nI (i + 1)))]) hx hb dS_rankHit_32 rfl (nI_1 _) (by decide) rfl rfl ?_
      refine tg_goto (tgt := 2) hx hb dS_rankHit_35 (by decide) ?_
      exact ih (i + 1, G1, a1, N1, pa1, op1) ⟨hWK', h30, by dsimp only; omega, lt_s hall h_7⟩ (by dsimp only; omega)
    · have q_6' := q_6
      rw [← nI_0] at q_6
      have h_8 : N1 14 (hits i) = 0 := (nI_eq (by omega) (by omega)).mp q_6
      refine tg_aload_n hx hb dS_rankHit_22 rfl rfl ?_
      refine tg_aload_n hx hb dS_rankHit_23 rfl rfl ?_
      refine tg_get (T := TS) (N := 9) hx hb hts inS hown hK (hO.1 3 (by decide)) rfl rfl 2 (by decide) (hts _ wf_S_17) (fun _ z => z) rfl dS_rankHit_24 ?_
      refine tg_iload_n hx hb dS_rankHit_27 rfl rfl ?_
      refine tg_aald (t0 := 1) hx hb hK (hO.1 5 (by decide)) rfl rfl (x := i) (by decide) (by omega) dS_rankHit_28 ?_
      refine tg_st (st' := .ref (ad 8 (hits i)) :: [.ref (ad 3 0)]) (by rw [hi.2]; rfl) ?_
      refine tg_callV (C := "HangGraph$Sweep") (As := [.ref (ad 8 (hits i))]) (rest := []) ⟨hx, hb, hml, hown, hts⟩ hK hN hMv (hO.1 3 (by decide)) rfl rfl rfl (c_walkFrom hO hT hMv hB1 hBG1 hits pa1 op1 e9 hS1 hD1 h30 (hits i) ⟨i, by omega, rfl⟩ hi.1 (by omega)) (cwV 1 hts (lg_V wm_S_73 wi_S_walkFrom we_S_walkFrom wn_S wc_S_walkFrom) rfl rfl rfl ⟨rfl, by decide, by decide, rfl⟩ ⟨by rw [hR]; exact Nat.le_of_ble_eq_true rfl, by rw [hR]; exact Nat.le_of_ble_eq_true rfl⟩) rfl (Nat.le_of_ble_eq_true rfl) ⟨by rw [hR]; exact Nat.le_of_ble_eq_true rfl, by rw [hR]; exact Nat.le_of_ble_eq_true rfl⟩ rfl dS_rankHit_29 (tg_kk rfl rfl ?_)
      intro r w1 ⟨hr2, a2, G2_, N2, pa2, op2, hw2, hWK2', h32, hs2⟩
      rw [hr2, hw2]
      refine tg_st (st' := []) rfl ?_
      have hWK2 : hg_WK T ad bc sp e9 hits a G N a2 G2_ N2 pa2 op2 := by obtain ⟨w1, w2, w3, w4, w5, w6, w7, w8, w9⟩ := hWK2'; exact ⟨w1, w2, fun j hj => (w3 j hj).trans (hN1 j hj), ⟨w4.1.trans hG1.1, w4.2.1.trans hG1.2.1, w4.2.2.trans hG1.2.2⟩, ⟨w5.1.trans ha1.1, w5.2.1.trans ha1.2.1, w5.2.2.trans ha1.2.2⟩, w6, w7, fun u z => w8 u (hm1 u z), Nat.le_trans hl1 w9⟩
      refine tg_iinc (v := nI (i + 1)) (L' := [(0, .ref (ad 3 0)), (1, .int (nI (i + 1)))]) hx hb dS_rankHit_32 rfl (nI_1 _) (by decide) rfl rfl ?_
      refine tg_goto (tgt := 2) hx hb dS_rankHit_35 (by decide) ?_
      exact ih (i + 1, G2_, a2, N2, pa2, op2) ⟨hWK2, h32, by dsimp only; omega, lt_s (fun j hj => hWK2'.2.2.2.2.2.2.2.1 _ (hall j hj)) hs2⟩ (by dsimp only; omega)
end HGS4
