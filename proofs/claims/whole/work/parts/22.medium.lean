/-! the reference's put, speaks and speak -/
section MOC
variable {l : Launch} {D : va_G} {F : Nat → Prop} {Nn : State → Heap → Prop} {ad : Nat → Nat → Nat} {ok : Nat → Nat → Prop} {cF cI cZ cJ cA cB : ClassId} {M : Nat → Nat → Nat} {B : Nat → Nat → Nat → Nat} {μ : Nat → Nat → va_E}
set_option maxRecDepth 100000 in
set_option maxHeartbeats 4000000 in
/-- off the grid -/
theorem c_mPut1 (hO : mo_ok ok) (hMv : tg_Mv F Nn) (p9 q9 h9 v9 : Int32) (hbad : mo_bad p9 q9 h9 v9) : tg_Met l yM_put wsM_put ({ frames := 1, cells := 0, slots := 0, locals := 40 }) D vwCl (hg_tys cI cF cZ cJ cA cB) F Nn ad ok (mo_w ad cI cZ cA cB M B μ) [.ref (ad 11 0), .int (p9), .int (q9), .int (h9), .int (v9)] (tg_po ad ok fun r w1 => r = some (.int (nI 0)) ∧ w1 = (mo_w ad cI cZ cA cB (tg_up (tg_up M 11 0 0) 11 0 1) B μ)) := by
  refine tg_start (cc := cM_put) (maxL := 7) (ret := some .int) (by decide) rfl (Nat.le_of_ble_eq_true rfl) ?_
  intro p e R s m args below meth c Q hx hb hml hr hlocks hown hname hts hK hN hR hQ
  have hown : s.vm.findClass "HangGraphModel" = some m.cls := hown
  have hts : ∀ w ∈ lw_g, w.before args s = true := fun w z => hts w (List.mem_cons_of_mem _ z)
  refine tg_aload_n hx hb dM_put_0 rfl rfl ?_
  refine tg_iconst (v := nI 0) hx hb dM_put_1 (by decide +kernel) ?_
  refine tg_put (T := TM) (N := 13) (ty := .int) hx hb hts inM tyM tyM_ok nmM hown hK (hO.1 11 (by decide) (by decide) (by decide) (by decide)) rfl rfl 0 (by decide) (hts _ wf_M_51) (fun _ z => z) rfl (by decide +kernel) rfl rfl (Nat.le_of_ble_eq_true rfl) dM_put_2 ?_
  refine tg_wp (mo_w_11 hO 0) ?_
  refine tg_aload_n hx hb dM_put_5 rfl rfl ?_
  refine tg_iload_n hx hb dM_put_6 rfl rfl ?_
  refine tg_iload_n hx hb dM_put_7 rfl rfl ?_
  refine tg_iload_n hx hb dM_put_8 rfl rfl ?_
  refine tg_iload hx hb dM_put_9 rfl ?_
  refine tg_callV (C := "HangGraphModel") (As := [.int (p9), .int (q9), .int (h9), .int (v9)]) (rest := []) ⟨hx, hb, hml, hown, hts⟩ hK hN hMv (hO.1 11 (by decide) (by decide) (by decide) (by decide)) rfl rfl rfl (c_mOut4 hO p9 q9 h9 v9) (cwV 4 hts (lg_V wm_M_55 wi_M_out4 we_M_out4 wn_M wc_M_out4) rfl rfl rfl ⟨rfl, by decide, by decide, rfl⟩ ⟨by rw [hR]; exact Nat.le_of_ble_eq_true rfl, by rw [hR]; exact Nat.le_of_ble_eq_true rfl⟩) rfl (Nat.le_of_ble_eq_true rfl) ⟨by rw [hR]; exact Nat.le_of_ble_eq_true rfl, by rw [hR]; exact Nat.le_of_ble_eq_true rfl⟩ rfl dM_put_11 (tg_kv rfl rfl ?_)
  have hb_1 := hg_b_le (mo_bad p9 q9 h9 v9)
  refine tg_if_eq (tgt := 23) hx hb dM_put_14 (by decide) (fun q_2 => ?_) (fun q_2 => ?_)
  · have q_2' := q_2
    rw [← nI_0] at q_2
    have h_3 : hg_b (mo_bad p9 q9 h9 v9) = 0 := (nI_eq (by omega) (by omega)).mp q_2
    exact absurd hbad (hg_b0 h_3)
  · have q_2' := q_2
    rw [← nI_0] at q_2
    have h_4 : hg_b (mo_bad p9 q9 h9 v9) ≠ 0 := fun z => q_2 ((nI_eq (by omega) (by omega)).mpr z)
    refine tg_aload_n hx hb dM_put_17 rfl rfl ?_
    refine tg_iconst (v := nI 1) hx hb dM_put_18 (by decide +kernel) ?_
    refine tg_callV (C := "HangGraphModel") (As := [.int (nI (1))]) (rest := []) ⟨hx, hb, hml, hown, hts⟩ hK hN hMv (hO.1 11 (by decide) (by decide) (by decide) (by decide)) rfl rfl rfl (c_mFail hO 1) (cwV 1 hts (lg_V wm_M_59 wi_M_fail we_M_fail wn_M wc_M_fail) rfl rfl rfl ⟨rfl, by decide, by decide, rfl⟩ ⟨by rw [hR]; exact Nat.le_of_ble_eq_true rfl, by rw [hR]; exact Nat.le_of_ble_eq_true rfl⟩) rfl (Nat.le_of_ble_eq_true rfl) ⟨by rw [hR]; exact Nat.le_of_ble_eq_true rfl, by rw [hR]; exact Nat.le_of_ble_eq_true rfl⟩ rfl dM_put_19 (tg_kv rfl rfl ?_)
    exact tg_iret hx hb hlocks hr hQ ⟨rfl, rfl, rfl, rfl⟩ dM_put_22
set_option maxRecDepth 100000 in
set_option maxHeartbeats 4000000 in
/-- blocks would overlap -/
theorem c_mPut2 (hO : mo_ok ok) (hMv : tg_Mv F Nn) (hB : ∀ j u, M j u < 1000000) (x y : Nat) (hx9 : x < 20) (hy9 : y < 20) (h v : Nat) (hh1 : 1 ≤ h) (hh2 : h ≤ 20 - x) (hv1 : 1 ≤ v) (hv2 : v ≤ 20 - y) (hbad : ¬ (∀ i j, x ≤ i → i < x + h → y ≤ j → j < y + v → ∀ g, g < 400 → ¬ mo_in M g (20 * i + j))) : tg_Met l yM_put wsM_put ({ frames := 1, cells := 0, slots := 0, locals := 40 }) D vwCl (hg_tys cI cF cZ cJ cA cB) F Nn ad ok (mo_w ad cI cZ cA cB M B μ) [.ref (ad 11 0), .int (nI (x)), .int (nI (y)), .int (nI (h)), .int (nI (v))] (tg_po ad ok fun r w1 => r = some (.int (nI 0)) ∧ w1 = (mo_w ad cI cZ cA cB (tg_up (tg_up M 11 0 0) 11 0 2) B μ)) := by
  refine tg_start (cc := cM_put) (maxL := 7) (ret := some .int) (by decide) rfl (Nat.le_of_ble_eq_true rfl) ?_
  intro p e R s m args below meth c Q hx hb hml hr hlocks hown hname hts hK hN hR hQ
  have hown : s.vm.findClass "HangGraphModel" = some m.cls := hown
  have hts : ∀ w ∈ lw_g, w.before args s = true := fun w z => hts w (List.mem_cons_of_mem _ z)
  have hnb : ¬ mo_bad (nI x) (nI y) (nI h) (nI v) := mo_ok1 hx9 hy9 hh1 hh2 hv1 hv2
  have hB0 : ∀ j u, (tg_up M 11 0 0) j u < 1000000 := mo_b0 hB (by decide)
  refine tg_aload_n hx hb dM_put_0 rfl rfl ?_
  refine tg_iconst (v := nI 0) hx hb dM_put_1 (by decide +kernel) ?_
  refine tg_put (T := TM) (N := 13) (ty := .int) hx hb hts inM tyM tyM_ok nmM hown hK (hO.1 11 (by decide) (by decide) (by decide) (by decide)) rfl rfl 0 (by decide) (hts _ wf_M_51) (fun _ z => z) rfl (by decide +kernel) rfl rfl (Nat.le_of_ble_eq_true rfl) dM_put_2 ?_
  refine tg_wp (mo_w_11 hO 0) ?_
  refine tg_aload_n hx hb dM_put_5 rfl rfl ?_
  refine tg_iload_n hx hb dM_put_6 rfl rfl ?_
  refine tg_iload_n hx hb dM_put_7 rfl rfl ?_
  refine tg_iload_n hx hb dM_put_8 rfl rfl ?_
  refine tg_iload hx hb dM_put_9 rfl ?_
  refine tg_callV (C := "HangGraphModel") (As := [.int (nI (x)), .int (nI (y)), .int (nI (h)), .int (nI (v))]) (rest := []) ⟨hx, hb, hml, hown, hts⟩ hK hN hMv (hO.1 11 (by decide) (by decide) (by decide) (by decide)) rfl rfl rfl (c_mOut4 hO (nI x) (nI y) (nI h) (nI v)) (cwV 4 hts (lg_V wm_M_55 wi_M_out4 we_M_out4 wn_M wc_M_out4) rfl rfl rfl ⟨rfl, by decide, by decide, rfl⟩ ⟨by rw [hR]; exact Nat.le_of_ble_eq_true rfl, by rw [hR]; exact Nat.le_of_ble_eq_true rfl⟩) rfl (Nat.le_of_ble_eq_true rfl) ⟨by rw [hR]; exact Nat.le_of_ble_eq_true rfl, by rw [hR]; exact Nat.le_of_ble_eq_true rfl⟩ rfl dM_put_11 (tg_kv rfl rfl ?_)
  have hb_1 := hg_b_le (mo_bad (nI x) (nI y) (nI h) (nI v))
  refine tg_if_eq (tgt := 23) hx hb dM_put_14 (by decide) (fun q_2 => ?_) (fun q_2 => ?_)
  · have q_2' := q_2
    rw [← nI_0] at q_2
    have h_3 : hg_b (mo_bad (nI x) (nI y) (nI h) (nI v)) = 0 := (nI_eq (by omega) (by omega)).mp q_2
    refine tg_iload_n hx hb dM_put_23 rfl rfl ?_
    refine tg_istore (L' := [(0, .ref (ad 11 0)), (1, .int (nI (x))), (2, .int (nI (y))), (3, .int (nI (h))), (4, .int (nI (v))), (5, .int (nI (x)))]) hx hb dM_put_24 (by decide) rfl rfl ?_
    refine tg_loop (fun i : Nat => (x ≤ i ∧ i ≤ x + h) ∧ ∀ a b, x ≤ a → a < i → y ≤ b → b < y + v → ∀ g, g < 400 → ¬ mo_in M g (20 * a + b)) (fun i => 40 - i) (fun i => tg_W p l e R s m args below meth c Q 7 D vwCl F ad ok (mo_w ad cI cZ cA cB (tg_up M 11 0 0) B μ) [(0, .ref (ad 11 0)), (1, .int (nI (x))), (2, .int (nI (y))), (3, .int (nI (h))), (4, .int (nI (v))), (5, .int (nI (i)))] 0 0 26 []) ?_ x ⟨⟨Nat.le_refl _, by omega⟩, fun a b z1 z2 => by omega⟩
    intro i ⟨⟨hi1, hi2⟩, hi3⟩ ih
    refine tg_iload hx hb dM_put_26 rfl ?_
    refine tg_iload_n hx hb dM_put_28 rfl rfl ?_
    refine tg_iload_n hx hb dM_put_29 rfl rfl ?_
    refine tg_iadd hx hb dM_put_30 ?_
    refine tg_top (y := nI ((x) + (h))) (nI_add _ _) ?_
    refine tg_icmp_ge (tgt := 79) hx hb dM_put_31 (by decide) (fun q_4 => ?_) (fun q_4 => ?_)
    · have q_4' := q_4
      have h_5 : (x) + (h) ≤ i := (nI_leI (by omega) (by omega)).mp q_4
      exact absurd (fun i j z1 z2 z3 z4 => hi3 i j z1 (by omega) z3 z4) hbad
    · have q_4' := q_4
      have h_6 : i < (x) + (h) := Nat.lt_of_not_le fun z => q_4 ((nI_leI (by omega) (by omega)).mpr z)
      refine tg_iload_n hx hb dM_put_34 rfl rfl ?_
      refine tg_istore (L' := [(0, .ref (ad 11 0)), (1, .int (nI (x))), (2, .int (nI (y))), (3, .int (nI (h))), (4, .int (nI (v))), (5, .int (nI (i))), (6, .int (nI (y)))]) hx hb dM_put_35 (by decide) rfl rfl ?_
      refine tg_loop (fun j : Nat => (y ≤ j ∧ j ≤ y + v) ∧ ∀ b, y ≤ b → b < j → ∀ g, g < 400 → ¬ mo_in M g (20 * i + b)) (fun j => 40 - j) (fun j => tg_W p l e R s m args below meth c Q 7 D vwCl F ad ok (mo_w ad cI cZ cA cB (tg_up M 11 0 0) B μ) [(0, .ref (ad 11 0)), (1, .int (nI (x))), (2, .int (nI (y))), (3, .int (nI (h))), (4, .int (nI (v))), (5, .int (nI (i))), (6, .int (nI (j)))] 0 0 37 []) ?_ y ⟨⟨Nat.le_refl _, by omega⟩, fun b z1 z2 => by omega⟩
      intro j ⟨⟨hj1, hj2⟩, hj3⟩ ih2
      refine tg_iload hx hb dM_put_37 rfl ?_
      refine tg_iload_n hx hb dM_put_39 rfl rfl ?_
      refine tg_iload hx hb dM_put_40 rfl ?_
      refine tg_iadd hx hb dM_put_42 ?_
      refine tg_top (y := nI ((y) + (v))) (nI_add _ _) ?_
      refine tg_icmp_ge (tgt := 73) hx hb dM_put_43 (by decide) (fun q_7 => ?_) (fun q_7 => ?_)
      · have q_7' := q_7
        have h_8 : (y) + (v) ≤ j := (nI_leI (by omega) (by omega)).mp q_7
        refine tg_iinc (v := nI (i + 1)) (L' := [(0, .ref (ad 11 0)), (1, .int (nI (x))), (2, .int (nI (y))), (3, .int (nI (h))), (4, .int (nI (v))), (5, .int (nI (i + 1))), (6, .int (nI (j)))]) hx hb dM_put_73 rfl (nI_1 _) (by decide) rfl rfl ?_
        refine tg_goto (tgt := 26) hx hb dM_put_76 (by decide) ?_
        refine tg_sub (L' := [(0, .ref (ad 11 0)), (1, .int (nI (x))), (2, .int (nI (y))), (3, .int (nI (h))), (4, .int (nI (v))), (5, .int (nI (i + 1)))]) (fun q hq => (List.mem_append_left [(6, .int (nI (j)))] hq : q ∈ [(0, .ref (ad 11 0)), (1, .int (nI (x))), (2, .int (nI (y))), (3, .int (nI (h))), (4, .int (nI (v))), (5, .int (nI (i + 1)))] ++ [(6, .int (nI (j)))])) ?_
        refine ih (i + 1) ⟨⟨by omega, by omega⟩, fun a b z1 z2 z3 z4 => ?_⟩ (by omega)
        by_cases z : a = i
        · rw [z]; exact hj3 b z3 (by omega)
        · exact hi3 a b z1 (by omega) z3 z4
      · have q_7' := q_7
        have h_9 : j < (y) + (v) := Nat.lt_of_not_le fun z => q_7 ((nI_leI (by omega) (by omega)).mpr z)
        refine tg_aload_n hx hb dM_put_46 rfl rfl ?_
        refine tg_bipush (v := nI 20) hx hb dM_put_47 (by decide +kernel) ?_
        refine tg_iload hx hb dM_put_49 rfl ?_
        refine tg_imul hx hb dM_put_51 ?_
        refine tg_top (y := nI ((20) * (i))) (pk_mul _ _) ?_
        refine tg_iload hx hb dM_put_52 rfl ?_
        refine tg_iadd hx hb dM_put_54 ?_
        refine tg_top (y := nI (((20) * (i)) + (j))) (nI_add _ _) ?_
        refine tg_callV (C := "HangGraphModel") (As := [.int (nI (((20) * (i)) + (j)))]) (rest := []) ⟨hx, hb, hml, hown, hts⟩ hK hN hMv (hO.1 11 (by decide) (by decide) (by decide) (by decide)) rfl rfl rfl (c_mOwner1 hO hB0 (((20) * (i)) + (j)) (by omega)) (cwV 1 hts (lg_V wm_M_63 wi_M_owner1 we_M_owner1 wn_M wc_M_owner1) rfl rfl rfl ⟨rfl, by decide, by decide, rfl⟩ ⟨by rw [hR]; exact Nat.le_of_ble_eq_true rfl, by rw [hR]; exact Nat.le_of_ble_eq_true rfl⟩) rfl (Nat.le_of_ble_eq_true rfl) ⟨by rw [hR]; exact Nat.le_of_ble_eq_true rfl, by rw [hR]; exact Nat.le_of_ble_eq_true rfl⟩ rfl dM_put_55 (tg_kk rfl rfl ?_)
        intro r w1 ⟨how, hw1⟩
        subst hw1
        have how' : mo_ow M (((20) * (i)) + (j)) r := by
          unfold mo_ow at how ⊢
          simp only [mo_in_0] at how
          exact how
        rcases how' with ⟨f, h1, h2, h3, h4⟩ | ⟨h1, h3⟩ <;> subst h3
        · refine tg_st (st' := [.int (nI f)]) rfl ?_
          refine tg_if_lt (tgt := 67) hx hb dM_put_58 (by decide) (fun q_10 => ?_) (fun q_10 => ?_)
          · have q_10' := q_10
            rw [← nI_0] at q_10
            have h_11 : f < 0 := (nI_ltI (by omega) (by omega)).mp q_10
            omega
          · have q_10' := q_10
            rw [← nI_0] at q_10
            have h_12 : 0 ≤ f := Nat.le_of_not_lt fun z => q_10 ((nI_ltI (by omega) (by omega)).mpr z)
            refine tg_aload_n hx hb dM_put_61 rfl rfl ?_
            refine tg_iconst (v := nI 2) hx hb dM_put_62 (by decide +kernel) ?_
            refine tg_callV (C := "HangGraphModel") (As := [.int (nI (2))]) (rest := []) ⟨hx, hb, hml, hown, hts⟩ hK hN hMv (hO.1 11 (by decide) (by decide) (by decide) (by decide)) rfl rfl rfl (c_mFail hO 2) (cwV 1 hts (lg_V wm_M_59 wi_M_fail we_M_fail wn_M wc_M_fail) rfl rfl rfl ⟨rfl, by decide, by decide, rfl⟩ ⟨by rw [hR]; exact Nat.le_of_ble_eq_true rfl, by rw [hR]; exact Nat.le_of_ble_eq_true rfl⟩) rfl (Nat.le_of_ble_eq_true rfl) ⟨by rw [hR]; exact Nat.le_of_ble_eq_true rfl, by rw [hR]; exact Nat.le_of_ble_eq_true rfl⟩ rfl dM_put_63 (tg_kv rfl rfl ?_)
            exact tg_iret hx hb hlocks hr hQ ⟨rfl, rfl, rfl, rfl⟩ dM_put_66
        · refine tg_st (st' := [.int (-1)]) rfl ?_
          refine tg_if_lt (tgt := 67) hx hb dM_put_58 (by decide) (fun q_13 => ?_) (fun q_13 => ?_)
          · have q_13' := q_13
            refine tg_iinc (v := nI (j + 1)) (L' := [(0, .ref (ad 11 0)), (1, .int (nI (x))), (2, .int (nI (y))), (3, .int (nI (h))), (4, .int (nI (v))), (5, .int (nI (i))), (6, .int (nI (j + 1)))]) hx hb dM_put_67 rfl (nI_1 _) (by decide) rfl rfl ?_
            refine tg_goto (tgt := 37) hx hb dM_put_70 (by decide) ?_
            refine ih2 (j + 1) ⟨⟨by omega, by omega⟩, fun b z1 z2 => ?_⟩ (by omega)
            by_cases z : b = j
            · rw [z]; exact h1
            · exact hj3 b z1 (by omega)
          · have q_13' := q_13
            exact absurd (show (-1 : Int32) < 0 by decide +kernel) q_13'
  · have q_2' := q_2
    rw [← nI_0] at q_2
    have h_14 : hg_b (mo_bad (nI x) (nI y) (nI h) (nI v)) ≠ 0 := fun z => q_2 ((nI_eq (by omega) (by omega)).mpr z)
    exact absurd (hg_b1 h_14) hnb
set_option maxRecDepth 100000 in
set_option maxHeartbeats 4000000 in
/-- a formula is put -/
theorem c_mPut0 (hO : mo_ok ok) (hMv : tg_Mv F Nn) (hB : ∀ j u, M j u < 1000000) (x y : Nat) (hx9 : x < 20) (hy9 : y < 20) (h v : Nat) (hh1 : 1 ≤ h) (hh2 : h ≤ 20 - x) (hv1 : 1 ≤ v) (hv2 : v ≤ 20 - y) (hfree : ∀ i j, x ≤ i → i < x + h → y ≤ j → j < y + v → ∀ g, g < 400 → ¬ mo_in M g (20 * i + j)) : tg_Met l yM_put wsM_put ({ frames := 1, cells := 0, slots := 0, locals := 40 }) D vwCl (hg_tys cI cF cZ cJ cA cB) F Nn ad ok (mo_w ad cI cZ cA cB M B μ) [.ref (ad 11 0), .int (nI (x)), .int (nI (y)), .int (nI (h)), .int (nI (v))] (tg_po ad ok fun r w1 => r = some (.int (nI (hg_cn (fun f => (tg_up (tg_up (tg_up (tg_up (tg_up (tg_up (tg_up (tg_up M 11 0 0) 12 (((20) * (x)) + (y)) 1) 13 (((20) * (x)) + (y)) h) 14 (((20) * (x)) + (y)) v) 15 (((20) * (x)) + (y)) 0) 19 (((20) * (x)) + (y)) 0) 20 (((20) * (x)) + (y)) 0) 21 (((20) * (x)) + (y)) 0) 12 f ≠ 0) 400))) ∧ w1 = (mo_w ad cI cZ cA cB (tg_up (tg_up (tg_up (tg_up (tg_up (tg_up (tg_up (tg_up M 11 0 0) 12 (((20) * (x)) + (y)) 1) 13 (((20) * (x)) + (y)) h) 14 (((20) * (x)) + (y)) v) 15 (((20) * (x)) + (y)) 0) 19 (((20) * (x)) + (y)) 0) 20 (((20) * (x)) + (y)) 0) 21 (((20) * (x)) + (y)) 0) B μ)) := by
  refine tg_start (cc := cM_put) (maxL := 7) (ret := some .int) (by decide) rfl (Nat.le_of_ble_eq_true rfl) ?_
  intro p e R s m args below meth c Q hx hb hml hr hlocks hown hname hts hK hN hR hQ
  have hown : s.vm.findClass "HangGraphModel" = some m.cls := hown
  have hts : ∀ w ∈ lw_g, w.before args s = true := fun w z => hts w (List.mem_cons_of_mem _ z)
  have hnb : ¬ mo_bad (nI x) (nI y) (nI h) (nI v) := mo_ok1 hx9 hy9 hh1 hh2 hv1 hv2
  have hB0 : ∀ j u, (tg_up M 11 0 0) j u < 1000000 := mo_b0 hB (by decide)
  have hB2 : ∀ j u, (tg_up (tg_up (tg_up (tg_up (tg_up (tg_up (tg_up (tg_up M 11 0 0) 12 (((20) * (x)) + (y)) 1) 13 (((20) * (x)) + (y)) h) 14 (((20) * (x)) + (y)) v) 15 (((20) * (x)) + (y)) 0) 19 (((20) * (x)) + (y)) 0) 20 (((20) * (x)) + (y)) 0) 21 (((20) * (x)) + (y)) 0) j u < 1000000 := mo_b0 (mo_b0 (mo_b0 (mo_b0 (mo_b0 (mo_b0 (mo_b0 hB0 (by decide)) (by omega)) (by omega)) (by decide)) (by decide)) (by decide)) (by decide)
  refine tg_aload_n hx hb dM_put_0 rfl rfl ?_
  refine tg_iconst (v := nI 0) hx hb dM_put_1 (by decide +kernel) ?_
  refine tg_put (T := TM) (N := 13) (ty := .int) hx hb hts inM tyM tyM_ok nmM hown hK (hO.1 11 (by decide) (by decide) (by decide) (by decide)) rfl rfl 0 (by decide) (hts _ wf_M_51) (fun _ z => z) rfl (by decide +kernel) rfl rfl (Nat.le_of_ble_eq_true rfl) dM_put_2 ?_
  refine tg_wp (mo_w_11 hO 0) ?_
  refine tg_aload_n hx hb dM_put_5 rfl rfl ?_
  refine tg_iload_n hx hb dM_put_6 rfl rfl ?_
  refine tg_iload_n hx hb dM_put_7 rfl rfl ?_
  refine tg_iload_n hx hb dM_put_8 rfl rfl ?_
  refine tg_iload hx hb dM_put_9 rfl ?_
  refine tg_callV (C := "HangGraphModel") (As := [.int (nI (x)), .int (nI (y)), .int (nI (h)), .int (nI (v))]) (rest := []) ⟨hx, hb, hml, hown, hts⟩ hK hN hMv (hO.1 11 (by decide) (by decide) (by decide) (by decide)) rfl rfl rfl (c_mOut4 hO (nI x) (nI y) (nI h) (nI v)) (cwV 4 hts (lg_V wm_M_55 wi_M_out4 we_M_out4 wn_M wc_M_out4) rfl rfl rfl ⟨rfl, by decide, by decide, rfl⟩ ⟨by rw [hR]; exact Nat.le_of_ble_eq_true rfl, by rw [hR]; exact Nat.le_of_ble_eq_true rfl⟩) rfl (Nat.le_of_ble_eq_true rfl) ⟨by rw [hR]; exact Nat.le_of_ble_eq_true rfl, by rw [hR]; exact Nat.le_of_ble_eq_true rfl⟩ rfl dM_put_11 (tg_kv rfl rfl ?_)
  have hb_1 := hg_b_le (mo_bad (nI x) (nI y) (nI h) (nI v))
  refine tg_if_eq (tgt := 23) hx hb dM_put_14 (by decide) (fun q_2 => ?_) (fun q_2 => ?_)
  · have q_2' := q_2
    rw [← nI_0] at q_2
    have h_3 : hg_b (mo_bad (nI x) (nI y) (nI h) (nI v)) = 0 := (nI_eq (by omega) (by omega)).mp q_2
    refine tg_iload_n hx hb dM_put_23 rfl rfl ?_
    refine tg_istore (L' := [(0, .ref (ad 11 0)), (1, .int (nI (x))), (2, .int (nI (y))), (3, .int (nI (h))), (4, .int (nI (v))), (5, .int (nI (x)))]) hx hb dM_put_24 (by decide) rfl rfl ?_
    refine tg_loop (fun i : Nat => x ≤ i ∧ i ≤ x + h) (fun i => 40 - i) (fun i => tg_W p l e R s m args below meth c Q 7 D vwCl F ad ok (mo_w ad cI cZ cA cB (tg_up M 11 0 0) B μ) [(0, .ref (ad 11 0)), (1, .int (nI (x))), (2, .int (nI (y))), (3, .int (nI (h))), (4, .int (nI (v))), (5, .int (nI (i)))] 0 0 26 []) ?_ x ⟨Nat.le_refl _, by omega⟩
    intro i ⟨hi1, hi2⟩ ih
    refine tg_iload hx hb dM_put_26 rfl ?_
    refine tg_iload_n hx hb dM_put_28 rfl rfl ?_
    refine tg_iload_n hx hb dM_put_29 rfl rfl ?_
    refine tg_iadd hx hb dM_put_30 ?_
    refine tg_top (y := nI ((x) + (h))) (nI_add _ _) ?_
    refine tg_icmp_ge (tgt := 79) hx hb dM_put_31 (by decide) (fun q_4 => ?_) (fun q_4 => ?_)
    · have q_4' := q_4
      have h_5 : (x) + (h) ≤ i := (nI_leI (by omega) (by omega)).mp q_4
      refine tg_bipush (v := nI 20) hx hb dM_put_79 (by decide +kernel) ?_
      refine tg_iload_n hx hb dM_put_81 rfl rfl ?_
      refine tg_imul hx hb dM_put_82 ?_
      refine tg_top (y := nI ((20) * (x))) (pk_mul _ _) ?_
      refine tg_iload_n hx hb dM_put_83 rfl rfl ?_
      refine tg_iadd hx hb dM_put_84 ?_
      refine tg_top (y := nI (((20) * (x)) + (y))) (nI_add _ _) ?_
      refine tg_istore (L' := [(0, .ref (ad 11 0)), (1, .int (nI (x))), (2, .int (nI (y))), (3, .int (nI (h))), (4, .int (nI (v))), (5, .int (nI (((20) * (x)) + (y))))]) hx hb dM_put_85 (by decide) rfl rfl ?_
      refine tg_aload_n hx hb dM_put_87 rfl rfl ?_
      refine tg_get (T := TM) (N := 13) hx hb hts inM hown hK (hO.1 11 (by decide) (by decide) (by decide) (by decide)) rfl rfl 1 (by decide) (hts _ wf_M_7) (fun _ z => z) rfl dM_put_88 ?_
      refine tg_iload hx hb dM_put_91 rfl ?_
      refine tg_iconst (v := nI 1) hx hb dM_put_93 (by decide +kernel) ?_
      refine tg_zast (t0 := 2) hx hb hK (hO.1 12 (by decide) (by decide) (by decide) (by decide)) rfl rfl (x := ((20) * (x)) + (y)) (v := nI (1)) (by decide +kernel) (by decide) (by omega) dM_put_94 ?_
      refine tg_wp (mo_w_12 hO (((20) * (x)) + (y)) 1) ?_
      refine tg_aload_n hx hb dM_put_95 rfl rfl ?_
      refine tg_get (T := TM) (N := 13) hx hb hts inM hown hK (hO.1 11 (by decide) (by decide) (by decide) (by decide)) rfl rfl 2 (by decide) (hts _ wf_M_13) (fun _ z => z) rfl dM_put_96 ?_
      refine tg_iload hx hb dM_put_99 rfl ?_
      refine tg_iload_n hx hb dM_put_101 rfl rfl ?_
      refine tg_iast (t0 := 0) hx hb hK (hO.1 13 (by decide) (by decide) (by decide) (by decide)) rfl rfl (x := ((20) * (x)) + (y)) (v := nI (h)) (by decide) (by omega) dM_put_102 ?_
      refine tg_wp (mo_w_13 hO (((20) * (x)) + (y)) h) ?_
      refine tg_aload_n hx hb dM_put_103 rfl rfl ?_
      refine tg_get (T := TM) (N := 13) hx hb hts inM hown hK (hO.1 11 (by decide) (by decide) (by decide) (by decide)) rfl rfl 3 (by decide) (hts _ wf_M_17) (fun _ z => z) rfl dM_put_104 ?_
      refine tg_iload hx hb dM_put_107 rfl ?_
      refine tg_iload hx hb dM_put_109 rfl ?_
      refine tg_iast (t0 := 0) hx hb hK (hO.1 14 (by decide) (by decide) (by decide) (by decide)) rfl rfl (x := ((20) * (x)) + (y)) (v := nI (v)) (by decide) (by omega) dM_put_111 ?_
      refine tg_wp (mo_w_14 hO (((20) * (x)) + (y)) v) ?_
      refine tg_aload_n hx hb dM_put_112 rfl rfl ?_
      refine tg_get (T := TM) (N := 13) hx hb hts inM hown hK (hO.1 11 (by decide) (by decide) (by decide) (by decide)) rfl rfl 4 (by decide) (hts _ wf_M_20) (fun _ z => z) rfl dM_put_113 ?_
      refine tg_iload hx hb dM_put_116 rfl ?_
      refine tg_iconst (v := nI 0) hx hb dM_put_118 (by decide +kernel) ?_
      refine tg_iast (t0 := 0) hx hb hK (hO.1 15 (by decide) (by decide) (by decide) (by decide)) rfl rfl (x := ((20) * (x)) + (y)) (v := nI (0)) (by decide) (by omega) dM_put_119 ?_
      refine tg_wp (mo_w_15 hO (((20) * (x)) + (y)) 0) ?_
      refine tg_aload_n hx hb dM_put_120 rfl rfl ?_
      refine tg_iload hx hb dM_put_121 rfl ?_
      refine tg_callV (C := "HangGraphModel") (As := [.int (nI (((20) * (x)) + (y)))]) (rest := []) ⟨hx, hb, hml, hown, hts⟩ hK hN hMv (hO.1 11 (by decide) (by decide) (by decide) (by decide)) rfl rfl rfl (c_mForget hO (((20) * (x)) + (y)) (by omega)) (cwV 1 hts (lg_V wm_M_66 wi_M_forget we_M_forget wn_M wc_M_forget) rfl rfl rfl ⟨rfl, by decide, by decide, rfl⟩ ⟨by rw [hR]; exact Nat.le_of_ble_eq_true rfl, by rw [hR]; exact Nat.le_of_ble_eq_true rfl⟩) rfl (Nat.le_of_ble_eq_true rfl) ⟨by rw [hR]; exact Nat.le_of_ble_eq_true rfl, by rw [hR]; exact Nat.le_of_ble_eq_true rfl⟩ rfl dM_put_123 (tg_kn rfl rfl ?_)
      refine tg_aload_n hx hb dM_put_126 rfl rfl ?_
      refine tg_callV (C := "HangGraphModel") (As := []) (rest := []) ⟨hx, hb, hml, hown, hts⟩ hK hN hMv (hO.1 11 (by decide) (by decide) (by decide) (by decide)) rfl rfl rfl (c_mCount hO (M := (tg_up (tg_up (tg_up (tg_up (tg_up (tg_up (tg_up (tg_up M 11 0 0) 12 (((20) * (x)) + (y)) 1) 13 (((20) * (x)) + (y)) h) 14 (((20) * (x)) + (y)) v) 15 (((20) * (x)) + (y)) 0) 19 (((20) * (x)) + (y)) 0) 20 (((20) * (x)) + (y)) 0) 21 (((20) * (x)) + (y)) 0)) hB2) (cwV 0 hts (lg_V wm_M_70 wi_M_count we_M_count wn_M wc_M_count) rfl rfl rfl ⟨rfl, by decide, by decide, rfl⟩ ⟨by rw [hR]; exact Nat.le_of_ble_eq_true rfl, by rw [hR]; exact Nat.le_of_ble_eq_true rfl⟩) rfl (Nat.le_of_ble_eq_true rfl) ⟨by rw [hR]; exact Nat.le_of_ble_eq_true rfl, by rw [hR]; exact Nat.le_of_ble_eq_true rfl⟩ rfl dM_put_127 (tg_kv rfl rfl ?_)
      exact tg_iret hx hb hlocks hr hQ ⟨rfl, rfl, rfl, rfl⟩ dM_put_130
    · have q_4' := q_4
      have h_6 : i < (x) + (h) := Nat.lt_of_not_le fun z => q_4 ((nI_leI (by omega) (by omega)).mpr z)
      refine tg_iload_n hx hb dM_put_34 rfl rfl ?_
      refine tg_istore (L' := [(0, .ref (ad 11 0)), (1, .int (nI (x))), (2, .int (nI (y))), (3, .int (nI (h))), (4, .int (nI (v))), (5, .int (nI (i))), (6, .int (nI (y)))]) hx hb dM_put_35 (by decide) rfl rfl ?_
      refine tg_loop (fun j : Nat => y ≤ j ∧ j ≤ y + v) (fun j => 40 - j) (fun j => tg_W p l e R s m args below meth c Q 7 D vwCl F ad ok (mo_w ad cI cZ cA cB (tg_up M 11 0 0) B μ) [(0, .ref (ad 11 0)), (1, .int (nI (x))), (2, .int (nI (y))), (3, .int (nI (h))), (4, .int (nI (v))), (5, .int (nI (i))), (6, .int (nI (j)))] 0 0 37 []) ?_ y ⟨Nat.le_refl _, by omega⟩
      intro j ⟨hj1, hj2⟩ ih2
      refine tg_iload hx hb dM_put_37 rfl ?_
      refine tg_iload_n hx hb dM_put_39 rfl rfl ?_
      refine tg_iload hx hb dM_put_40 rfl ?_
      refine tg_iadd hx hb dM_put_42 ?_
      refine tg_top (y := nI ((y) + (v))) (nI_add _ _) ?_
      refine tg_icmp_ge (tgt := 73) hx hb dM_put_43 (by decide) (fun q_7 => ?_) (fun q_7 => ?_)
      · have q_7' := q_7
        have h_8 : (y) + (v) ≤ j := (nI_leI (by omega) (by omega)).mp q_7
        refine tg_iinc (v := nI (i + 1)) (L' := [(0, .ref (ad 11 0)), (1, .int (nI (x))), (2, .int (nI (y))), (3, .int (nI (h))), (4, .int (nI (v))), (5, .int (nI (i + 1))), (6, .int (nI (j)))]) hx hb dM_put_73 rfl (nI_1 _) (by decide) rfl rfl ?_
        refine tg_goto (tgt := 26) hx hb dM_put_76 (by decide) ?_
        refine tg_sub (L' := [(0, .ref (ad 11 0)), (1, .int (nI (x))), (2, .int (nI (y))), (3, .int (nI (h))), (4, .int (nI (v))), (5, .int (nI (i + 1)))]) (fun q hq => (List.mem_append_left [(6, .int (nI (j)))] hq : q ∈ [(0, .ref (ad 11 0)), (1, .int (nI (x))), (2, .int (nI (y))), (3, .int (nI (h))), (4, .int (nI (v))), (5, .int (nI (i + 1)))] ++ [(6, .int (nI (j)))])) ?_
        exact ih (i + 1) ⟨by omega, by omega⟩ (by omega)
      · have q_7' := q_7
        have h_9 : j < (y) + (v) := Nat.lt_of_not_le fun z => q_7 ((nI_leI (by omega) (by omega)).mpr z)
        refine tg_aload_n hx hb dM_put_46 rfl rfl ?_
        refine tg_bipush (v := nI 20) hx hb dM_put_47 (by decide +kernel) ?_
        refine tg_iload hx hb dM_put_49 rfl ?_
        refine tg_imul hx hb dM_put_51 ?_
        refine tg_top (y := nI ((20) * (i))) (pk_mul _ _) ?_
        refine tg_iload hx hb dM_put_52 rfl ?_
        refine tg_iadd hx hb dM_put_54 ?_
        refine tg_top (y := nI (((20) * (i)) + (j))) (nI_add _ _) ?_
        refine tg_callV (C := "HangGraphModel") (As := [.int (nI (((20) * (i)) + (j)))]) (rest := []) ⟨hx, hb, hml, hown, hts⟩ hK hN hMv (hO.1 11 (by decide) (by decide) (by decide) (by decide)) rfl rfl rfl (c_mOwner1 hO hB0 (((20) * (i)) + (j)) (by omega)) (cwV 1 hts (lg_V wm_M_63 wi_M_owner1 we_M_owner1 wn_M wc_M_owner1) rfl rfl rfl ⟨rfl, by decide, by decide, rfl⟩ ⟨by rw [hR]; exact Nat.le_of_ble_eq_true rfl, by rw [hR]; exact Nat.le_of_ble_eq_true rfl⟩) rfl (Nat.le_of_ble_eq_true rfl) ⟨by rw [hR]; exact Nat.le_of_ble_eq_true rfl, by rw [hR]; exact Nat.le_of_ble_eq_true rfl⟩ rfl dM_put_55 (tg_kk rfl rfl ?_)
        intro r w1 ⟨how, hw1⟩
        subst hw1
        have how' : mo_ow M (((20) * (i)) + (j)) r := by
          unfold mo_ow at how ⊢
          simp only [mo_in_0] at how
          exact how
        rcases how' with ⟨f, h1, h2, h3, h4⟩ | ⟨h1, h3⟩ <;> subst h3
        · exact absurd h2 (hfree i j (by omega) (by omega) (by omega) (by omega) f h1)
        · refine tg_st (st' := [.int (-1)]) rfl ?_
          refine tg_if_lt (tgt := 67) hx hb dM_put_58 (by decide) (fun q_10 => ?_) (fun q_10 => ?_)
          · have q_10' := q_10
            refine tg_iinc (v := nI (j + 1)) (L' := [(0, .ref (ad 11 0)), (1, .int (nI (x))), (2, .int (nI (y))), (3, .int (nI (h))), (4, .int (nI (v))), (5, .int (nI (i))), (6, .int (nI (j + 1)))]) hx hb dM_put_67 rfl (nI_1 _) (by decide) rfl rfl ?_
            refine tg_goto (tgt := 37) hx hb dM_put_70 (by decide) ?_
            exact ih2 (j + 1) ⟨by omega, by omega⟩ (by omega)
          · have q_10' := q_10
            exact absurd (show (-1 : Int32) < 0 by decide +kernel) q_10'
  · have q_2' := q_2
    rw [← nI_0] at q_2
    have h_11 : hg_b (mo_bad (nI x) (nI y) (nI h) (nI v)) ≠ 0 := fun z => q_2 ((nI_eq (by omega) (by omega)).mpr z)
    exact absurd (hg_b1 h_11) hnb
end MOC
/-- f speaks of the cell k -/
def mo_sp (M : Nat → Nat → Nat) (B : Nat → Nat → Nat → Nat) (f k : Nat) : Prop := ∃ i, i < M 15 f ∧ B 17 f (4 * i) ≤ k / 20 ∧ k / 20 ≤ B 17 f (4 * i + 2) ∧ B 17 f (4 * i + 1) ≤ k % 20 ∧ k % 20 ≤ B 17 f (4 * i + 3)
section MOD
variable {l : Launch} {D : va_G} {F : Nat → Prop} {Nn : State → Heap → Prop} {ad : Nat → Nat → Nat} {ok : Nat → Nat → Prop} {cF cI cZ cJ cA cB : ClassId} {M : Nat → Nat → Nat} {B : Nat → Nat → Nat → Nat} {μ : Nat → Nat → va_E}
set_option maxRecDepth 100000 in
set_option maxHeartbeats 4000000 in
/-- does f speak of the cell? -/
theorem c_mSpeaks (hO : mo_ok ok) (hB : ∀ j u, M j u < 1000000) (hBB : ∀ j u z, B j u z < 1000000) (f k : Nat) (hf : f < 400) (hk : k < 400) (hc : M 15 f ≤ 20) : tg_Met l yM_speaks wsM_speaks ({ frames := 0, cells := 0, slots := 0, locals := 0 }) D vwCl (hg_tys cI cF cZ cJ cA cB) F Nn ad ok (mo_w ad cI cZ cA cB M B μ) [.ref (ad 11 0), .int (nI (f)), .int (nI (k))] (tg_po ad ok fun r w1 => r = some (.int (nI (hg_b (mo_sp M B f k)))) ∧ w1 = (mo_w ad cI cZ cA cB M B μ)) := by
  refine tg_start (cc := cM_speaks) (maxL := 5) (ret := some .boolean) (by decide) rfl (Nat.le_of_ble_eq_true rfl) ?_
  intro p e R s m args below meth c Q hx hb hml hr hlocks hown hname hts hK hN hR hQ
  have hown : s.vm.findClass "HangGraphModel" = some m.cls := hown
  have hts : ∀ w ∈ lw_g, w.before args s = true := fun w z => hts w (List.mem_cons_of_mem _ z)
  refine tg_iconst (v := nI 0) hx hb dM_speaks_0 (by decide +kernel) ?_
  refine tg_istore_n (L' := [(0, .ref (ad 11 0)), (1, .int (nI (f))), (2, .int (nI (k))), (3, .int (nI (0)))]) hx hb dM_speaks_1 rfl (by decide) rfl rfl ?_
  refine tg_loop (fun i : Nat => i ≤ M 15 f ∧ ∀ a, a < i → ¬ (B 17 f (4 * a) ≤ k / 20 ∧ k / 20 ≤ B 17 f (4 * a + 2) ∧ B 17 f (4 * a + 1) ≤ k % 20 ∧ k % 20 ≤ B 17 f (4 * a + 3))) (fun i => 20 - i) (fun i => tg_W p l e R s m args below meth c Q 5 D vwCl F ad ok (mo_w ad cI cZ cA cB M B μ) [(0, .ref (ad 11 0)), (1, .int (nI (f))), (2, .int (nI (k))), (3, .int (nI (i)))] 0 0 2 []) ?_ 0 ⟨Nat.zero_le _, fun a z => absurd z (Nat.not_lt_zero _)⟩
  intro i ⟨hi1, hi2⟩ ih
  refine tg_iload_n hx hb dM_speaks_2 rfl rfl ?_
  refine tg_aload_n hx hb dM_speaks_3 rfl rfl ?_
  refine tg_get (T := TM) (N := 13) hx hb hts inM hown hK (hO.1 11 (by decide) (by decide) (by decide) (by decide)) rfl rfl 4 (by decide) (hts _ wf_M_20) (fun _ z => z) rfl dM_speaks_4 ?_
  refine tg_iload_n hx hb dM_speaks_7 rfl rfl ?_
  refine tg_iald (t0 := 0) hx hb hK (hO.1 15 (by decide) (by decide) (by decide) (by decide)) rfl rfl (x := f) (by decide) (by omega) dM_speaks_8 ?_
  have hb_1 := hB 15 f
  refine tg_icmp_ge (tgt := 86) hx hb dM_speaks_9 (by decide) (fun q_2 => ?_) (fun q_2 => ?_)
  · have q_2' := q_2
    have h_3 : M 15 f ≤ i := (nI_leI (by omega) (by omega)).mp q_2
    refine tg_iconst (v := nI 0) hx hb dM_speaks_86 (by decide +kernel) ?_
    have hp : ¬ mo_sp M B f k := fun ⟨a, z1, z2⟩ => hi2 a (by omega) z2
    exact tg_zret hx hb hlocks hr hQ (by decide +kernel) ⟨rfl, rfl, by rw [hg_b_f hp], rfl⟩ dM_speaks_87
  · have q_2' := q_2
    have h_4 : i < M 15 f := Nat.lt_of_not_le fun z => q_2 ((nI_leI (by omega) (by omega)).mpr z)
    refine tg_aload_n hx hb dM_speaks_12 rfl rfl ?_
    refine tg_get (T := TM) (N := 13) hx hb hts inM hown hK (hO.1 11 (by decide) (by decide) (by decide) (by decide)) rfl rfl 5 (by decide) (hts _ wf_M_25) (fun _ z => z) rfl dM_speaks_13 ?_
    refine tg_iload_n hx hb dM_speaks_16 rfl rfl ?_
    refine tg_aaldA (t0 := 4) hx hb hK (hO.1 16 (by decide) (by decide) (by decide) (by decide)) rfl rfl rfl (x := f) (by decide) (by omega) dM_speaks_17 ?_
    refine tg_st (st' := .ref (ad 17 f) :: []) rfl ?_
    refine tg_astore (L' := [(0, .ref (ad 11 0)), (1, .int (nI (f))), (2, .int (nI (k))), (3, .int (nI (i))), (4, .ref (ad 17 f))]) hx hb dM_speaks_18 (by decide) rfl rfl ?_
    refine tg_iload_n hx hb dM_speaks_20 rfl rfl ?_
    refine tg_bipush (v := nI 20) hx hb dM_speaks_21 (by decide +kernel) ?_
    refine tg_idiv hx hb dM_speaks_23 (nI_ne0 (by omega) (by omega)) ?_
    refine tg_top (y := nI ((k) / (20))) (pk_div (by omega) (by omega) (by omega)) ?_
    refine tg_aload hx hb dM_speaks_24 rfl ?_
    refine tg_iconst (v := nI 4) hx hb dM_speaks_26 (by decide +kernel) ?_
    refine tg_iload_n hx hb dM_speaks_27 rfl rfl ?_
    refine tg_imul hx hb dM_speaks_28 ?_
    refine tg_top (y := nI ((4) * (i))) (pk_mul _ _) ?_
    refine tg_iald (t0 := 0) hx hb hK (hO.2.1 f (by omega)).1 rfl rfl (x := (4) * (i)) (by decide) (by omega) dM_speaks_29 ?_
    have hb_5 := hBB 17 f ((4) * (i))
    refine tg_icmp_lt (tgt := 80) hx hb dM_speaks_30 (by decide) (fun q_6 => ?_) (fun q_6 => ?_)
    · have q_6' := q_6
      have h_7 : (k) / (20) < B 17 f ((4) * (i)) := (nI_ltI (by omega) (by omega)).mp q_6
      refine tg_iinc (v := nI (i + 1)) (L' := [(0, .ref (ad 11 0)), (1, .int (nI (f))), (2, .int (nI (k))), (3, .int (nI (i + 1))), (4, .ref (ad 17 f))]) hx hb dM_speaks_80 rfl (nI_1 _) (by decide) rfl rfl ?_
      refine tg_goto (tgt := 2) hx hb dM_speaks_83 (by decide) ?_
      refine tg_sub (L' := [(0, .ref (ad 11 0)), (1, .int (nI (f))), (2, .int (nI (k))), (3, .int (nI (i + 1)))]) (fun q hq => (List.mem_append_left [(4, .ref (ad 17 f))] hq : q ∈ [(0, .ref (ad 11 0)), (1, .int (nI (f))), (2, .int (nI (k))), (3, .int (nI (i + 1)))] ++ [(4, .ref (ad 17 f))])) ?_
      refine ih (i + 1) ⟨by omega, fun a ha hin => ?_⟩ (by omega)
      rcases Nat.lt_succ_iff_lt_or_eq.mp ha with z | z
      · exact hi2 a z hin
      · subst z
        obtain ⟨z1, z2, z3, z4⟩ := hin
        omega
    · have q_6' := q_6
      have h_8 : B 17 f ((4) * (i)) ≤ (k) / (20) := Nat.le_of_not_lt fun z => q_6 ((nI_ltI (by omega) (by omega)).mpr z)
      refine tg_iload_n hx hb dM_speaks_33 rfl rfl ?_
      refine tg_bipush (v := nI 20) hx hb dM_speaks_34 (by decide +kernel) ?_
      refine tg_idiv hx hb dM_speaks_36 (nI_ne0 (by omega) (by omega)) ?_
      refine tg_top (y := nI ((k) / (20))) (pk_div (by omega) (by omega) (by omega)) ?_
      refine tg_aload hx hb dM_speaks_37 rfl ?_
      refine tg_iconst (v := nI 4) hx hb dM_speaks_39 (by decide +kernel) ?_
      refine tg_iload_n hx hb dM_speaks_40 rfl rfl ?_
      refine tg_imul hx hb dM_speaks_41 ?_
      refine tg_top (y := nI ((4) * (i))) (pk_mul _ _) ?_
      refine tg_iconst (v := nI 2) hx hb dM_speaks_42 (by decide +kernel) ?_
      refine tg_iadd hx hb dM_speaks_43 ?_
      refine tg_top (y := nI (((4) * (i)) + (2))) (nI_add _ _) ?_
      refine tg_iald (t0 := 0) hx hb hK (hO.2.1 f (by omega)).1 rfl rfl (x := ((4) * (i)) + (2)) (by decide) (by omega) dM_speaks_44 ?_
      have hb_9 := hBB 17 f (((4) * (i)) + (2))
      refine tg_icmp_gt (tgt := 80) hx hb dM_speaks_45 (by decide) (fun q_10 => ?_) (fun q_10 => ?_)
      · have q_10' := q_10
        have h_11 : B 17 f (((4) * (i)) + (2)) < (k) / (20) := (nI_ltI (by omega) (by omega)).mp q_10
        refine tg_iinc (v := nI (i + 1)) (L' := [(0, .ref (ad 11 0)), (1, .int (nI (f))), (2, .int (nI (k))), (3, .int (nI (i + 1))), (4, .ref (ad 17 f))]) hx hb dM_speaks_80 rfl (nI_1 _) (by decide) rfl rfl ?_
        refine tg_goto (tgt := 2) hx hb dM_speaks_83 (by decide) ?_
        refine tg_sub (L' := [(0, .ref (ad 11 0)), (1, .int (nI (f))), (2, .int (nI (k))), (3, .int (nI (i + 1)))]) (fun q hq => (List.mem_append_left [(4, .ref (ad 17 f))] hq : q ∈ [(0, .ref (ad 11 0)), (1, .int (nI (f))), (2, .int (nI (k))), (3, .int (nI (i + 1)))] ++ [(4, .ref (ad 17 f))])) ?_
        refine ih (i + 1) ⟨by omega, fun a ha hin => ?_⟩ (by omega)
        rcases Nat.lt_succ_iff_lt_or_eq.mp ha with z | z
        · exact hi2 a z hin
        · subst z
          obtain ⟨z1, z2, z3, z4⟩ := hin
          omega
      · have q_10' := q_10
        have h_12 : (k) / (20) ≤ B 17 f (((4) * (i)) + (2)) := Nat.le_of_not_lt fun z => q_10 ((nI_ltI (by omega) (by omega)).mpr z)
        refine tg_iload_n hx hb dM_speaks_48 rfl rfl ?_
        refine tg_bipush (v := nI 20) hx hb dM_speaks_49 (by decide +kernel) ?_
        refine tg_irem hx hb dM_speaks_51 (nI_ne0 (by omega) (by omega)) ?_
        refine tg_top (y := nI ((k) % (20))) (pk_rem (by omega) (by omega) (by omega)) ?_
        refine tg_aload hx hb dM_speaks_52 rfl ?_
        refine tg_iconst (v := nI 4) hx hb dM_speaks_54 (by decide +kernel) ?_
        refine tg_iload_n hx hb dM_speaks_55 rfl rfl ?_
        refine tg_imul hx hb dM_speaks_56 ?_
        refine tg_top (y := nI ((4) * (i))) (pk_mul _ _) ?_
        refine tg_iconst (v := nI 1) hx hb dM_speaks_57 (by decide +kernel) ?_
        refine tg_iadd hx hb dM_speaks_58 ?_
        refine tg_top (y := nI (((4) * (i)) + (1))) (nI_add _ _) ?_
        refine tg_iald (t0 := 0) hx hb hK (hO.2.1 f (by omega)).1 rfl rfl (x := ((4) * (i)) + (1)) (by decide) (by omega) dM_speaks_59 ?_
        have hb_13 := hBB 17 f (((4) * (i)) + (1))
        refine tg_icmp_lt (tgt := 80) hx hb dM_speaks_60 (by decide) (fun q_14 => ?_) (fun q_14 => ?_)
        · have q_14' := q_14
          have h_15 : (k) % (20) < B 17 f (((4) * (i)) + (1)) := (nI_ltI (by omega) (by omega)).mp q_14
          refine tg_iinc (v := nI (i + 1)) (L' := [(0, .ref (ad 11 0)), (1, .int (nI (f))), (2, .int (nI (k))), (3, .int (nI (i + 1))), (4, .ref (ad 17 f))]) hx hb dM_speaks_80 rfl (nI_1 _) (by decide) rfl rfl ?_
          refine tg_goto (tgt := 2) hx hb dM_speaks_83 (by decide) ?_
          refine tg_sub (L' := [(0, .ref (ad 11 0)), (1, .int (nI (f))), (2, .int (nI (k))), (3, .int (nI (i + 1)))]) (fun q hq => (List.mem_append_left [(4, .ref (ad 17 f))] hq : q ∈ [(0, .ref (ad 11 0)), (1, .int (nI (f))), (2, .int (nI (k))), (3, .int (nI (i + 1)))] ++ [(4, .ref (ad 17 f))])) ?_
          refine ih (i + 1) ⟨by omega, fun a ha hin => ?_⟩ (by omega)
          rcases Nat.lt_succ_iff_lt_or_eq.mp ha with z | z
          · exact hi2 a z hin
          · subst z
            obtain ⟨z1, z2, z3, z4⟩ := hin
            omega
        · have q_14' := q_14
          have h_16 : B 17 f (((4) * (i)) + (1)) ≤ (k) % (20) := Nat.le_of_not_lt fun z => q_14 ((nI_ltI (by omega) (by omega)).mpr z)
          refine tg_iload_n hx hb dM_speaks_63 rfl rfl ?_
          refine tg_bipush (v := nI 20) hx hb dM_speaks_64 (by decide +kernel) ?_
          refine tg_irem hx hb dM_speaks_66 (nI_ne0 (by omega) (by omega)) ?_
          refine tg_top (y := nI ((k) % (20))) (pk_rem (by omega) (by omega) (by omega)) ?_
          refine tg_aload hx hb dM_speaks_67 rfl ?_
          refine tg_iconst (v := nI 4) hx hb dM_speaks_69 (by decide +kernel) ?_
          refine tg_iload_n hx hb dM_speaks_70 rfl rfl ?_
          refine tg_imul hx hb dM_speaks_71 ?_
          refine tg_top (y := nI ((4) * (i))) (pk_mul _ _) ?_
          refine tg_iconst (v := nI 3) hx hb dM_speaks_72 (by decide +kernel) ?_
          refine tg_iadd hx hb dM_speaks_73 ?_
          refine tg_top (y := nI (((4) * (i)) + (3))) (nI_add _ _) ?_
          refine tg_iald (t0 := 0) hx hb hK (hO.2.1 f (by omega)).1 rfl rfl (x := ((4) * (i)) + (3)) (by decide) (by omega) dM_speaks_74 ?_
          have hb_17 := hBB 17 f (((4) * (i)) + (3))
          refine tg_icmp_gt (tgt := 80) hx hb dM_speaks_75 (by decide) (fun q_18 => ?_) (fun q_18 => ?_)
          · have q_18' := q_18
            have h_19 : B 17 f (((4) * (i)) + (3)) < (k) % (20) := (nI_ltI (by omega) (by omega)).mp q_18
            refine tg_iinc (v := nI (i + 1)) (L' := [(0, .ref (ad 11 0)), (1, .int (nI (f))), (2, .int (nI (k))), (3, .int (nI (i + 1))), (4, .ref (ad 17 f))]) hx hb dM_speaks_80 rfl (nI_1 _) (by decide) rfl rfl ?_
            refine tg_goto (tgt := 2) hx hb dM_speaks_83 (by decide) ?_
            refine tg_sub (L' := [(0, .ref (ad 11 0)), (1, .int (nI (f))), (2, .int (nI (k))), (3, .int (nI (i + 1)))]) (fun q hq => (List.mem_append_left [(4, .ref (ad 17 f))] hq : q ∈ [(0, .ref (ad 11 0)), (1, .int (nI (f))), (2, .int (nI (k))), (3, .int (nI (i + 1)))] ++ [(4, .ref (ad 17 f))])) ?_
            refine ih (i + 1) ⟨by omega, fun a ha hin => ?_⟩ (by omega)
            rcases Nat.lt_succ_iff_lt_or_eq.mp ha with z | z
            · exact hi2 a z hin
            · subst z
              obtain ⟨z1, z2, z3, z4⟩ := hin
              omega
          · have q_18' := q_18
            have h_20 : (k) % (20) ≤ B 17 f (((4) * (i)) + (3)) := Nat.le_of_not_lt fun z => q_18 ((nI_ltI (by omega) (by omega)).mpr z)
            refine tg_iconst (v := nI 1) hx hb dM_speaks_78 (by decide +kernel) ?_
            have hp : mo_sp M B f k := ⟨i, by omega, by omega, by omega, by omega, by omega⟩
            exact tg_zret hx hb hlocks hr hQ (by decide +kernel) ⟨rfl, rfl, by rw [hg_b_t hp], rfl⟩ dM_speaks_79
set_option maxRecDepth 100000 in
set_option maxHeartbeats 4000000 in
/-- off the grid -/
theorem c_mSpeak1 (hO : mo_ok ok) (hMv : tg_Mv F Nn) (p9 q9 t9 l9 b9 r9 : Int32) (hbad : mo_bad p9 q9 (nI 1) (nI 1) ∨ mo_bad t9 l9 (nI 1) (nI 1) ∨ mo_bad b9 r9 (nI 1) (nI 1) ∨ b9 < t9 ∨ r9 < l9) : tg_Met l yM_speak wsM_speak ({ frames := 1, cells := 0, slots := 0, locals := 40 }) D vwCl (hg_tys cI cF cZ cJ cA cB) F Nn ad ok (mo_w ad cI cZ cA cB M B μ) [.ref (ad 11 0), .int (p9), .int (q9), .int (t9), .int (l9), .int (b9), .int (r9)] (tg_po ad ok fun r w1 => r = some (.int (nI 0)) ∧ w1 = (mo_w ad cI cZ cA cB (tg_up (tg_up M 11 0 0) 11 0 1) B μ)) := by
  refine tg_start (cc := cM_speak) (maxL := 8) (ret := some .int) (by decide) rfl (Nat.le_of_ble_eq_true rfl) ?_
  intro p e R s m args below meth c Q hx hb hml hr hlocks hown hname hts hK hN hR hQ
  have hown : s.vm.findClass "HangGraphModel" = some m.cls := hown
  have hts : ∀ w ∈ lw_g, w.before args s = true := fun w z => hts w (List.mem_cons_of_mem _ z)
  refine tg_aload_n hx hb dM_speak_0 rfl rfl ?_
  refine tg_iconst (v := nI 0) hx hb dM_speak_1 (by decide +kernel) ?_
  refine tg_put (T := TM) (N := 13) (ty := .int) hx hb hts inM tyM tyM_ok nmM hown hK (hO.1 11 (by decide) (by decide) (by decide) (by decide)) rfl rfl 0 (by decide) (hts _ wf_M_51) (fun _ z => z) rfl (by decide +kernel) rfl rfl (Nat.le_of_ble_eq_true rfl) dM_speak_2 ?_
  refine tg_wp (mo_w_11 hO 0) ?_
  refine tg_aload_n hx hb dM_speak_5 rfl rfl ?_
  refine tg_iload_n hx hb dM_speak_6 rfl rfl ?_
  refine tg_iload_n hx hb dM_speak_7 rfl rfl ?_
  refine tg_iconst (v := nI 1) hx hb dM_speak_8 (by decide +kernel) ?_
  refine tg_iconst (v := nI 1) hx hb dM_speak_9 (by decide +kernel) ?_
  refine tg_callV (C := "HangGraphModel") (As := [.int (p9), .int (q9), .int (nI (1)), .int (nI (1))]) (rest := []) ⟨hx, hb, hml, hown, hts⟩ hK hN hMv (hO.1 11 (by decide) (by decide) (by decide) (by decide)) rfl rfl rfl (c_mOut4 hO p9 q9 (nI 1) (nI 1)) (cwV 4 hts (lg_V wm_M_55 wi_M_out4 we_M_out4 wn_M wc_M_out4) rfl rfl rfl ⟨rfl, by decide, by decide, rfl⟩ ⟨by rw [hR]; exact Nat.le_of_ble_eq_true rfl, by rw [hR]; exact Nat.le_of_ble_eq_true rfl⟩) rfl (Nat.le_of_ble_eq_true rfl) ⟨by rw [hR]; exact Nat.le_of_ble_eq_true rfl, by rw [hR]; exact Nat.le_of_ble_eq_true rfl⟩ rfl dM_speak_10 (tg_kv rfl rfl ?_)
  have hb_1 := hg_b_le (mo_bad p9 q9 (nI 1) (nI 1))
  refine tg_if_ne (tgt := 54) hx hb dM_speak_13 (by decide) (fun q_2 => ?_) (fun q_2 => ?_)
  · have q_2' := q_2
    rw [← nI_0] at q_2
    have h_3 : hg_b (mo_bad p9 q9 (nI 1) (nI 1)) ≠ 0 := fun z => q_2 ((nI_eq (by omega) (by omega)).mpr z)
    refine tg_aload_n hx hb dM_speak_54 rfl rfl ?_
    refine tg_iconst (v := nI 1) hx hb dM_speak_55 (by decide +kernel) ?_
    refine tg_callV (C := "HangGraphModel") (As := [.int (nI (1))]) (rest := []) ⟨hx, hb, hml, hown, hts⟩ hK hN hMv (hO.1 11 (by decide) (by decide) (by decide) (by decide)) rfl rfl rfl (c_mFail hO 1) (cwV 1 hts (lg_V wm_M_59 wi_M_fail we_M_fail wn_M wc_M_fail) rfl rfl rfl ⟨rfl, by decide, by decide, rfl⟩ ⟨by rw [hR]; exact Nat.le_of_ble_eq_true rfl, by rw [hR]; exact Nat.le_of_ble_eq_true rfl⟩) rfl (Nat.le_of_ble_eq_true rfl) ⟨by rw [hR]; exact Nat.le_of_ble_eq_true rfl, by rw [hR]; exact Nat.le_of_ble_eq_true rfl⟩ rfl dM_speak_56 (tg_kv rfl rfl ?_)
    exact tg_iret hx hb hlocks hr hQ ⟨rfl, rfl, rfl, rfl⟩ dM_speak_59
  · have q_2' := q_2
    rw [← nI_0] at q_2
    have h_4 : hg_b (mo_bad p9 q9 (nI 1) (nI 1)) = 0 := (nI_eq (by omega) (by omega)).mp q_2
    refine tg_aload_n hx hb dM_speak_16 rfl rfl ?_
    refine tg_iload_n hx hb dM_speak_17 rfl rfl ?_
    refine tg_iload hx hb dM_speak_18 rfl ?_
    refine tg_iconst (v := nI 1) hx hb dM_speak_20 (by decide +kernel) ?_
    refine tg_iconst (v := nI 1) hx hb dM_speak_21 (by decide +kernel) ?_
    refine tg_callV (C := "HangGraphModel") (As := [.int (t9), .int (l9), .int (nI (1)), .int (nI (1))]) (rest := []) ⟨hx, hb, hml, hown, hts⟩ hK hN hMv (hO.1 11 (by decide) (by decide) (by decide) (by decide)) rfl rfl rfl (c_mOut4 hO t9 l9 (nI 1) (nI 1)) (cwV 4 hts (lg_V wm_M_55 wi_M_out4 we_M_out4 wn_M wc_M_out4) rfl rfl rfl ⟨rfl, by decide, by decide, rfl⟩ ⟨by rw [hR]; exact Nat.le_of_ble_eq_true rfl, by rw [hR]; exact Nat.le_of_ble_eq_true rfl⟩) rfl (Nat.le_of_ble_eq_true rfl) ⟨by rw [hR]; exact Nat.le_of_ble_eq_true rfl, by rw [hR]; exact Nat.le_of_ble_eq_true rfl⟩ rfl dM_speak_22 (tg_kv rfl rfl ?_)
    have hb_5 := hg_b_le (mo_bad t9 l9 (nI 1) (nI 1))
    refine tg_if_ne (tgt := 54) hx hb dM_speak_25 (by decide) (fun q_6 => ?_) (fun q_6 => ?_)
    · have q_6' := q_6
      rw [← nI_0] at q_6
      have h_7 : hg_b (mo_bad t9 l9 (nI 1) (nI 1)) ≠ 0 := fun z => q_6 ((nI_eq (by omega) (by omega)).mpr z)
      refine tg_aload_n hx hb dM_speak_54 rfl rfl ?_
      refine tg_iconst (v := nI 1) hx hb dM_speak_55 (by decide +kernel) ?_
      refine tg_callV (C := "HangGraphModel") (As := [.int (nI (1))]) (rest := []) ⟨hx, hb, hml, hown, hts⟩ hK hN hMv (hO.1 11 (by decide) (by decide) (by decide) (by decide)) rfl rfl rfl (c_mFail hO 1) (cwV 1 hts (lg_V wm_M_59 wi_M_fail we_M_fail wn_M wc_M_fail) rfl rfl rfl ⟨rfl, by decide, by decide, rfl⟩ ⟨by rw [hR]; exact Nat.le_of_ble_eq_true rfl, by rw [hR]; exact Nat.le_of_ble_eq_true rfl⟩) rfl (Nat.le_of_ble_eq_true rfl) ⟨by rw [hR]; exact Nat.le_of_ble_eq_true rfl, by rw [hR]; exact Nat.le_of_ble_eq_true rfl⟩ rfl dM_speak_56 (tg_kv rfl rfl ?_)
      exact tg_iret hx hb hlocks hr hQ ⟨rfl, rfl, rfl, rfl⟩ dM_speak_59
    · have q_6' := q_6
      rw [← nI_0] at q_6
      have h_8 : hg_b (mo_bad t9 l9 (nI 1) (nI 1)) = 0 := (nI_eq (by omega) (by omega)).mp q_6
      refine tg_aload_n hx hb dM_speak_28 rfl rfl ?_
      refine tg_iload hx hb dM_speak_29 rfl ?_
      refine tg_iload hx hb dM_speak_31 rfl ?_
      refine tg_iconst (v := nI 1) hx hb dM_speak_33 (by decide +kernel) ?_
      refine tg_iconst (v := nI 1) hx hb dM_speak_34 (by decide +kernel) ?_
      refine tg_callV (C := "HangGraphModel") (As := [.int (b9), .int (r9), .int (nI (1)), .int (nI (1))]) (rest := []) ⟨hx, hb, hml, hown, hts⟩ hK hN hMv (hO.1 11 (by decide) (by decide) (by decide) (by decide)) rfl rfl rfl (c_mOut4 hO b9 r9 (nI 1) (nI 1)) (cwV 4 hts (lg_V wm_M_55 wi_M_out4 we_M_out4 wn_M wc_M_out4) rfl rfl rfl ⟨rfl, by decide, by decide, rfl⟩ ⟨by rw [hR]; exact Nat.le_of_ble_eq_true rfl, by rw [hR]; exact Nat.le_of_ble_eq_true rfl⟩) rfl (Nat.le_of_ble_eq_true rfl) ⟨by rw [hR]; exact Nat.le_of_ble_eq_true rfl, by rw [hR]; exact Nat.le_of_ble_eq_true rfl⟩ rfl dM_speak_35 (tg_kv rfl rfl ?_)
      have hb_9 := hg_b_le (mo_bad b9 r9 (nI 1) (nI 1))
      refine tg_if_ne (tgt := 54) hx hb dM_speak_38 (by decide) (fun q_10 => ?_) (fun q_10 => ?_)
      · have q_10' := q_10
        rw [← nI_0] at q_10
        have h_11 : hg_b (mo_bad b9 r9 (nI 1) (nI 1)) ≠ 0 := fun z => q_10 ((nI_eq (by omega) (by omega)).mpr z)
        refine tg_aload_n hx hb dM_speak_54 rfl rfl ?_
        refine tg_iconst (v := nI 1) hx hb dM_speak_55 (by decide +kernel) ?_
        refine tg_callV (C := "HangGraphModel") (As := [.int (nI (1))]) (rest := []) ⟨hx, hb, hml, hown, hts⟩ hK hN hMv (hO.1 11 (by decide) (by decide) (by decide) (by decide)) rfl rfl rfl (c_mFail hO 1) (cwV 1 hts (lg_V wm_M_59 wi_M_fail we_M_fail wn_M wc_M_fail) rfl rfl rfl ⟨rfl, by decide, by decide, rfl⟩ ⟨by rw [hR]; exact Nat.le_of_ble_eq_true rfl, by rw [hR]; exact Nat.le_of_ble_eq_true rfl⟩) rfl (Nat.le_of_ble_eq_true rfl) ⟨by rw [hR]; exact Nat.le_of_ble_eq_true rfl, by rw [hR]; exact Nat.le_of_ble_eq_true rfl⟩ rfl dM_speak_56 (tg_kv rfl rfl ?_)
        exact tg_iret hx hb hlocks hr hQ ⟨rfl, rfl, rfl, rfl⟩ dM_speak_59
      · have q_10' := q_10
        rw [← nI_0] at q_10
        have h_12 : hg_b (mo_bad b9 r9 (nI 1) (nI 1)) = 0 := (nI_eq (by omega) (by omega)).mp q_10
        refine tg_iload hx hb dM_speak_41 rfl ?_
        refine tg_iload_n hx hb dM_speak_43 rfl rfl ?_
        refine tg_icmp_lt (tgt := 54) hx hb dM_speak_44 (by decide) (fun q_13 => ?_) (fun q_13 => ?_)
        · have q_13' := q_13
          refine tg_aload_n hx hb dM_speak_54 rfl rfl ?_
          refine tg_iconst (v := nI 1) hx hb dM_speak_55 (by decide +kernel) ?_
          refine tg_callV (C := "HangGraphModel") (As := [.int (nI (1))]) (rest := []) ⟨hx, hb, hml, hown, hts⟩ hK hN hMv (hO.1 11 (by decide) (by decide) (by decide) (by decide)) rfl rfl rfl (c_mFail hO 1) (cwV 1 hts (lg_V wm_M_59 wi_M_fail we_M_fail wn_M wc_M_fail) rfl rfl rfl ⟨rfl, by decide, by decide, rfl⟩ ⟨by rw [hR]; exact Nat.le_of_ble_eq_true rfl, by rw [hR]; exact Nat.le_of_ble_eq_true rfl⟩) rfl (Nat.le_of_ble_eq_true rfl) ⟨by rw [hR]; exact Nat.le_of_ble_eq_true rfl, by rw [hR]; exact Nat.le_of_ble_eq_true rfl⟩ rfl dM_speak_56 (tg_kv rfl rfl ?_)
          exact tg_iret hx hb hlocks hr hQ ⟨rfl, rfl, rfl, rfl⟩ dM_speak_59
        · have q_13' := q_13
          refine tg_iload hx hb dM_speak_47 rfl ?_
          refine tg_iload hx hb dM_speak_49 rfl ?_
          refine tg_icmp_ge (tgt := 60) hx hb dM_speak_51 (by decide) (fun q_14 => ?_) (fun q_14 => ?_)
          · have q_14' := q_14
            rcases hbad with z | z | z | z | z
            · exact absurd z (hg_b0 h_4)
            · exact absurd z (hg_b0 h_8)
            · exact absurd z (hg_b0 h_12)
            · exact absurd z q_13'
            · exact absurd z (Int32.not_lt.mpr q_14')
          · have q_14' := q_14
            refine tg_aload_n hx hb dM_speak_54 rfl rfl ?_
            refine tg_iconst (v := nI 1) hx hb dM_speak_55 (by decide +kernel) ?_
            refine tg_callV (C := "HangGraphModel") (As := [.int (nI (1))]) (rest := []) ⟨hx, hb, hml, hown, hts⟩ hK hN hMv (hO.1 11 (by decide) (by decide) (by decide) (by decide)) rfl rfl rfl (c_mFail hO 1) (cwV 1 hts (lg_V wm_M_59 wi_M_fail we_M_fail wn_M wc_M_fail) rfl rfl rfl ⟨rfl, by decide, by decide, rfl⟩ ⟨by rw [hR]; exact Nat.le_of_ble_eq_true rfl, by rw [hR]; exact Nat.le_of_ble_eq_true rfl⟩) rfl (Nat.le_of_ble_eq_true rfl) ⟨by rw [hR]; exact Nat.le_of_ble_eq_true rfl, by rw [hR]; exact Nat.le_of_ble_eq_true rfl⟩ rfl dM_speak_56 (tg_kv rfl rfl ?_)
            exact tg_iret hx hb hlocks hr hQ ⟨rfl, rfl, rfl, rfl⟩ dM_speak_59
set_option maxRecDepth 100000 in
set_option maxHeartbeats 4000000 in
/-- no such formula -/
theorem c_mSpeak2 (hO : mo_ok ok) (hMv : tg_Mv F Nn) (hB : ∀ j u, M j u < 1000000) (x y : Nat) (hx9 : x < 20) (hy9 : y < 20) (t0 l0 b0 r0 : Nat) (ht0 : t0 ≤ b0) (hb0 : b0 < 20) (hl0 : l0 ≤ r0) (hr0 : r0 < 20) (h12 : M 12 (((20) * (x)) + (y)) = 0) : tg_Met l yM_speak wsM_speak ({ frames := 1, cells := 0, slots := 0, locals := 40 }) D vwCl (hg_tys cI cF cZ cJ cA cB) F Nn ad ok (mo_w ad cI cZ cA cB M B μ) [.ref (ad 11 0), .int (nI (x)), .int (nI (y)), .int (nI (t0)), .int (nI (l0)), .int (nI (b0)), .int (nI (r0))] (tg_po ad ok fun r w1 => r = some (.int (nI 0)) ∧ w1 = (mo_w ad cI cZ cA cB (tg_up (tg_up M 11 0 0) 11 0 2) B μ)) := by
  refine tg_start (cc := cM_speak) (maxL := 8) (ret := some .int) (by decide) rfl (Nat.le_of_ble_eq_true rfl) ?_
  intro p e R s m args below meth c Q hx hb hml hr hlocks hown hname hts hK hN hR hQ
  have hown : s.vm.findClass "HangGraphModel" = some m.cls := hown
  have hts : ∀ w ∈ lw_g, w.before args s = true := fun w z => hts w (List.mem_cons_of_mem _ z)
  have hn1 : ¬ mo_bad (nI x) (nI y) (nI 1) (nI 1) := mo_ok1 hx9 hy9 (by omega) (by omega) (by omega) (by omega)
  have hn2 : ¬ mo_bad (nI t0) (nI l0) (nI 1) (nI 1) := mo_ok1 (by omega) (by omega) (by omega) (by omega) (by omega) (by omega)
  have hn3 : ¬ mo_bad (nI b0) (nI r0) (nI 1) (nI 1) := mo_ok1 (by omega) (by omega) (by omega) (by omega) (by omega) (by omega)
  refine tg_aload_n hx hb dM_speak_0 rfl rfl ?_
  refine tg_iconst (v := nI 0) hx hb dM_speak_1 (by decide +kernel) ?_
  refine tg_put (T := TM) (N := 13) (ty := .int) hx hb hts inM tyM tyM_ok nmM hown hK (hO.1 11 (by decide) (by decide) (by decide) (by decide)) rfl rfl 0 (by decide) (hts _ wf_M_51) (fun _ z => z) rfl (by decide +kernel) rfl rfl (Nat.le_of_ble_eq_true rfl) dM_speak_2 ?_
  refine tg_wp (mo_w_11 hO 0) ?_
  refine tg_aload_n hx hb dM_speak_5 rfl rfl ?_
  refine tg_iload_n hx hb dM_speak_6 rfl rfl ?_
  refine tg_iload_n hx hb dM_speak_7 rfl rfl ?_
  refine tg_iconst (v := nI 1) hx hb dM_speak_8 (by decide +kernel) ?_
  refine tg_iconst (v := nI 1) hx hb dM_speak_9 (by decide +kernel) ?_
  refine tg_callV (C := "HangGraphModel") (As := [.int (nI (x)), .int (nI (y)), .int (nI (1)), .int (nI (1))]) (rest := []) ⟨hx, hb, hml, hown, hts⟩ hK hN hMv (hO.1 11 (by decide) (by decide) (by decide) (by decide)) rfl rfl rfl (c_mOut4 hO (nI x) (nI y) (nI 1) (nI 1)) (cwV 4 hts (lg_V wm_M_55 wi_M_out4 we_M_out4 wn_M wc_M_out4) rfl rfl rfl ⟨rfl, by decide, by decide, rfl⟩ ⟨by rw [hR]; exact Nat.le_of_ble_eq_true rfl, by rw [hR]; exact Nat.le_of_ble_eq_true rfl⟩) rfl (Nat.le_of_ble_eq_true rfl) ⟨by rw [hR]; exact Nat.le_of_ble_eq_true rfl, by rw [hR]; exact Nat.le_of_ble_eq_true rfl⟩ rfl dM_speak_10 (tg_kv rfl rfl ?_)
  have hb_1 := hg_b_le (mo_bad (nI x) (nI y) (nI 1) (nI 1))
  refine tg_if_ne (tgt := 54) hx hb dM_speak_13 (by decide) (fun q_2 => ?_) (fun q_2 => ?_)
  · have q_2' := q_2
    rw [← nI_0] at q_2
    have h_3 : hg_b (mo_bad (nI x) (nI y) (nI 1) (nI 1)) ≠ 0 := fun z => q_2 ((nI_eq (by omega) (by omega)).mpr z)
    exact absurd (hg_b1 h_3) hn1
  · have q_2' := q_2
    rw [← nI_0] at q_2
    have h_4 : hg_b (mo_bad (nI x) (nI y) (nI 1) (nI 1)) = 0 := (nI_eq (by omega) (by omega)).mp q_2
    refine tg_aload_n hx hb dM_speak_16 rfl rfl ?_
    refine tg_iload_n hx hb dM_speak_17 rfl rfl ?_
    refine tg_iload hx hb dM_speak_18 rfl ?_
    refine tg_iconst (v := nI 1) hx hb dM_speak_20 (by decide +kernel) ?_
    refine tg_iconst (v := nI 1) hx hb dM_speak_21 (by decide +kernel) ?_
    refine tg_callV (C := "HangGraphModel") (As := [.int (nI (t0)), .int (nI (l0)), .int (nI (1)), .int (nI (1))]) (rest := []) ⟨hx, hb, hml, hown, hts⟩ hK hN hMv (hO.1 11 (by decide) (by decide) (by decide) (by decide)) rfl rfl rfl (c_mOut4 hO (nI t0) (nI l0) (nI 1) (nI 1)) (cwV 4 hts (lg_V wm_M_55 wi_M_out4 we_M_out4 wn_M wc_M_out4) rfl rfl rfl ⟨rfl, by decide, by decide, rfl⟩ ⟨by rw [hR]; exact Nat.le_of_ble_eq_true rfl, by rw [hR]; exact Nat.le_of_ble_eq_true rfl⟩) rfl (Nat.le_of_ble_eq_true rfl) ⟨by rw [hR]; exact Nat.le_of_ble_eq_true rfl, by rw [hR]; exact Nat.le_of_ble_eq_true rfl⟩ rfl dM_speak_22 (tg_kv rfl rfl ?_)
    have hb_5 := hg_b_le (mo_bad (nI t0) (nI l0) (nI 1) (nI 1))
    refine tg_if_ne (tgt := 54) hx hb dM_speak_25 (by decide) (fun q_6 => ?_) (fun q_6 => ?_)
    · have q_6' := q_6
      rw [← nI_0] at q_6
      have h_7 : hg_b (mo_bad (nI t0) (nI l0) (nI 1) (nI 1)) ≠ 0 := fun z => q_6 ((nI_eq (by omega) (by omega)).mpr z)
      exact absurd (hg_b1 h_7) hn2
    · have q_6' := q_6
      rw [← nI_0] at q_6
      have h_8 : hg_b (mo_bad (nI t0) (nI l0) (nI 1) (nI 1)) = 0 := (nI_eq (by omega) (by omega)).mp q_6
      refine tg_aload_n hx hb dM_speak_28 rfl rfl ?_
      refine tg_iload hx hb dM_speak_29 rfl ?_
      refine tg_iload hx hb dM_speak_31 rfl ?_
      refine tg_iconst (v := nI 1) hx hb dM_speak_33 (by decide +kernel) ?_
      refine tg_iconst (v := nI 1) hx hb dM_speak_34 (by decide +kernel) ?_
      refine tg_callV (C := "HangGraphModel") (As := [.int (nI (b0)), .int (nI (r0)), .int (nI (1)), .int (nI (1))]) (rest := []) ⟨hx, hb, hml, hown, hts⟩ hK hN hMv (hO.1 11 (by decide) (by decide) (by decide) (by decide)) rfl rfl rfl (c_mOut4 hO (nI b0) (nI r0) (nI 1) (nI 1)) (cwV 4 hts (lg_V wm_M_55 wi_M_out4 we_M_out4 wn_M wc_M_out4) rfl rfl rfl ⟨rfl, by decide, by decide, rfl⟩ ⟨by rw [hR]; exact Nat.le_of_ble_eq_true rfl, by rw [hR]; exact Nat.le_of_ble_eq_true rfl⟩) rfl (Nat.le_of_ble_eq_true rfl) ⟨by rw [hR]; exact Nat.le_of_ble_eq_true rfl, by rw [hR]; exact Nat.le_of_ble_eq_true rfl⟩ rfl dM_speak_35 (tg_kv rfl rfl ?_)
      have hb_9 := hg_b_le (mo_bad (nI b0) (nI r0) (nI 1) (nI 1))
      refine tg_if_ne (tgt := 54) hx hb dM_speak_38 (by decide) (fun q_10 => ?_) (fun q_10 => ?_)
      · have q_10' := q_10
        rw [← nI_0] at q_10
        have h_11 : hg_b (mo_bad (nI b0) (nI r0) (nI 1) (nI 1)) ≠ 0 := fun z => q_10 ((nI_eq (by omega) (by omega)).mpr z)
        exact absurd (hg_b1 h_11) hn3
      · have q_10' := q_10
        rw [← nI_0] at q_10
        have h_12 : hg_b (mo_bad (nI b0) (nI r0) (nI 1) (nI 1)) = 0 := (nI_eq (by omega) (by omega)).mp q_10
        refine tg_iload hx hb dM_speak_41 rfl ?_
        refine tg_iload_n hx hb dM_speak_43 rfl rfl ?_
        refine tg_icmp_lt (tgt := 54) hx hb dM_speak_44 (by decide) (fun q_13 => ?_) (fun q_13 => ?_)
        · have q_13' := q_13
          have h_14 : b0 < t0 := (nI_ltI (by omega) (by omega)).mp q_13
          omega
        · have q_13' := q_13
          have h_15 : t0 ≤ b0 := Nat.le_of_not_lt fun z => q_13 ((nI_ltI (by omega) (by omega)).mpr z)
          refine tg_iload hx hb dM_speak_47 rfl ?_
          refine tg_iload hx hb dM_speak_49 rfl ?_
          refine tg_icmp_ge (tgt := 60) hx hb dM_speak_51 (by decide) (fun q_16 => ?_) (fun q_16 => ?_)
          · have q_16' := q_16
            have h_17 : l0 ≤ r0 := (nI_leI (by omega) (by omega)).mp q_16
            refine tg_bipush (v := nI 20) hx hb dM_speak_60 (by decide +kernel) ?_
            refine tg_iload_n hx hb dM_speak_62 rfl rfl ?_
            refine tg_imul hx hb dM_speak_63 ?_
            refine tg_top (y := nI ((20) * (x))) (pk_mul _ _) ?_
            refine tg_iload_n hx hb dM_speak_64 rfl rfl ?_
            refine tg_iadd hx hb dM_speak_65 ?_
            refine tg_top (y := nI (((20) * (x)) + (y))) (nI_add _ _) ?_
            refine tg_istore (L' := [(0, .ref (ad 11 0)), (1, .int (nI (x))), (2, .int (nI (y))), (3, .int (nI (t0))), (4, .int (nI (l0))), (5, .int (nI (b0))), (6, .int (nI (r0))), (7, .int (nI (((20) * (x)) + (y))))]) hx hb dM_speak_66 (by decide) rfl rfl ?_
            refine tg_aload_n hx hb dM_speak_68 rfl rfl ?_
            refine tg_get (T := TM) (N := 13) hx hb hts inM hown hK (hO.1 11 (by decide) (by decide) (by decide) (by decide)) rfl rfl 1 (by decide) (hts _ wf_M_7) (fun _ z => z) rfl dM_speak_69 ?_
            refine tg_iload hx hb dM_speak_72 rfl ?_
            refine tg_zald (t0 := 2) hx hb hK (hO.1 12 (by decide) (by decide) (by decide) (by decide)) rfl rfl (x := ((20) * (x)) + (y)) (by decide) (by omega) dM_speak_74 ?_
            refine tg_top (y := nI (M 12 (((20) * (x)) + (y)))) (by simp [tg_up]) ?_
            have hb_18 := hB 12 (((20) * (x)) + (y))
            refine tg_if_ne (tgt := 84) hx hb dM_speak_75 (by decide) (fun q_19 => ?_) (fun q_19 => ?_)
            · have q_19' := q_19
              rw [← nI_0] at q_19
              have h_20 : M 12 (((20) * (x)) + (y)) ≠ 0 := fun z => q_19 ((nI_eq (by omega) (by omega)).mpr z)
              omega
            · have q_19' := q_19
              rw [← nI_0] at q_19
              have h_21 : M 12 (((20) * (x)) + (y)) = 0 := (nI_eq (by omega) (by omega)).mp q_19
              refine tg_aload_n hx hb dM_speak_78 rfl rfl ?_
              refine tg_iconst (v := nI 2) hx hb dM_speak_79 (by decide +kernel) ?_
              refine tg_callV (C := "HangGraphModel") (As := [.int (nI (2))]) (rest := []) ⟨hx, hb, hml, hown, hts⟩ hK hN hMv (hO.1 11 (by decide) (by decide) (by decide) (by decide)) rfl rfl rfl (c_mFail hO 2) (cwV 1 hts (lg_V wm_M_59 wi_M_fail we_M_fail wn_M wc_M_fail) rfl rfl rfl ⟨rfl, by decide, by decide, rfl⟩ ⟨by rw [hR]; exact Nat.le_of_ble_eq_true rfl, by rw [hR]; exact Nat.le_of_ble_eq_true rfl⟩) rfl (Nat.le_of_ble_eq_true rfl) ⟨by rw [hR]; exact Nat.le_of_ble_eq_true rfl, by rw [hR]; exact Nat.le_of_ble_eq_true rfl⟩ rfl dM_speak_80 (tg_kv rfl rfl ?_)
              exact tg_iret hx hb hlocks hr hQ ⟨rfl, rfl, rfl, rfl⟩ dM_speak_83
          · have q_16' := q_16
            have h_22 : r0 < l0 := Nat.lt_of_not_le fun z => q_16 ((nI_leI (by omega) (by omega)).mpr z)
            omega
set_option maxRecDepth 100000 in
set_option maxHeartbeats 4000000 in
/-- too many -/
theorem c_mSpeak3 (hO : mo_ok ok) (hMv : tg_Mv F Nn) (hB : ∀ j u, M j u < 1000000) (x y : Nat) (hx9 : x < 20) (hy9 : y < 20) (t0 l0 b0 r0 : Nat) (ht0 : t0 ≤ b0) (hb0 : b0 < 20) (hl0 : l0 ≤ r0) (hr0 : r0 < 20) (h12 : M 12 (((20) * (x)) + (y)) ≠ 0) (h15 : M 15 (((20) * (x)) + (y)) = 20) : tg_Met l yM_speak wsM_speak ({ frames := 1, cells := 0, slots := 0, locals := 40 }) D vwCl (hg_tys cI cF cZ cJ cA cB) F Nn ad ok (mo_w ad cI cZ cA cB M B μ) [.ref (ad 11 0), .int (nI (x)), .int (nI (y)), .int (nI (t0)), .int (nI (l0)), .int (nI (b0)), .int (nI (r0))] (tg_po ad ok fun r w1 => r = some (.int (nI 0)) ∧ w1 = (mo_w ad cI cZ cA cB (tg_up (tg_up M 11 0 0) 11 0 3) B μ)) := by
  refine tg_start (cc := cM_speak) (maxL := 8) (ret := some .int) (by decide) rfl (Nat.le_of_ble_eq_true rfl) ?_
  intro p e R s m args below meth c Q hx hb hml hr hlocks hown hname hts hK hN hR hQ
  have hown : s.vm.findClass "HangGraphModel" = some m.cls := hown
  have hts : ∀ w ∈ lw_g, w.before args s = true := fun w z => hts w (List.mem_cons_of_mem _ z)
  have hn1 : ¬ mo_bad (nI x) (nI y) (nI 1) (nI 1) := mo_ok1 hx9 hy9 (by omega) (by omega) (by omega) (by omega)
  have hn2 : ¬ mo_bad (nI t0) (nI l0) (nI 1) (nI 1) := mo_ok1 (by omega) (by omega) (by omega) (by omega) (by omega) (by omega)
  have hn3 : ¬ mo_bad (nI b0) (nI r0) (nI 1) (nI 1) := mo_ok1 (by omega) (by omega) (by omega) (by omega) (by omega) (by omega)
  refine tg_aload_n hx hb dM_speak_0 rfl rfl ?_
  refine tg_iconst (v := nI 0) hx hb dM_speak_1 (by decide +kernel) ?_
  refine tg_put (T := TM) (N := 13) (ty := .int) hx hb hts inM tyM tyM_ok nmM hown hK (hO.1 11 (by decide) (by decide) (by decide) (by decide)) rfl rfl 0 (by decide) (hts _ wf_M_51) (fun _ z => z) rfl (by decide +kernel) rfl rfl (Nat.le_of_ble_eq_true rfl) dM_speak_2 ?_
  refine tg_wp (mo_w_11 hO 0) ?_
  refine tg_aload_n hx hb dM_speak_5 rfl rfl ?_
  refine tg_iload_n hx hb dM_speak_6 rfl rfl ?_
  refine tg_iload_n hx hb dM_speak_7 rfl rfl ?_
  refine tg_iconst (v := nI 1) hx hb dM_speak_8 (by decide +kernel) ?_
  refine tg_iconst (v := nI 1) hx hb dM_speak_9 (by decide +kernel) ?_
  refine tg_callV (C := "HangGraphModel") (As := [.int (nI (x)), .int (nI (y)), .int (nI (1)), .int (nI (1))]) (rest := []) ⟨hx, hb, hml, hown, hts⟩ hK hN hMv (hO.1 11 (by decide) (by decide) (by decide) (by decide)) rfl rfl rfl (c_mOut4 hO (nI x) (nI y) (nI 1) (nI 1)) (cwV 4 hts (lg_V wm_M_55 wi_M_out4 we_M_out4 wn_M wc_M_out4) rfl rfl rfl ⟨rfl, by decide, by decide, rfl⟩ ⟨by rw [hR]; exact Nat.le_of_ble_eq_true rfl, by rw [hR]; exact Nat.le_of_ble_eq_true rfl⟩) rfl (Nat.le_of_ble_eq_true rfl) ⟨by rw [hR]; exact Nat.le_of_ble_eq_true rfl, by rw [hR]; exact Nat.le_of_ble_eq_true rfl⟩ rfl dM_speak_10 (tg_kv rfl rfl ?_)
  have hb_1 := hg_b_le (mo_bad (nI x) (nI y) (nI 1) (nI 1))
  refine tg_if_ne (tgt := 54) hx hb dM_speak_13 (by decide) (fun q_2 => ?_) (fun q_2 => ?_)
  · have q_2' := q_2
    rw [← nI_0] at q_2
    have h_3 : hg_b (mo_bad (nI x) (nI y) (nI 1) (nI 1)) ≠ 0 := fun z => q_2 ((nI_eq (by omega) (by omega)).mpr z)
    exact absurd (hg_b1 h_3) hn1
  · have q_2' := q_2
    rw [← nI_0] at q_2
    have h_4 : hg_b (mo_bad (nI x) (nI y) (nI 1) (nI 1)) = 0 := (nI_eq (by omega) (by omega)).mp q_2
    refine tg_aload_n hx hb dM_speak_16 rfl rfl ?_
    refine tg_iload_n hx hb dM_speak_17 rfl rfl ?_
    refine tg_iload hx hb dM_speak_18 rfl ?_
    refine tg_iconst (v := nI 1) hx hb dM_speak_20 (by decide +kernel) ?_
    refine tg_iconst (v := nI 1) hx hb dM_speak_21 (by decide +kernel) ?_
    refine tg_callV (C := "HangGraphModel") (As := [.int (nI (t0)), .int (nI (l0)), .int (nI (1)), .int (nI (1))]) (rest := []) ⟨hx, hb, hml, hown, hts⟩ hK hN hMv (hO.1 11 (by decide) (by decide) (by decide) (by decide)) rfl rfl rfl (c_mOut4 hO (nI t0) (nI l0) (nI 1) (nI 1)) (cwV 4 hts (lg_V wm_M_55 wi_M_out4 we_M_out4 wn_M wc_M_out4) rfl rfl rfl ⟨rfl, by decide, by decide, rfl⟩ ⟨by rw [hR]; exact Nat.le_of_ble_eq_true rfl, by rw [hR]; exact Nat.le_of_ble_eq_true rfl⟩) rfl (Nat.le_of_ble_eq_true rfl) ⟨by rw [hR]; exact Nat.le_of_ble_eq_true rfl, by rw [hR]; exact Nat.le_of_ble_eq_true rfl⟩ rfl dM_speak_22 (tg_kv rfl rfl ?_)
    have hb_5 := hg_b_le (mo_bad (nI t0) (nI l0) (nI 1) (nI 1))
    refine tg_if_ne (tgt := 54) hx hb dM_speak_25 (by decide) (fun q_6 => ?_) (fun q_6 => ?_)
    · have q_6' := q_6
      rw [← nI_0] at q_6
      have h_7 : hg_b (mo_bad (nI t0) (nI l0) (nI 1) (nI 1)) ≠ 0 := fun z => q_6 ((nI_eq (by omega) (by omega)).mpr z)
      exact absurd (hg_b1 h_7) hn2
    · have q_6' := q_6
      rw [← nI_0] at q_6
      have h_8 : hg_b (mo_bad (nI t0) (nI l0) (nI 1) (nI 1)) = 0 := (nI_eq (by omega) (by omega)).mp q_6
      refine tg_aload_n hx hb dM_speak_28 rfl rfl ?_
      refine tg_iload hx hb dM_speak_29 rfl ?_
      refine tg_iload hx hb dM_speak_31 rfl ?_
      refine tg_iconst (v := nI 1) hx hb dM_speak_33 (by decide +kernel) ?_
      refine tg_iconst (v := nI 1) hx hb dM_speak_34 (by decide +kernel) ?_
      refine tg_callV (C := "HangGraphModel") (As := [.int (nI (b0)), .int (nI (r0)), .int (nI (1)), .int (nI (1))]) (rest := []) ⟨hx, hb, hml, hown, hts⟩ hK hN hMv (hO.1 11 (by decide) (by decide) (by decide) (by decide)) rfl rfl rfl (c_mOut4 hO (nI b0) (nI r0) (nI 1) (nI 1)) (cwV 4 hts (lg_V wm_M_55 wi_M_out4 we_M_out4 wn_M wc_M_out4) rfl rfl rfl ⟨rfl, by decide, by decide, rfl⟩ ⟨by rw [hR]; exact Nat.le_of_ble_eq_true rfl, by rw [hR]; exact Nat.le_of_ble_eq_true rfl⟩) rfl (Nat.le_of_ble_eq_true rfl) ⟨by rw [hR]; exact Nat.le_of_ble_eq_true rfl, by rw [hR]; exact Nat.le_of_ble_eq_true rfl⟩ rfl dM_speak_35 (tg_kv rfl rfl ?_)
      have hb_9 := hg_b_le (mo_bad (nI b0) (nI r0) (nI 1) (nI 1))
      refine tg_if_ne (tgt := 54) hx hb dM_speak_38 (by decide) (fun q_10 => ?_) (fun q_10 => ?_)
      · have q_10' := q_10
        rw [← nI_0] at q_10
        have h_11 : hg_b (mo_bad (nI b0) (nI r0) (nI 1) (nI 1)) ≠ 0 := fun z => q_10 ((nI_eq (by omega) (by omega)).mpr z)
        exact absurd (hg_b1 h_11) hn3
      · have q_10' := q_10
        rw [← nI_0] at q_10
        have h_12 : hg_b (mo_bad (nI b0) (nI r0) (nI 1) (nI 1)) = 0 := (nI_eq (by omega) (by omega)).mp q_10
        refine tg_iload hx hb dM_speak_41 rfl ?_
        refine tg_iload_n hx hb dM_speak_43 rfl rfl ?_
        refine tg_icmp_lt (tgt := 54) hx hb dM_speak_44 (by decide) (fun q_13 => ?_) (fun q_13 => ?_)
        · have q_13' := q_13
          have h_14 : b0 < t0 := (nI_ltI (by omega) (by omega)).mp q_13
          omega
        · have q_13' := q_13
          have h_15 : t0 ≤ b0 := Nat.le_of_not_lt fun z => q_13 ((nI_ltI (by omega) (by omega)).mpr z)
          refine tg_iload hx hb dM_speak_47 rfl ?_
          refine tg_iload hx hb dM_speak_49 rfl ?_
          refine tg_icmp_ge (tgt := 60) hx hb dM_speak_51 (by decide) (fun q_16 => ?_) (fun q_16 => ?_)
          · have q_16' := q_16
            have h_17 : l0 ≤ r0 := (nI_leI (by omega) (by omega)).mp q_16
            refine tg_bipush (v := nI 20) hx hb dM_speak_60 (by decide +kernel) ?_
            refine tg_iload_n hx hb dM_speak_62 rfl rfl ?_
            refine tg_imul hx hb dM_speak_63 ?_
            refine tg_top (y := nI ((20) * (x))) (pk_mul _ _) ?_
            refine tg_iload_n hx hb dM_speak_64 rfl rfl ?_
            refine tg_iadd hx hb dM_speak_65 ?_
            refine tg_top (y := nI (((20) * (x)) + (y))) (nI_add _ _) ?_
            refine tg_istore (L' := [(0, .ref (ad 11 0)), (1, .int (nI (x))), (2, .int (nI (y))), (3, .int (nI (t0))), (4, .int (nI (l0))), (5, .int (nI (b0))), (6, .int (nI (r0))), (7, .int (nI (((20) * (x)) + (y))))]) hx hb dM_speak_66 (by decide) rfl rfl ?_
            refine tg_aload_n hx hb dM_speak_68 rfl rfl ?_
            refine tg_get (T := TM) (N := 13) hx hb hts inM hown hK (hO.1 11 (by decide) (by decide) (by decide) (by decide)) rfl rfl 1 (by decide) (hts _ wf_M_7) (fun _ z => z) rfl dM_speak_69 ?_
            refine tg_iload hx hb dM_speak_72 rfl ?_
            refine tg_zald (t0 := 2) hx hb hK (hO.1 12 (by decide) (by decide) (by decide) (by decide)) rfl rfl (x := ((20) * (x)) + (y)) (by decide) (by omega) dM_speak_74 ?_
            refine tg_top (y := nI (M 12 (((20) * (x)) + (y)))) (by simp [tg_up]) ?_
            have hb_18 := hB 12 (((20) * (x)) + (y))
            refine tg_if_ne (tgt := 84) hx hb dM_speak_75 (by decide) (fun q_19 => ?_) (fun q_19 => ?_)
            · have q_19' := q_19
              rw [← nI_0] at q_19
              have h_20 : M 12 (((20) * (x)) + (y)) ≠ 0 := fun z => q_19 ((nI_eq (by omega) (by omega)).mpr z)
              refine tg_aload_n hx hb dM_speak_84 rfl rfl ?_
              refine tg_get (T := TM) (N := 13) hx hb hts inM hown hK (hO.1 11 (by decide) (by decide) (by decide) (by decide)) rfl rfl 4 (by decide) (hts _ wf_M_20) (fun _ z => z) rfl dM_speak_85 ?_
              refine tg_iload hx hb dM_speak_88 rfl ?_
              refine tg_iald (t0 := 0) hx hb hK (hO.1 15 (by decide) (by decide) (by decide) (by decide)) rfl rfl (x := ((20) * (x)) + (y)) (by decide) (by omega) dM_speak_90 ?_
              refine tg_top (y := nI (M 15 (((20) * (x)) + (y)))) (by simp [tg_up]) ?_
              have hb_21 := hB 15 (((20) * (x)) + (y))
              refine tg_bipush (v := nI 20) hx hb dM_speak_91 (by decide +kernel) ?_
              refine tg_icmp_ne (tgt := 102) hx hb dM_speak_93 (by decide) (fun q_22 => ?_) (fun q_22 => ?_)
              · have q_22' := q_22
                have h_23 : M 15 (((20) * (x)) + (y)) ≠ 20 := fun z => q_22 ((nI_eq (by omega) (by omega)).mpr z)
                omega
              · have q_22' := q_22
                have h_24 : M 15 (((20) * (x)) + (y)) = 20 := (nI_eq (by omega) (by omega)).mp q_22
                refine tg_aload_n hx hb dM_speak_96 rfl rfl ?_
                refine tg_iconst (v := nI 3) hx hb dM_speak_97 (by decide +kernel) ?_
                refine tg_callV (C := "HangGraphModel") (As := [.int (nI (3))]) (rest := []) ⟨hx, hb, hml, hown, hts⟩ hK hN hMv (hO.1 11 (by decide) (by decide) (by decide) (by decide)) rfl rfl rfl (c_mFail hO 3) (cwV 1 hts (lg_V wm_M_59 wi_M_fail we_M_fail wn_M wc_M_fail) rfl rfl rfl ⟨rfl, by decide, by decide, rfl⟩ ⟨by rw [hR]; exact Nat.le_of_ble_eq_true rfl, by rw [hR]; exact Nat.le_of_ble_eq_true rfl⟩) rfl (Nat.le_of_ble_eq_true rfl) ⟨by rw [hR]; exact Nat.le_of_ble_eq_true rfl, by rw [hR]; exact Nat.le_of_ble_eq_true rfl⟩ rfl dM_speak_98 (tg_kv rfl rfl ?_)
                exact tg_iret hx hb hlocks hr hQ ⟨rfl, rfl, rfl, rfl⟩ dM_speak_101
            · have q_19' := q_19
              rw [← nI_0] at q_19
              have h_25 : M 12 (((20) * (x)) + (y)) = 0 := (nI_eq (by omega) (by omega)).mp q_19
              omega
          · have q_16' := q_16
            have h_26 : r0 < l0 := Nat.lt_of_not_le fun z => q_16 ((nI_leI (by omega) (by omega)).mpr z)
            omega
set_option maxRecDepth 100000 in
set_option maxHeartbeats 4000000 in
/-- one more rectangle -/
theorem c_mSpeak0 (hO : mo_ok ok) (hMv : tg_Mv F Nn) (hB : ∀ j u, M j u < 1000000) (x y : Nat) (hx9 : x < 20) (hy9 : y < 20) (t0 l0 b0 r0 : Nat) (ht0 : t0 ≤ b0) (hb0 : b0 < 20) (hl0 : l0 ≤ r0) (hr0 : r0 < 20) (h12 : M 12 (((20) * (x)) + (y)) ≠ 0) (h15 : M 15 (((20) * (x)) + (y)) < 20) : tg_Met l yM_speak wsM_speak ({ frames := 1, cells := 0, slots := 0, locals := 40 }) D vwCl (hg_tys cI cF cZ cJ cA cB) F Nn ad ok (mo_w ad cI cZ cA cB M B μ) [.ref (ad 11 0), .int (nI (x)), .int (nI (y)), .int (nI (t0)), .int (nI (l0)), .int (nI (b0)), .int (nI (r0))] (tg_po ad ok fun r w1 => r = some (.int (nI (M 15 (((20) * (x)) + (y)) + 1))) ∧ w1 = (mo_w ad cI cZ cA cB (tg_up (tg_up M 11 0 0) 15 (((20) * (x)) + (y)) (M 15 (((20) * (x)) + (y)) + 1)) (tg_up (tg_up (tg_up (tg_up B 17 (((20) * (x)) + (y)) (va_up (B 17 (((20) * (x)) + (y))) ((4) * (M 15 (((20) * (x)) + (y)))) t0)) 17 (((20) * (x)) + (y)) (va_up ((tg_up B 17 (((20) * (x)) + (y)) (va_up (B 17 (((20) * (x)) + (y))) ((4) * (M 15 (((20) * (x)) + (y)))) t0)) 17 (((20) * (x)) + (y))) (((4) * (M 15 (((20) * (x)) + (y)))) + (1)) l0)) 17 (((20) * (x)) + (y)) (va_up ((tg_up (tg_up B 17 (((20) * (x)) + (y)) (va_up (B 17 (((20) * (x)) + (y))) ((4) * (M 15 (((20) * (x)) + (y)))) t0)) 17 (((20) * (x)) + (y)) (va_up ((tg_up B 17 (((20) * (x)) + (y)) (va_up (B 17 (((20) * (x)) + (y))) ((4) * (M 15 (((20) * (x)) + (y)))) t0)) 17 (((20) * (x)) + (y))) (((4) * (M 15 (((20) * (x)) + (y)))) + (1)) l0)) 17 (((20) * (x)) + (y))) (((4) * (M 15 (((20) * (x)) + (y)))) + (2)) b0)) 17 (((20) * (x)) + (y)) (va_up ((tg_up (tg_up (tg_up B 17 (((20) * (x)) + (y)) (va_up (B 17 (((20) * (x)) + (y))) ((4) * (M 15 (((20) * (x)) + (y)))) t0)) 17 (((20) * (x)) + (y)) (va_up ((tg_up B 17 (((20) * (x)) + (y)) (va_up (B 17 (((20) * (x)) + (y))) ((4) * (M 15 (((20) * (x)) + (y)))) t0)) 17 (((20) * (x)) + (y))) (((4) * (M 15 (((20) * (x)) + (y)))) + (1)) l0)) 17 (((20) * (x)) + (y)) (va_up ((tg_up (tg_up B 17 (((20) * (x)) + (y)) (va_up (B 17 (((20) * (x)) + (y))) ((4) * (M 15 (((20) * (x)) + (y)))) t0)) 17 (((20) * (x)) + (y)) (va_up ((tg_up B 17 (((20) * (x)) + (y)) (va_up (B 17 (((20) * (x)) + (y))) ((4) * (M 15 (((20) * (x)) + (y)))) t0)) 17 (((20) * (x)) + (y))) (((4) * (M 15 (((20) * (x)) + (y)))) + (1)) l0)) 17 (((20) * (x)) + (y))) (((4) * (M 15 (((20) * (x)) + (y)))) + (2)) b0)) 17 (((20) * (x)) + (y))) (((4) * (M 15 (((20) * (x)) + (y)))) + (3)) r0)) μ)) := by
  refine tg_start (cc := cM_speak) (maxL := 8) (ret := some .int) (by decide) rfl (Nat.le_of_ble_eq_true rfl) ?_
  intro p e R s m args below meth c Q hx hb hml hr hlocks hown hname hts hK hN hR hQ
  have hown : s.vm.findClass "HangGraphModel" = some m.cls := hown
  have hts : ∀ w ∈ lw_g, w.before args s = true := fun w z => hts w (List.mem_cons_of_mem _ z)
  have hn1 : ¬ mo_bad (nI x) (nI y) (nI 1) (nI 1) := mo_ok1 hx9 hy9 (by omega) (by omega) (by omega) (by omega)
  have hn2 : ¬ mo_bad (nI t0) (nI l0) (nI 1) (nI 1) := mo_ok1 (by omega) (by omega) (by omega) (by omega) (by omega) (by omega)
  have hn3 : ¬ mo_bad (nI b0) (nI r0) (nI 1) (nI 1) := mo_ok1 (by omega) (by omega) (by omega) (by omega) (by omega) (by omega)
  refine tg_aload_n hx hb dM_speak_0 rfl rfl ?_
  refine tg_iconst (v := nI 0) hx hb dM_speak_1 (by decide +kernel) ?_
  refine tg_put (T := TM) (N := 13) (ty := .int) hx hb hts inM tyM tyM_ok nmM hown hK (hO.1 11 (by decide) (by decide) (by decide) (by decide)) rfl rfl 0 (by decide) (hts _ wf_M_51) (fun _ z => z) rfl (by decide +kernel) rfl rfl (Nat.le_of_ble_eq_true rfl) dM_speak_2 ?_
  refine tg_wp (mo_w_11 hO 0) ?_
  refine tg_aload_n hx hb dM_speak_5 rfl rfl ?_
  refine tg_iload_n hx hb dM_speak_6 rfl rfl ?_
  refine tg_iload_n hx hb dM_speak_7 rfl rfl ?_
  refine tg_iconst (v := nI 1) hx hb dM_speak_8 (by decide +kernel) ?_
  refine tg_iconst (v := nI 1) hx hb dM_speak_9 (by decide +kernel) ?_
  refine tg_callV (C := "HangGraphModel") (As := [.int (nI (x)), .int (nI (y)), .int (nI (1)), .int (nI (1))]) (rest := []) ⟨hx, hb, hml, hown, hts⟩ hK hN hMv (hO.1 11 (by decide) (by decide) (by decide) (by decide)) rfl rfl rfl (c_mOut4 hO (nI x) (nI y) (nI 1) (nI 1)) (cwV 4 hts (lg_V wm_M_55 wi_M_out4 we_M_out4 wn_M wc_M_out4) rfl rfl rfl ⟨rfl, by decide, by decide, rfl⟩ ⟨by rw [hR]; exact Nat.le_of_ble_eq_true rfl, by rw [hR]; exact Nat.le_of_ble_eq_true rfl⟩) rfl (Nat.le_of_ble_eq_true rfl) ⟨by rw [hR]; exact Nat.le_of_ble_eq_true rfl, by rw [hR]; exact Nat.le_of_ble_eq_true rfl⟩ rfl dM_speak_10 (tg_kv rfl rfl ?_)
  have hb_1 := hg_b_le (mo_bad (nI x) (nI y) (nI 1) (nI 1))
  refine tg_if_ne (tgt := 54) hx hb dM_speak_13 (by decide) (fun q_2 => ?_) (fun q_2 => ?_)
  · have q_2' := q_2
    rw [← nI_0] at q_2
    have h_3 : hg_b (mo_bad (nI x) (nI y) (nI 1) (nI 1)) ≠ 0 := fun z => q_2 ((nI_eq (by omega) (by omega)).mpr z)
    exact absurd (hg_b1 h_3) hn1
  · have q_2' := q_2
    rw [← nI_0] at q_2
    have h_4 : hg_b (mo_bad (nI x) (nI y) (nI 1) (nI 1)) = 0 := (nI_eq (by omega) (by omega)).mp q_2
    refine tg_aload_n hx hb dM_speak_16 rfl rfl ?_
    refine tg_iload_n hx hb dM_speak_17 rfl rfl ?_
    refine tg_iload hx hb dM_speak_18 rfl ?_
    refine tg_iconst (v := nI 1) hx hb dM_speak_20 (by decide +kernel) ?_
    refine tg_iconst (v := nI 1) hx hb dM_speak_21 (by decide +kernel) ?_
    refine tg_callV (C := "HangGraphModel") (As := [.int (nI (t0)), .int (nI (l0)), .int (nI (1)), .int (nI (1))]) (rest := []) ⟨hx, hb, hml, hown, hts⟩ hK hN hMv (hO.1 11 (by decide) (by decide) (by decide) (by decide)) rfl rfl rfl (c_mOut4 hO (nI t0) (nI l0) (nI 1) (nI 1)) (cwV 4 hts (lg_V wm_M_55 wi_M_out4 we_M_out4 wn_M wc_M_out4) rfl rfl rfl ⟨rfl, by decide, by decide, rfl⟩ ⟨by rw [hR]; exact Nat.le_of_ble_eq_true rfl, by rw [hR]; exact Nat.le_of_ble_eq_true rfl⟩) rfl (Nat.le_of_ble_eq_true rfl) ⟨by rw [hR]; exact Nat.le_of_ble_eq_true rfl, by rw [hR]; exact Nat.le_of_ble_eq_true rfl⟩ rfl dM_speak_22 (tg_kv rfl rfl ?_)
    have hb_5 := hg_b_le (mo_bad (nI t0) (nI l0) (nI 1) (nI 1))
    refine tg_if_ne (tgt := 54) hx hb dM_speak_25 (by decide) (fun q_6 => ?_) (fun q_6 => ?_)
    · have q_6' := q_6
      rw [← nI_0] at q_6
      have h_7 : hg_b (mo_bad (nI t0) (nI l0) (nI 1) (nI 1)) ≠ 0 := fun z => q_6 ((nI_eq (by omega) (by omega)).mpr z)
      exact absurd (hg_b1 h_7) hn2
    · have q_6' := q_6
      rw [← nI_0] at q_6
      have h_8 : hg_b (mo_bad (nI t0) (nI l0) (nI 1) (nI 1)) = 0 := (nI_eq (by omega) (by omega)).mp q_6
      refine tg_aload_n hx hb dM_speak_28 rfl rfl ?_
      refine tg_iload hx hb dM_speak_29 rfl ?_
      refine tg_iload hx hb dM_speak_31 rfl ?_
      refine tg_iconst (v := nI 1) hx hb dM_speak_33 (by decide +kernel) ?_
      refine tg_iconst (v := nI 1) hx hb dM_speak_34 (by decide +kernel) ?_
      refine tg_callV (C := "HangGraphModel") (As := [.int (nI (b0)), .int (nI (r0)), .int (nI (1)), .int (nI (1))]) (rest := []) ⟨hx, hb, hml, hown, hts⟩ hK hN hMv (hO.1 11 (by decide) (by decide) (by decide) (by decide)) rfl rfl rfl (c_mOut4 hO (nI b0) (nI r0) (nI 1) (nI 1)) (cwV 4 hts (lg_V wm_M_55 wi_M_out4 we_M_out4 wn_M wc_M_out4) rfl rfl rfl ⟨rfl, by decide, by decide, rfl⟩ ⟨by rw [hR]; exact Nat.le_of_ble_eq_true rfl, by rw [hR]; exact Nat.le_of_ble_eq_true rfl⟩) rfl (Nat.le_of_ble_eq_true rfl) ⟨by rw [hR]; exact Nat.le_of_ble_eq_true rfl, by rw [hR]; exact Nat.le_of_ble_eq_true rfl⟩ rfl dM_speak_35 (tg_kv rfl rfl ?_)
      have hb_9 := hg_b_le (mo_bad (nI b0) (nI r0) (nI 1) (nI 1))
      refine tg_if_ne (tgt := 54) hx hb dM_speak_38 (by decide) (fun q_10 => ?_) (fun q_10 => ?_)
      · have q_10' := q_10
        rw [← nI_0] at q_10
        have h_11 : hg_b (mo_bad (nI b0) (nI r0) (nI 1) (nI 1)) ≠ 0 := fun z => q_10 ((nI_eq (by omega) (by omega)).mpr z)
        exact absurd (hg_b1 h_11) hn3
      · have q_10' := q_10
        rw [← nI_0] at q_10
        have h_12 : hg_b (mo_bad (nI b0) (nI r0) (nI 1) (nI 1)) = 0 := (nI_eq (by omega) (by omega)).mp q_10
        refine tg_iload hx hb dM_speak_41 rfl ?_
        refine tg_iload_n hx hb dM_speak_43 rfl rfl ?_
        refine tg_icmp_lt (tgt := 54) hx hb dM_speak_44 (by decide) (fun q_13 => ?_) (fun q_13 => ?_)
        · have q_13' := q_13
          have h_14 : b0 < t0 := (nI_ltI (by omega) (by omega)).mp q_13
          omega
        · have q_13' := q_13
          have h_15 : t0 ≤ b0 := Nat.le_of_not_lt fun z => q_13 ((nI_ltI (by omega) (by omega)).mpr z)
          refine tg_iload hx hb dM_speak_47 rfl ?_
          refine tg_iload hx hb dM_speak_49 rfl ?_
          refine tg_icmp_ge (tgt := 60) hx hb dM_speak_51 (by decide) (fun q_16 => ?_) (fun q_16 => ?_)
          · have q_16' := q_16
            have h_17 : l0 ≤ r0 := (nI_leI (by omega) (by omega)).mp q_16
            refine tg_bipush (v := nI 20) hx hb dM_speak_60 (by decide +kernel) ?_
            refine tg_iload_n hx hb dM_speak_62 rfl rfl ?_
            refine tg_imul hx hb dM_speak_63 ?_
            refine tg_top (y := nI ((20) * (x))) (pk_mul _ _) ?_
            refine tg_iload_n hx hb dM_speak_64 rfl rfl ?_
            refine tg_iadd hx hb dM_speak_65 ?_
            refine tg_top (y := nI (((20) * (x)) + (y))) (nI_add _ _) ?_
            refine tg_istore (L' := [(0, .ref (ad 11 0)), (1, .int (nI (x))), (2, .int (nI (y))), (3, .int (nI (t0))), (4, .int (nI (l0))), (5, .int (nI (b0))), (6, .int (nI (r0))), (7, .int (nI (((20) * (x)) + (y))))]) hx hb dM_speak_66 (by decide) rfl rfl ?_
            refine tg_aload_n hx hb dM_speak_68 rfl rfl ?_
            refine tg_get (T := TM) (N := 13) hx hb hts inM hown hK (hO.1 11 (by decide) (by decide) (by decide) (by decide)) rfl rfl 1 (by decide) (hts _ wf_M_7) (fun _ z => z) rfl dM_speak_69 ?_
            refine tg_iload hx hb dM_speak_72 rfl ?_
            refine tg_zald (t0 := 2) hx hb hK (hO.1 12 (by decide) (by decide) (by decide) (by decide)) rfl rfl (x := ((20) * (x)) + (y)) (by decide) (by omega) dM_speak_74 ?_
            refine tg_top (y := nI (M 12 (((20) * (x)) + (y)))) (by simp [tg_up]) ?_
            have hb_18 := hB 12 (((20) * (x)) + (y))
            refine tg_if_ne (tgt := 84) hx hb dM_speak_75 (by decide) (fun q_19 => ?_) (fun q_19 => ?_)
            · have q_19' := q_19
              rw [← nI_0] at q_19
              have h_20 : M 12 (((20) * (x)) + (y)) ≠ 0 := fun z => q_19 ((nI_eq (by omega) (by omega)).mpr z)
              refine tg_aload_n hx hb dM_speak_84 rfl rfl ?_
              refine tg_get (T := TM) (N := 13) hx hb hts inM hown hK (hO.1 11 (by decide) (by decide) (by decide) (by decide)) rfl rfl 4 (by decide) (hts _ wf_M_20) (fun _ z => z) rfl dM_speak_85 ?_
              refine tg_iload hx hb dM_speak_88 rfl ?_
              refine tg_iald (t0 := 0) hx hb hK (hO.1 15 (by decide) (by decide) (by decide) (by decide)) rfl rfl (x := ((20) * (x)) + (y)) (by decide) (by omega) dM_speak_90 ?_
              refine tg_top (y := nI (M 15 (((20) * (x)) + (y)))) (by simp [tg_up]) ?_
              have hb_21 := hB 15 (((20) * (x)) + (y))
              refine tg_bipush (v := nI 20) hx hb dM_speak_91 (by decide +kernel) ?_
              refine tg_icmp_ne (tgt := 102) hx hb dM_speak_93 (by decide) (fun q_22 => ?_) (fun q_22 => ?_)
              · have q_22' := q_22
                have h_23 : M 15 (((20) * (x)) + (y)) ≠ 20 := fun z => q_22 ((nI_eq (by omega) (by omega)).mpr z)
                refine tg_aload_n hx hb dM_speak_102 rfl rfl ?_
                refine tg_get (T := TM) (N := 13) hx hb hts inM hown hK (hO.1 11 (by decide) (by decide) (by decide) (by decide)) rfl rfl 5 (by decide) (hts _ wf_M_25) (fun _ z => z) rfl dM_speak_103 ?_
                refine tg_iload hx hb dM_speak_106 rfl ?_
                refine tg_aaldA (t0 := 4) hx hb hK (hO.1 16 (by decide) (by decide) (by decide) (by decide)) rfl rfl rfl (x := ((20) * (x)) + (y)) (by decide) (by omega) dM_speak_108 ?_
                refine tg_st (st' := .ref (ad 17 (((20) * (x)) + (y))) :: []) rfl ?_
                refine tg_iconst (v := nI 4) hx hb dM_speak_109 (by decide +kernel) ?_
                refine tg_aload_n hx hb dM_speak_110 rfl rfl ?_
                refine tg_get (T := TM) (N := 13) hx hb hts inM hown hK (hO.1 11 (by decide) (by decide) (by decide) (by decide)) rfl rfl 4 (by decide) (hts _ wf_M_20) (fun _ z => z) rfl dM_speak_111 ?_
                refine tg_iload hx hb dM_speak_114 rfl ?_
                refine tg_iald (t0 := 0) hx hb hK (hO.1 15 (by decide) (by decide) (by decide) (by decide)) rfl rfl (x := ((20) * (x)) + (y)) (by decide) (by omega) dM_speak_116 ?_
                refine tg_top (y := nI (M 15 (((20) * (x)) + (y)))) (by simp [tg_up]) ?_
                have hb_24 := hB 15 (((20) * (x)) + (y))
                refine tg_imul hx hb dM_speak_117 ?_
                refine tg_top (y := nI ((4) * (M 15 (((20) * (x)) + (y))))) (pk_mul _ _) ?_
                refine tg_iload_n hx hb dM_speak_118 rfl rfl ?_
                refine tg_iast (t0 := 0) hx hb hK (hO.2.1 (((20) * (x)) + (y)) (by omega)).1 rfl rfl (x := (4) * (M 15 (((20) * (x)) + (y)))) (v := nI (t0)) (by decide) (by omega) dM_speak_119 ?_
                refine tg_w (mo_w_17 (((20) * (x)) + (y)) ((4) * (M 15 (((20) * (x)) + (y)))) t0) ?_
                refine tg_aload_n hx hb dM_speak_120 rfl rfl ?_
                refine tg_get (T := TM) (N := 13) hx hb hts inM hown hK (hO.1 11 (by decide) (by decide) (by decide) (by decide)) rfl rfl 5 (by decide) (hts _ wf_M_25) (fun _ z => z) rfl dM_speak_121 ?_
                refine tg_iload hx hb dM_speak_124 rfl ?_
                refine tg_aaldA (t0 := 4) hx hb hK (hO.1 16 (by decide) (by decide) (by decide) (by decide)) rfl rfl rfl (x := ((20) * (x)) + (y)) (by decide) (by omega) dM_speak_126 ?_
                refine tg_st (st' := .ref (ad 17 (((20) * (x)) + (y))) :: []) rfl ?_
                refine tg_iconst (v := nI 4) hx hb dM_speak_127 (by decide +kernel) ?_
                refine tg_aload_n hx hb dM_speak_128 rfl rfl ?_
                refine tg_get (T := TM) (N := 13) hx hb hts inM hown hK (hO.1 11 (by decide) (by decide) (by decide) (by decide)) rfl rfl 4 (by decide) (hts _ wf_M_20) (fun _ z => z) rfl dM_speak_129 ?_
                refine tg_iload hx hb dM_speak_132 rfl ?_
                refine tg_iald (t0 := 0) hx hb hK (hO.1 15 (by decide) (by decide) (by decide) (by decide)) rfl rfl (x := ((20) * (x)) + (y)) (by decide) (by omega) dM_speak_134 ?_
                refine tg_top (y := nI (M 15 (((20) * (x)) + (y)))) (by simp [tg_up]) ?_
                have hb_25 := hB 15 (((20) * (x)) + (y))
                refine tg_imul hx hb dM_speak_135 ?_
                refine tg_top (y := nI ((4) * (M 15 (((20) * (x)) + (y))))) (pk_mul _ _) ?_
                refine tg_iconst (v := nI 1) hx hb dM_speak_136 (by decide +kernel) ?_
                refine tg_iadd hx hb dM_speak_137 ?_
                refine tg_top (y := nI (((4) * (M 15 (((20) * (x)) + (y)))) + (1))) (nI_add _ _) ?_
                refine tg_iload hx hb dM_speak_138 rfl ?_
                refine tg_iast (t0 := 0) hx hb hK (hO.2.1 (((20) * (x)) + (y)) (by omega)).1 rfl rfl (x := ((4) * (M 15 (((20) * (x)) + (y)))) + (1)) (v := nI (l0)) (by decide) (by omega) dM_speak_140 ?_
                refine tg_w (mo_w_17 (((20) * (x)) + (y)) (((4) * (M 15 (((20) * (x)) + (y)))) + (1)) l0) ?_
                refine tg_aload_n hx hb dM_speak_141 rfl rfl ?_
                refine tg_get (T := TM) (N := 13) hx hb hts inM hown hK (hO.1 11 (by decide) (by decide) (by decide) (by decide)) rfl rfl 5 (by decide) (hts _ wf_M_25) (fun _ z => z) rfl dM_speak_142 ?_
                refine tg_iload hx hb dM_speak_145 rfl ?_
                refine tg_aaldA (t0 := 4) hx hb hK (hO.1 16 (by decide) (by decide) (by decide) (by decide)) rfl rfl rfl (x := ((20) * (x)) + (y)) (by decide) (by omega) dM_speak_147 ?_
                refine tg_st (st' := .ref (ad 17 (((20) * (x)) + (y))) :: []) rfl ?_
                refine tg_iconst (v := nI 4) hx hb dM_speak_148 (by decide +kernel) ?_
                refine tg_aload_n hx hb dM_speak_149 rfl rfl ?_
                refine tg_get (T := TM) (N := 13) hx hb hts inM hown hK (hO.1 11 (by decide) (by decide) (by decide) (by decide)) rfl rfl 4 (by decide) (hts _ wf_M_20) (fun _ z => z) rfl dM_speak_150 ?_
                refine tg_iload hx hb dM_speak_153 rfl ?_
                refine tg_iald (t0 := 0) hx hb hK (hO.1 15 (by decide) (by decide) (by decide) (by decide)) rfl rfl (x := ((20) * (x)) + (y)) (by decide) (by omega) dM_speak_155 ?_
                refine tg_top (y := nI (M 15 (((20) * (x)) + (y)))) (by simp [tg_up]) ?_
                have hb_26 := hB 15 (((20) * (x)) + (y))
                refine tg_imul hx hb dM_speak_156 ?_
                refine tg_top (y := nI ((4) * (M 15 (((20) * (x)) + (y))))) (pk_mul _ _) ?_
                refine tg_iconst (v := nI 2) hx hb dM_speak_157 (by decide +kernel) ?_
                refine tg_iadd hx hb dM_speak_158 ?_
                refine tg_top (y := nI (((4) * (M 15 (((20) * (x)) + (y)))) + (2))) (nI_add _ _) ?_
                refine tg_iload hx hb dM_speak_159 rfl ?_
                refine tg_iast (t0 := 0) hx hb hK (hO.2.1 (((20) * (x)) + (y)) (by omega)).1 rfl rfl (x := ((4) * (M 15 (((20) * (x)) + (y)))) + (2)) (v := nI (b0)) (by decide) (by omega) dM_speak_161 ?_
                refine tg_w (mo_w_17 (((20) * (x)) + (y)) (((4) * (M 15 (((20) * (x)) + (y)))) + (2)) b0) ?_
                refine tg_aload_n hx hb dM_speak_162 rfl rfl ?_
                refine tg_get (T := TM) (N := 13) hx hb hts inM hown hK (hO.1 11 (by decide) (by decide) (by decide) (by decide)) rfl rfl 5 (by decide) (hts _ wf_M_25) (fun _ z => z) rfl dM_speak_163 ?_
                refine tg_iload hx hb dM_speak_166 rfl ?_
                refine tg_aaldA (t0 := 4) hx hb hK (hO.1 16 (by decide) (by decide) (by decide) (by decide)) rfl rfl rfl (x := ((20) * (x)) + (y)) (by decide) (by omega) dM_speak_168 ?_
                refine tg_st (st' := .ref (ad 17 (((20) * (x)) + (y))) :: []) rfl ?_
                refine tg_iconst (v := nI 4) hx hb dM_speak_169 (by decide +kernel) ?_
                refine tg_aload_n hx hb dM_speak_170 rfl rfl ?_
                refine tg_get (T := TM) (N := 13) hx hb hts inM hown hK (hO.1 11 (by decide) (by decide) (by decide) (by decide)) rfl rfl 4 (by decide) (hts _ wf_M_20) (fun _ z => z) rfl dM_speak_171 ?_
                refine tg_iload hx hb dM_speak_174 rfl ?_
                refine tg_iald (t0 := 0) hx hb hK (hO.1 15 (by decide) (by decide) (by decide) (by decide)) rfl rfl (x := ((20) * (x)) + (y)) (by decide) (by omega) dM_speak_176 ?_
                refine tg_top (y := nI (M 15 (((20) * (x)) + (y)))) (by simp [tg_up]) ?_
                have hb_27 := hB 15 (((20) * (x)) + (y))
                refine tg_imul hx hb dM_speak_177 ?_
                refine tg_top (y := nI ((4) * (M 15 (((20) * (x)) + (y))))) (pk_mul _ _) ?_
                refine tg_iconst (v := nI 3) hx hb dM_speak_178 (by decide +kernel) ?_
                refine tg_iadd hx hb dM_speak_179 ?_
                refine tg_top (y := nI (((4) * (M 15 (((20) * (x)) + (y)))) + (3))) (nI_add _ _) ?_
                refine tg_iload hx hb dM_speak_180 rfl ?_
                refine tg_iast (t0 := 0) hx hb hK (hO.2.1 (((20) * (x)) + (y)) (by omega)).1 rfl rfl (x := ((4) * (M 15 (((20) * (x)) + (y)))) + (3)) (v := nI (r0)) (by decide) (by omega) dM_speak_182 ?_
                refine tg_w (mo_w_17 (((20) * (x)) + (y)) (((4) * (M 15 (((20) * (x)) + (y)))) + (3)) r0) ?_
                refine tg_aload_n hx hb dM_speak_183 rfl rfl ?_
                refine tg_get (T := TM) (N := 13) hx hb hts inM hown hK (hO.1 11 (by decide) (by decide) (by decide) (by decide)) rfl rfl 4 (by decide) (hts _ wf_M_20) (fun _ z => z) rfl dM_speak_184 ?_
                refine tg_iload hx hb dM_speak_187 rfl ?_
                refine tg_dup2 hx hb dM_speak_189 rfl rfl ?_
                refine tg_iald (t0 := 0) hx hb hK (hO.1 15 (by decide) (by decide) (by decide) (by decide)) rfl rfl (x := ((20) * (x)) + (y)) (by decide) (by omega) dM_speak_190 ?_
                refine tg_top (y := nI (M 15 (((20) * (x)) + (y)))) (by simp [tg_up]) ?_
                have hb_28 := hB 15 (((20) * (x)) + (y))
                refine tg_iconst (v := nI 1) hx hb dM_speak_191 (by decide +kernel) ?_
                refine tg_iadd hx hb dM_speak_192 ?_
                refine tg_top (y := nI ((M 15 (((20) * (x)) + (y))) + (1))) (nI_add _ _) ?_
                refine tg_iast (t0 := 0) hx hb hK (hO.1 15 (by decide) (by decide) (by decide) (by decide)) rfl rfl (x := ((20) * (x)) + (y)) (v := nI ((M 15 (((20) * (x)) + (y))) + (1))) (by decide) (by omega) dM_speak_193 ?_
                refine tg_wp (mo_w_15 hO (((20) * (x)) + (y)) ((M 15 (((20) * (x)) + (y))) + (1))) ?_
                refine tg_aload_n hx hb dM_speak_194 rfl rfl ?_
                refine tg_get (T := TM) (N := 13) hx hb hts inM hown hK (hO.1 11 (by decide) (by decide) (by decide) (by decide)) rfl rfl 4 (by decide) (hts _ wf_M_20) (fun _ z => z) rfl dM_speak_195 ?_
                refine tg_iload hx hb dM_speak_198 rfl ?_
                refine tg_iald (t0 := 0) hx hb hK (hO.1 15 (by decide) (by decide) (by decide) (by decide)) rfl rfl (x := ((20) * (x)) + (y)) (by decide) (by omega) dM_speak_200 ?_
                refine tg_top (y := nI ((M 15 (((20) * (x)) + (y))) + (1))) (by simp [tg_up]) ?_
                exact tg_iret hx hb hlocks hr hQ ⟨rfl, rfl, rfl, rfl⟩ dM_speak_201
              · have q_22' := q_22
                have h_29 : M 15 (((20) * (x)) + (y)) = 20 := (nI_eq (by omega) (by omega)).mp q_22
                omega
            · have q_19' := q_19
              rw [← nI_0] at q_19
              have h_30 : M 12 (((20) * (x)) + (y)) = 0 := (nI_eq (by omega) (by omega)).mp q_19
              omega
          · have q_16' := q_16
            have h_31 : r0 < l0 := Nat.lt_of_not_le fun z => q_16 ((nI_leI (by omega) (by omega)).mpr z)
            omega
end MOD
