/-! the reference's small methods -/
/-- a cell or a block that is not on the grid -/
def mo_bad (p q h v : Int32) : Prop := p < 0 ∨ q < 0 ∨ nI 19 < p ∨ nI 19 < q ∨ h < nI 1 ∨ v < nI 1 ∨ nI 20 - p < h ∨ ¬ v ≤ nI 20 - q
/-- the block of f is there and has the cell k -/
def mo_in (M : Nat → Nat → Nat) (f k : Nat) : Prop := M 12 f ≠ 0 ∧ f / 20 ≤ k / 20 ∧ k / 20 < f / 20 + M 13 f ∧ f % 20 ≤ k % 20 ∧ k % 20 < f % 20 + M 14 f
/-- what owner answers -/
def mo_ow (M : Nat → Nat → Nat) (k : Nat) (r : Option Value) : Prop := (∃ f, f < 400 ∧ mo_in M f k ∧ r = some (.int (nI f)) ∧ ∀ g, g < f → ¬ mo_in M g k) ∨ ((∀ g, g < 400 → ¬ mo_in M g k) ∧ r = some (.int (-1)))
theorem mo_in_e {M M' : Nat → Nat → Nat} (h12 : M' 12 = M 12) (h13 : M' 13 = M 13) (h14 : M' 14 = M 14) (f k : Nat) : mo_in M' f k ↔ mo_in M f k := by
  unfold mo_in
  rw [h12, h13, h14]
theorem mo_col {α : Type} (M : Nat → Nat → α) {j k : Nat} (u : Nat) (v : α) (h : j ≠ k) : (tg_up M k u v) j = M j := by
  funext z
  exact tg_up_ne _ _ (fun q => h q.1)
theorem mo_in_0 (M : Nat → Nat → Nat) (v f k : Nat) : mo_in (tg_up M 11 0 v) f k ↔ mo_in M f k := mo_in_e (mo_col M 0 v (by decide)) (mo_col M 0 v (by decide)) (mo_col M 0 v (by decide)) f k
theorem mo_ok1 {x y h v : Nat} (hx : x < 20) (hy : y < 20) (h1 : 1 ≤ h) (h2 : h ≤ 20 - x) (v1 : 1 ≤ v) (v2 : v ≤ 20 - y) : ¬ mo_bad (nI x) (nI y) (nI h) (nI v) := by
  have n0 : ∀ {z : Nat}, z < 1000 → ¬ nI z < 0 := fun hz q => by
    rw [← nI_0] at q
    exact absurd ((nI_ltI (by omega) (by omega)).mp q) (by omega)
  intro q
  rcases q with q | q | q | q | q | q | q | q
  · exact n0 (by omega) q
  · exact n0 (by omega) q
  · exact absurd ((nI_ltI (by omega) (by omega)).mp q) (by omega)
  · exact absurd ((nI_ltI (by omega) (by omega)).mp q) (by omega)
  · exact absurd ((nI_ltI (by omega) (by omega)).mp q) (by omega)
  · exact absurd ((nI_ltI (by omega) (by omega)).mp q) (by omega)
  · rw [pk_sub (by omega)] at q
    exact absurd ((nI_ltI (by omega) (by omega)).mp q) (by omega)
  · rw [pk_sub (by omega)] at q
    exact q ((nI_leI (by omega) (by omega)).mpr (by omega))
section MOA
variable {l : Launch} {D : va_G} {F : Nat → Prop} {Nn : State → Heap → Prop} {ad : Nat → Nat → Nat} {ok : Nat → Nat → Prop} {cF cI cZ cJ cA cB : ClassId} {M : Nat → Nat → Nat} {B : Nat → Nat → Nat → Nat} {μ : Nat → Nat → va_E}
theorem mo_b0 (hB : ∀ j u, M j u < 1000000) {k x v : Nat} (hv : v < 1000000) : ∀ j u, (tg_up M k x v) j u < 1000000 := fun j u => by
  unfold tg_up
  split
  · exact hv
  · exact hB j u
set_option maxRecDepth 100000 in
set_option maxHeartbeats 4000000 in
/-- what was thrown -/
theorem c_mThrown (hO : mo_ok ok) : tg_Met l yM_thrown wsM_thrown ({ frames := 0, cells := 0, slots := 0, locals := 0 }) D vwCl (hg_tys cI cF cZ cJ cA cB) F Nn ad ok (mo_w ad cI cZ cA cB M B μ) [.ref (ad 11 0)] (tg_po ad ok fun r w1 => r = some (.int (nI (M 11 0))) ∧ w1 = (mo_w ad cI cZ cA cB M B μ)) := by
  refine tg_start (cc := cM_thrown) (maxL := 1) (ret := some .int) (by decide) rfl (Nat.le_of_ble_eq_true rfl) ?_
  intro p e R s m args below meth c Q hx hb hml hr hlocks hown hname hts hK hN hR hQ
  have hown : s.vm.findClass "HangGraphModel" = some m.cls := hown
  have hts : ∀ w ∈ lw_g, w.before args s = true := fun w z => hts w (List.mem_cons_of_mem _ z)
  refine tg_aload_n hx hb dM_thrown_0 rfl rfl ?_
  refine tg_get (T := TM) (N := 13) hx hb hts inM hown hK (hO.1 11 (by decide) (by decide) (by decide) (by decide)) rfl rfl 0 (by decide) (hts _ wf_M_51) (fun _ z => z) rfl dM_thrown_1 ?_
  exact tg_iret hx hb hlocks hr hQ ⟨rfl, rfl, rfl, rfl⟩ dM_thrown_4
set_option maxRecDepth 100000 in
set_option maxHeartbeats 4000000 in
/-- a refusal -/
theorem c_mFail (hO : mo_ok ok) (k : Nat) : tg_Met l yM_fail wsM_fail ({ frames := 0, cells := 0, slots := 0, locals := 0 }) D vwCl (hg_tys cI cF cZ cJ cA cB) F Nn ad ok (mo_w ad cI cZ cA cB M B μ) [.ref (ad 11 0), .int (nI (k))] (tg_po ad ok fun r w1 => r = some (.int (nI 0)) ∧ w1 = (mo_w ad cI cZ cA cB (tg_up M 11 0 k) B μ)) := by
  refine tg_start (cc := cM_fail) (maxL := 2) (ret := some .int) (by decide) rfl (Nat.le_of_ble_eq_true rfl) ?_
  intro p e R s m args below meth c Q hx hb hml hr hlocks hown hname hts hK hN hR hQ
  have hown : s.vm.findClass "HangGraphModel" = some m.cls := hown
  have hts : ∀ w ∈ lw_g, w.before args s = true := fun w z => hts w (List.mem_cons_of_mem _ z)
  refine tg_aload_n hx hb dM_fail_0 rfl rfl ?_
  refine tg_iload_n hx hb dM_fail_1 rfl rfl ?_
  refine tg_put (T := TM) (N := 13) (ty := .int) hx hb hts inM tyM tyM_ok nmM hown hK (hO.1 11 (by decide) (by decide) (by decide) (by decide)) rfl rfl 0 (by decide) (hts _ wf_M_51) (fun _ z => z) rfl (by decide +kernel) rfl rfl (Nat.le_of_ble_eq_true rfl) dM_fail_2 ?_
  refine tg_wp (mo_w_11 hO k) ?_
  refine tg_iconst (v := nI 0) hx hb dM_fail_5 (by decide +kernel) ?_
  exact tg_iret hx hb hlocks hr hQ ⟨rfl, rfl, rfl, rfl⟩ dM_fail_6
set_option maxRecDepth 100000 in
set_option maxHeartbeats 4000000 in
/-- is it off the grid? -/
theorem c_mOut4 (hO : mo_ok ok) (p9 q9 h9 v9 : Int32) : tg_Met l yM_out4 wsM_out4 ({ frames := 0, cells := 0, slots := 0, locals := 0 }) D vwCl (hg_tys cI cF cZ cJ cA cB) F Nn ad ok (mo_w ad cI cZ cA cB M B μ) [.ref (ad 11 0), .int (p9), .int (q9), .int (h9), .int (v9)] (tg_po ad ok fun r w1 => r = some (.int (nI (hg_b (mo_bad p9 q9 h9 v9)))) ∧ w1 = (mo_w ad cI cZ cA cB M B μ)) := by
  refine tg_start (cc := cM_out4) (maxL := 5) (ret := some .boolean) (by decide) rfl (Nat.le_of_ble_eq_true rfl) ?_
  intro p e R s m args below meth c Q hx hb hml hr hlocks hown hname hts hK hN hR hQ
  have hown : s.vm.findClass "HangGraphModel" = some m.cls := hown
  have hts : ∀ w ∈ lw_g, w.before args s = true := fun w z => hts w (List.mem_cons_of_mem _ z)
  refine tg_iload_n hx hb dM_out4_0 rfl rfl ?_
  refine tg_if_lt (tgt := 48) hx hb dM_out4_1 (by decide) (fun q_1 => ?_) (fun q_1 => ?_)
  · have q_1' := q_1
    refine tg_iconst (v := nI 1) hx hb dM_out4_48 (by decide +kernel) ?_
    refine tg_goto (tgt := 53) hx hb dM_out4_49 (by decide) ?_
    have hp : mo_bad p9 q9 h9 v9 := Or.inl q_1'
    exact tg_zret hx hb hlocks hr hQ (by decide +kernel) ⟨rfl, rfl, by rw [hg_b_t hp], rfl⟩ dM_out4_53
  · have q_1' := q_1
    refine tg_iload_n hx hb dM_out4_4 rfl rfl ?_
    refine tg_if_lt (tgt := 48) hx hb dM_out4_5 (by decide) (fun q_2 => ?_) (fun q_2 => ?_)
    · have q_2' := q_2
      refine tg_iconst (v := nI 1) hx hb dM_out4_48 (by decide +kernel) ?_
      refine tg_goto (tgt := 53) hx hb dM_out4_49 (by decide) ?_
      have hp : mo_bad p9 q9 h9 v9 := Or.inr (Or.inl q_2')
      exact tg_zret hx hb hlocks hr hQ (by decide +kernel) ⟨rfl, rfl, by rw [hg_b_t hp], rfl⟩ dM_out4_53
    · have q_2' := q_2
      refine tg_iload_n hx hb dM_out4_8 rfl rfl ?_
      refine tg_bipush (v := nI 19) hx hb dM_out4_9 (by decide +kernel) ?_
      refine tg_icmp_gt (tgt := 48) hx hb dM_out4_11 (by decide) (fun q_3 => ?_) (fun q_3 => ?_)
      · have q_3' := q_3
        refine tg_iconst (v := nI 1) hx hb dM_out4_48 (by decide +kernel) ?_
        refine tg_goto (tgt := 53) hx hb dM_out4_49 (by decide) ?_
        have hp : mo_bad p9 q9 h9 v9 := Or.inr (Or.inr (Or.inl q_3'))
        exact tg_zret hx hb hlocks hr hQ (by decide +kernel) ⟨rfl, rfl, by rw [hg_b_t hp], rfl⟩ dM_out4_53
      · have q_3' := q_3
        refine tg_iload_n hx hb dM_out4_14 rfl rfl ?_
        refine tg_bipush (v := nI 19) hx hb dM_out4_15 (by decide +kernel) ?_
        refine tg_icmp_gt (tgt := 48) hx hb dM_out4_17 (by decide) (fun q_4 => ?_) (fun q_4 => ?_)
        · have q_4' := q_4
          refine tg_iconst (v := nI 1) hx hb dM_out4_48 (by decide +kernel) ?_
          refine tg_goto (tgt := 53) hx hb dM_out4_49 (by decide) ?_
          have hp : mo_bad p9 q9 h9 v9 := Or.inr (Or.inr (Or.inr (Or.inl q_4')))
          exact tg_zret hx hb hlocks hr hQ (by decide +kernel) ⟨rfl, rfl, by rw [hg_b_t hp], rfl⟩ dM_out4_53
        · have q_4' := q_4
          refine tg_iload_n hx hb dM_out4_20 rfl rfl ?_
          refine tg_iconst (v := nI 1) hx hb dM_out4_21 (by decide +kernel) ?_
          refine tg_icmp_lt (tgt := 48) hx hb dM_out4_22 (by decide) (fun q_5 => ?_) (fun q_5 => ?_)
          · have q_5' := q_5
            refine tg_iconst (v := nI 1) hx hb dM_out4_48 (by decide +kernel) ?_
            refine tg_goto (tgt := 53) hx hb dM_out4_49 (by decide) ?_
            have hp : mo_bad p9 q9 h9 v9 := Or.inr (Or.inr (Or.inr (Or.inr (Or.inl q_5'))))
            exact tg_zret hx hb hlocks hr hQ (by decide +kernel) ⟨rfl, rfl, by rw [hg_b_t hp], rfl⟩ dM_out4_53
          · have q_5' := q_5
            refine tg_iload hx hb dM_out4_25 rfl ?_
            refine tg_iconst (v := nI 1) hx hb dM_out4_27 (by decide +kernel) ?_
            refine tg_icmp_lt (tgt := 48) hx hb dM_out4_28 (by decide) (fun q_6 => ?_) (fun q_6 => ?_)
            · have q_6' := q_6
              refine tg_iconst (v := nI 1) hx hb dM_out4_48 (by decide +kernel) ?_
              refine tg_goto (tgt := 53) hx hb dM_out4_49 (by decide) ?_
              have hp : mo_bad p9 q9 h9 v9 := Or.inr (Or.inr (Or.inr (Or.inr (Or.inr (Or.inl q_6')))))
              exact tg_zret hx hb hlocks hr hQ (by decide +kernel) ⟨rfl, rfl, by rw [hg_b_t hp], rfl⟩ dM_out4_53
            · have q_6' := q_6
              refine tg_iload_n hx hb dM_out4_31 rfl rfl ?_
              refine tg_bipush (v := nI 20) hx hb dM_out4_32 (by decide +kernel) ?_
              refine tg_iload_n hx hb dM_out4_34 rfl rfl ?_
              refine tg_isub hx hb dM_out4_35 ?_
              refine tg_icmp_gt (tgt := 48) hx hb dM_out4_36 (by decide) (fun q_7 => ?_) (fun q_7 => ?_)
              · have q_7' := q_7
                refine tg_iconst (v := nI 1) hx hb dM_out4_48 (by decide +kernel) ?_
                refine tg_goto (tgt := 53) hx hb dM_out4_49 (by decide) ?_
                have hp : mo_bad p9 q9 h9 v9 := Or.inr (Or.inr (Or.inr (Or.inr (Or.inr (Or.inr (Or.inl q_7'))))))
                exact tg_zret hx hb hlocks hr hQ (by decide +kernel) ⟨rfl, rfl, by rw [hg_b_t hp], rfl⟩ dM_out4_53
              · have q_7' := q_7
                refine tg_iload hx hb dM_out4_39 rfl ?_
                refine tg_bipush (v := nI 20) hx hb dM_out4_41 (by decide +kernel) ?_
                refine tg_iload_n hx hb dM_out4_43 rfl rfl ?_
                refine tg_isub hx hb dM_out4_44 ?_
                refine tg_icmp_le (tgt := 52) hx hb dM_out4_45 (by decide) (fun q_8 => ?_) (fun q_8 => ?_)
                · have q_8' := q_8
                  refine tg_iconst (v := nI 0) hx hb dM_out4_52 (by decide +kernel) ?_
                  have hp : ¬ mo_bad p9 q9 h9 v9 := by
                    intro q
                    rcases q with q | q | q | q | q | q | q | q
                    · exact q_1' q
                    · exact q_2' q
                    · exact q_3' q
                    · exact q_4' q
                    · exact q_5' q
                    · exact q_6' q
                    · exact q_7' q
                    · exact q q_8'
                  exact tg_zret hx hb hlocks hr hQ (by decide +kernel) ⟨rfl, rfl, by rw [hg_b_f hp], rfl⟩ dM_out4_53
                · have q_8' := q_8
                  refine tg_iconst (v := nI 1) hx hb dM_out4_48 (by decide +kernel) ?_
                  refine tg_goto (tgt := 53) hx hb dM_out4_49 (by decide) ?_
                  have hp : mo_bad p9 q9 h9 v9 := Or.inr (Or.inr (Or.inr (Or.inr (Or.inr (Or.inr (Or.inr (q_8')))))))
                  exact tg_zret hx hb hlocks hr hQ (by decide +kernel) ⟨rfl, rfl, by rw [hg_b_t hp], rfl⟩ dM_out4_53
set_option maxRecDepth 100000 in
set_option maxHeartbeats 4000000 in
/-- in whose block is the cell? -/
theorem c_mOwner1 (hO : mo_ok ok) (hB : ∀ j u, M j u < 1000000) (k : Nat) (hk : k < 400) : tg_Met l yM_owner1 wsM_owner1 ({ frames := 0, cells := 0, slots := 0, locals := 0 }) D vwCl (hg_tys cI cF cZ cJ cA cB) F Nn ad ok (mo_w ad cI cZ cA cB M B μ) [.ref (ad 11 0), .int (nI (k))] (tg_po ad ok fun r w1 => mo_ow M k r ∧ w1 = (mo_w ad cI cZ cA cB M B μ)) := by
  refine tg_start (cc := cM_owner1) (maxL := 5) (ret := some .int) (by decide) rfl (Nat.le_of_ble_eq_true rfl) ?_
  intro p e R s m args below meth c Q hx hb hml hr hlocks hown hname hts hK hN hR hQ
  have hown : s.vm.findClass "HangGraphModel" = some m.cls := hown
  have hts : ∀ w ∈ lw_g, w.before args s = true := fun w z => hts w (List.mem_cons_of_mem _ z)
  refine tg_iload_n hx hb dM_owner1_0 rfl rfl ?_
  refine tg_bipush (v := nI 20) hx hb dM_owner1_1 (by decide +kernel) ?_
  refine tg_idiv hx hb dM_owner1_3 (nI_ne0 (by omega) (by omega)) ?_
  refine tg_top (y := nI ((k) / (20))) (pk_div (by omega) (by omega) (by omega)) ?_
  refine tg_istore_n (L' := [(0, .ref (ad 11 0)), (1, .int (nI (k))), (2, .int (nI ((k) / (20))))]) hx hb dM_owner1_4 rfl (by decide) rfl rfl ?_
  refine tg_iload_n hx hb dM_owner1_5 rfl rfl ?_
  refine tg_bipush (v := nI 20) hx hb dM_owner1_6 (by decide +kernel) ?_
  refine tg_irem hx hb dM_owner1_8 (nI_ne0 (by omega) (by omega)) ?_
  refine tg_top (y := nI ((k) % (20))) (pk_rem (by omega) (by omega) (by omega)) ?_
  refine tg_istore_n (L' := [(0, .ref (ad 11 0)), (1, .int (nI (k))), (2, .int (nI ((k) / (20)))), (3, .int (nI ((k) % (20))))]) hx hb dM_owner1_9 rfl (by decide) rfl rfl ?_
  refine tg_iconst (v := nI 0) hx hb dM_owner1_10 (by decide +kernel) ?_
  refine tg_istore (L' := [(0, .ref (ad 11 0)), (1, .int (nI (k))), (2, .int (nI ((k) / (20)))), (3, .int (nI ((k) % (20)))), (4, .int (nI (0)))]) hx hb dM_owner1_11 (by decide) rfl rfl ?_
  refine tg_loop (fun i : Nat => i ≤ 400 ∧ ∀ g, g < i → ¬ mo_in M g k) (fun i => 400 - i) (fun i => tg_W p l e R s m args below meth c Q 5 D vwCl F ad ok (mo_w ad cI cZ cA cB M B μ) [(0, .ref (ad 11 0)), (1, .int (nI (k))), (2, .int (nI ((k) / (20)))), (3, .int (nI ((k) % (20)))), (4, .int (nI (i)))] 0 0 13 []) ?_ 0 ⟨Nat.zero_le _, fun g z => absurd z (Nat.not_lt_zero _)⟩
  intro i ⟨hi1, hi2⟩ ih
  refine tg_iload hx hb dM_owner1_13 rfl ?_
  refine tg_sipush (v := nI 400) hx hb dM_owner1_15 (by decide +kernel) ?_
  refine tg_icmp_ge (tgt := 92) hx hb dM_owner1_18 (by decide) (fun q_1 => ?_) (fun q_1 => ?_)
  · have q_1' := q_1
    have h_2 : 400 ≤ i := (nI_leI (by omega) (by omega)).mp q_1
    refine tg_iconst (v := (-1 : Int32)) hx hb dM_owner1_92 (by decide +kernel) ?_
    have ei : i = 400 := by omega
    subst ei
    exact tg_iret hx hb hlocks hr hQ ⟨rfl, rfl, Or.inr ⟨hi2, rfl⟩, rfl⟩ dM_owner1_93
  · have q_1' := q_1
    have h_3 : i < 400 := Nat.lt_of_not_le fun z => q_1 ((nI_leI (by omega) (by omega)).mpr z)
    refine tg_aload_n hx hb dM_owner1_21 rfl rfl ?_
    refine tg_get (T := TM) (N := 13) hx hb hts inM hown hK (hO.1 11 (by decide) (by decide) (by decide) (by decide)) rfl rfl 1 (by decide) (hts _ wf_M_7) (fun _ z => z) rfl dM_owner1_22 ?_
    refine tg_iload hx hb dM_owner1_25 rfl ?_
    refine tg_zald (t0 := 2) hx hb hK (hO.1 12 (by decide) (by decide) (by decide) (by decide)) rfl rfl (x := i) (by decide) (by omega) dM_owner1_27 ?_
    have hb_4 := hB 12 i
    refine tg_if_eq (tgt := 86) hx hb dM_owner1_28 (by decide) (fun q_5 => ?_) (fun q_5 => ?_)
    · have q_5' := q_5
      rw [← nI_0] at q_5
      have h_6 : M 12 i = 0 := (nI_eq (by omega) (by omega)).mp q_5
      refine tg_iinc (v := nI (i + 1)) (L' := [(0, .ref (ad 11 0)), (1, .int (nI (k))), (2, .int (nI ((k) / (20)))), (3, .int (nI ((k) % (20)))), (4, .int (nI (i + 1)))]) hx hb dM_owner1_86 rfl (nI_1 _) (by decide) rfl rfl ?_
      refine tg_goto (tgt := 13) hx hb dM_owner1_89 (by decide) ?_
      refine ih (i + 1) ⟨by omega, fun g hg hin => ?_⟩ (by omega)
      rcases Nat.lt_succ_iff_lt_or_eq.mp hg with z | z
      · exact hi2 g z hin
      · subst z
        obtain ⟨z1, z2, z3, z4, z5⟩ := hin
        omega
    · have q_5' := q_5
      rw [← nI_0] at q_5
      have h_7 : M 12 i ≠ 0 := fun z => q_5 ((nI_eq (by omega) (by omega)).mpr z)
      refine tg_iload_n hx hb dM_owner1_31 rfl rfl ?_
      refine tg_iload hx hb dM_owner1_32 rfl ?_
      refine tg_bipush (v := nI 20) hx hb dM_owner1_34 (by decide +kernel) ?_
      refine tg_idiv hx hb dM_owner1_36 (nI_ne0 (by omega) (by omega)) ?_
      refine tg_top (y := nI ((i) / (20))) (pk_div (by omega) (by omega) (by omega)) ?_
      refine tg_icmp_lt (tgt := 86) hx hb dM_owner1_37 (by decide) (fun q_8 => ?_) (fun q_8 => ?_)
      · have q_8' := q_8
        have h_9 : (k) / (20) < (i) / (20) := (nI_ltI (by omega) (by omega)).mp q_8
        refine tg_iinc (v := nI (i + 1)) (L' := [(0, .ref (ad 11 0)), (1, .int (nI (k))), (2, .int (nI ((k) / (20)))), (3, .int (nI ((k) % (20)))), (4, .int (nI (i + 1)))]) hx hb dM_owner1_86 rfl (nI_1 _) (by decide) rfl rfl ?_
        refine tg_goto (tgt := 13) hx hb dM_owner1_89 (by decide) ?_
        refine ih (i + 1) ⟨by omega, fun g hg hin => ?_⟩ (by omega)
        rcases Nat.lt_succ_iff_lt_or_eq.mp hg with z | z
        · exact hi2 g z hin
        · subst z
          obtain ⟨z1, z2, z3, z4, z5⟩ := hin
          omega
      · have q_8' := q_8
        have h_10 : (i) / (20) ≤ (k) / (20) := Nat.le_of_not_lt fun z => q_8 ((nI_ltI (by omega) (by omega)).mpr z)
        refine tg_iload_n hx hb dM_owner1_40 rfl rfl ?_
        refine tg_iload hx hb dM_owner1_41 rfl ?_
        refine tg_bipush (v := nI 20) hx hb dM_owner1_43 (by decide +kernel) ?_
        refine tg_idiv hx hb dM_owner1_45 (nI_ne0 (by omega) (by omega)) ?_
        refine tg_top (y := nI ((i) / (20))) (pk_div (by omega) (by omega) (by omega)) ?_
        refine tg_aload_n hx hb dM_owner1_46 rfl rfl ?_
        refine tg_get (T := TM) (N := 13) hx hb hts inM hown hK (hO.1 11 (by decide) (by decide) (by decide) (by decide)) rfl rfl 2 (by decide) (hts _ wf_M_13) (fun _ z => z) rfl dM_owner1_47 ?_
        refine tg_iload hx hb dM_owner1_50 rfl ?_
        refine tg_iald (t0 := 0) hx hb hK (hO.1 13 (by decide) (by decide) (by decide) (by decide)) rfl rfl (x := i) (by decide) (by omega) dM_owner1_52 ?_
        have hb_11 := hB 13 i
        refine tg_iadd hx hb dM_owner1_53 ?_
        refine tg_top (y := nI (((i) / (20)) + (M 13 i))) (nI_add _ _) ?_
        refine tg_icmp_ge (tgt := 86) hx hb dM_owner1_54 (by decide) (fun q_12 => ?_) (fun q_12 => ?_)
        · have q_12' := q_12
          have h_13 : ((i) / (20)) + (M 13 i) ≤ (k) / (20) := (nI_leI (by omega) (by omega)).mp q_12
          refine tg_iinc (v := nI (i + 1)) (L' := [(0, .ref (ad 11 0)), (1, .int (nI (k))), (2, .int (nI ((k) / (20)))), (3, .int (nI ((k) % (20)))), (4, .int (nI (i + 1)))]) hx hb dM_owner1_86 rfl (nI_1 _) (by decide) rfl rfl ?_
          refine tg_goto (tgt := 13) hx hb dM_owner1_89 (by decide) ?_
          refine ih (i + 1) ⟨by omega, fun g hg hin => ?_⟩ (by omega)
          rcases Nat.lt_succ_iff_lt_or_eq.mp hg with z | z
          · exact hi2 g z hin
          · subst z
            obtain ⟨z1, z2, z3, z4, z5⟩ := hin
            omega
        · have q_12' := q_12
          have h_14 : (k) / (20) < ((i) / (20)) + (M 13 i) := Nat.lt_of_not_le fun z => q_12 ((nI_leI (by omega) (by omega)).mpr z)
          refine tg_iload_n hx hb dM_owner1_57 rfl rfl ?_
          refine tg_iload hx hb dM_owner1_58 rfl ?_
          refine tg_bipush (v := nI 20) hx hb dM_owner1_60 (by decide +kernel) ?_
          refine tg_irem hx hb dM_owner1_62 (nI_ne0 (by omega) (by omega)) ?_
          refine tg_top (y := nI ((i) % (20))) (pk_rem (by omega) (by omega) (by omega)) ?_
          refine tg_icmp_lt (tgt := 86) hx hb dM_owner1_63 (by decide) (fun q_15 => ?_) (fun q_15 => ?_)
          · have q_15' := q_15
            have h_16 : (k) % (20) < (i) % (20) := (nI_ltI (by omega) (by omega)).mp q_15
            refine tg_iinc (v := nI (i + 1)) (L' := [(0, .ref (ad 11 0)), (1, .int (nI (k))), (2, .int (nI ((k) / (20)))), (3, .int (nI ((k) % (20)))), (4, .int (nI (i + 1)))]) hx hb dM_owner1_86 rfl (nI_1 _) (by decide) rfl rfl ?_
            refine tg_goto (tgt := 13) hx hb dM_owner1_89 (by decide) ?_
            refine ih (i + 1) ⟨by omega, fun g hg hin => ?_⟩ (by omega)
            rcases Nat.lt_succ_iff_lt_or_eq.mp hg with z | z
            · exact hi2 g z hin
            · subst z
              obtain ⟨z1, z2, z3, z4, z5⟩ := hin
              omega
          · have q_15' := q_15
            have h_17 : (i) % (20) ≤ (k) % (20) := Nat.le_of_not_lt fun z => q_15 ((nI_ltI (by omega) (by omega)).mpr z)
            refine tg_iload_n hx hb dM_owner1_66 rfl rfl ?_
            refine tg_iload hx hb dM_owner1_67 rfl ?_
            refine tg_bipush (v := nI 20) hx hb dM_owner1_69 (by decide +kernel) ?_
            refine tg_irem hx hb dM_owner1_71 (nI_ne0 (by omega) (by omega)) ?_
            refine tg_top (y := nI ((i) % (20))) (pk_rem (by omega) (by omega) (by omega)) ?_
            refine tg_aload_n hx hb dM_owner1_72 rfl rfl ?_
            refine tg_get (T := TM) (N := 13) hx hb hts inM hown hK (hO.1 11 (by decide) (by decide) (by decide) (by decide)) rfl rfl 3 (by decide) (hts _ wf_M_17) (fun _ z => z) rfl dM_owner1_73 ?_
            refine tg_iload hx hb dM_owner1_76 rfl ?_
            refine tg_iald (t0 := 0) hx hb hK (hO.1 14 (by decide) (by decide) (by decide) (by decide)) rfl rfl (x := i) (by decide) (by omega) dM_owner1_78 ?_
            have hb_18 := hB 14 i
            refine tg_iadd hx hb dM_owner1_79 ?_
            refine tg_top (y := nI (((i) % (20)) + (M 14 i))) (nI_add _ _) ?_
            refine tg_icmp_ge (tgt := 86) hx hb dM_owner1_80 (by decide) (fun q_19 => ?_) (fun q_19 => ?_)
            · have q_19' := q_19
              have h_20 : ((i) % (20)) + (M 14 i) ≤ (k) % (20) := (nI_leI (by omega) (by omega)).mp q_19
              refine tg_iinc (v := nI (i + 1)) (L' := [(0, .ref (ad 11 0)), (1, .int (nI (k))), (2, .int (nI ((k) / (20)))), (3, .int (nI ((k) % (20)))), (4, .int (nI (i + 1)))]) hx hb dM_owner1_86 rfl (nI_1 _) (by decide) rfl rfl ?_
              refine tg_goto (tgt := 13) hx hb dM_owner1_89 (by decide) ?_
              refine ih (i + 1) ⟨by omega, fun g hg hin => ?_⟩ (by omega)
              rcases Nat.lt_succ_iff_lt_or_eq.mp hg with z | z
              · exact hi2 g z hin
              · subst z
                obtain ⟨z1, z2, z3, z4, z5⟩ := hin
                omega
            · have q_19' := q_19
              have h_21 : (k) % (20) < ((i) % (20)) + (M 14 i) := Nat.lt_of_not_le fun z => q_19 ((nI_leI (by omega) (by omega)).mpr z)
              refine tg_iload hx hb dM_owner1_83 rfl ?_
              exact tg_iret hx hb hlocks hr hQ ⟨rfl, rfl, Or.inl ⟨i, by omega, ⟨by omega, by omega, by omega, by omega, by omega⟩, rfl, hi2⟩, rfl⟩ dM_owner1_85
set_option maxRecDepth 100000 in
set_option maxHeartbeats 4000000 in
/-- how many are there -/
theorem c_mCount (hO : mo_ok ok) (hB : ∀ j u, M j u < 1000000) : tg_Met l yM_count wsM_count ({ frames := 0, cells := 0, slots := 0, locals := 0 }) D vwCl (hg_tys cI cF cZ cJ cA cB) F Nn ad ok (mo_w ad cI cZ cA cB M B μ) [.ref (ad 11 0)] (tg_po ad ok fun r w1 => r = some (.int (nI (hg_cn (fun f => M 12 f ≠ 0) 400))) ∧ w1 = (mo_w ad cI cZ cA cB M B μ)) := by
  refine tg_start (cc := cM_count) (maxL := 3) (ret := some .int) (by decide) rfl (Nat.le_of_ble_eq_true rfl) ?_
  intro p e R s m args below meth c Q hx hb hml hr hlocks hown hname hts hK hN hR hQ
  have hown : s.vm.findClass "HangGraphModel" = some m.cls := hown
  have hts : ∀ w ∈ lw_g, w.before args s = true := fun w z => hts w (List.mem_cons_of_mem _ z)
  refine tg_iconst (v := nI 0) hx hb dM_count_0 (by decide +kernel) ?_
  refine tg_istore_n (L' := [(0, .ref (ad 11 0)), (1, .int (nI (0)))]) hx hb dM_count_1 rfl (by decide) rfl rfl ?_
  refine tg_iconst (v := nI 0) hx hb dM_count_2 (by decide +kernel) ?_
  refine tg_istore_n (L' := [(0, .ref (ad 11 0)), (1, .int (nI (0))), (2, .int (nI (0)))]) hx hb dM_count_3 rfl (by decide) rfl rfl ?_
  refine tg_loop (fun i : Nat => i ≤ 400) (fun i => 400 - i) (fun i => tg_W p l e R s m args below meth c Q 3 D vwCl F ad ok (mo_w ad cI cZ cA cB M B μ) [(0, .ref (ad 11 0)), (1, .int (nI (hg_cn (fun f => M 12 f ≠ 0) i))), (2, .int (nI (i)))] 0 0 4 []) ?_ 0 (Nat.zero_le _)
  intro i hi1 ih
  have hcn := hg_cn_bd (fun f => M 12 f ≠ 0) i
  refine tg_iload_n hx hb dM_count_4 rfl rfl ?_
  refine tg_sipush (v := nI 400) hx hb dM_count_5 (by decide +kernel) ?_
  refine tg_icmp_ge (tgt := 34) hx hb dM_count_8 (by decide) (fun q_1 => ?_) (fun q_1 => ?_)
  · have q_1' := q_1
    have h_2 : 400 ≤ i := (nI_leI (by omega) (by omega)).mp q_1
    refine tg_iload_n hx hb dM_count_34 rfl rfl ?_
    have ei : i = 400 := by omega
    subst ei
    exact tg_iret hx hb hlocks hr hQ ⟨rfl, rfl, rfl, rfl⟩ dM_count_35
  · have q_1' := q_1
    have h_3 : i < 400 := Nat.lt_of_not_le fun z => q_1 ((nI_leI (by omega) (by omega)).mpr z)
    refine tg_iload_n hx hb dM_count_11 rfl rfl ?_
    refine tg_aload_n hx hb dM_count_12 rfl rfl ?_
    refine tg_get (T := TM) (N := 13) hx hb hts inM hown hK (hO.1 11 (by decide) (by decide) (by decide) (by decide)) rfl rfl 1 (by decide) (hts _ wf_M_7) (fun _ z => z) rfl dM_count_13 ?_
    refine tg_iload_n hx hb dM_count_16 rfl rfl ?_
    refine tg_zald (t0 := 2) hx hb hK (hO.1 12 (by decide) (by decide) (by decide) (by decide)) rfl rfl (x := i) (by decide) (by omega) dM_count_17 ?_
    have hb_4 := hB 12 i
    refine tg_if_eq (tgt := 25) hx hb dM_count_18 (by decide) (fun q_5 => ?_) (fun q_5 => ?_)
    · have q_5' := q_5
      rw [← nI_0] at q_5
      have h_6 : M 12 i = 0 := (nI_eq (by omega) (by omega)).mp q_5
      refine tg_iconst (v := nI 0) hx hb dM_count_25 (by decide +kernel) ?_
      refine tg_iadd hx hb dM_count_26 ?_
      refine tg_top (y := nI ((hg_cn (fun f => M 12 f ≠ 0) i) + (0))) (nI_add _ _) ?_
      refine tg_istore_n (L' := [(0, .ref (ad 11 0)), (1, .int (nI ((hg_cn (fun f => M 12 f ≠ 0) i) + (0)))), (2, .int (nI (i)))]) hx hb dM_count_27 rfl (by decide) rfl rfl ?_
      refine tg_iinc (v := nI (i + 1)) (L' := [(0, .ref (ad 11 0)), (1, .int (nI ((hg_cn (fun f => M 12 f ≠ 0) i) + (0)))), (2, .int (nI (i + 1)))]) hx hb dM_count_28 rfl (nI_1 _) (by decide) rfl rfl ?_
      refine tg_goto (tgt := 4) hx hb dM_count_31 (by decide) ?_
      have e9 : hg_cn (fun f => M 12 f ≠ 0) (i + 1) = (hg_cn (fun f => M 12 f ≠ 0) i) + (0) := by rw [hg_cn_s, hg_b_f (fun z => z h_6)]
      rw [← e9]
      exact ih (i + 1) (by omega) (by omega)
    · have q_5' := q_5
      rw [← nI_0] at q_5
      have h_7 : M 12 i ≠ 0 := fun z => q_5 ((nI_eq (by omega) (by omega)).mpr z)
      refine tg_iconst (v := nI 1) hx hb dM_count_21 (by decide +kernel) ?_
      refine tg_goto (tgt := 26) hx hb dM_count_22 (by decide) ?_
      refine tg_iadd hx hb dM_count_26 ?_
      refine tg_top (y := nI ((hg_cn (fun f => M 12 f ≠ 0) i) + (1))) (nI_add _ _) ?_
      refine tg_istore_n (L' := [(0, .ref (ad 11 0)), (1, .int (nI ((hg_cn (fun f => M 12 f ≠ 0) i) + (1)))), (2, .int (nI (i)))]) hx hb dM_count_27 rfl (by decide) rfl rfl ?_
      refine tg_iinc (v := nI (i + 1)) (L' := [(0, .ref (ad 11 0)), (1, .int (nI ((hg_cn (fun f => M 12 f ≠ 0) i) + (1)))), (2, .int (nI (i + 1)))]) hx hb dM_count_28 rfl (nI_1 _) (by decide) rfl rfl ?_
      refine tg_goto (tgt := 4) hx hb dM_count_31 (by decide) ?_
      have e9 : hg_cn (fun f => M 12 f ≠ 0) (i + 1) = (hg_cn (fun f => M 12 f ≠ 0) i) + (1) := by rw [hg_cn_s, hg_b_t h_7]
      rw [← e9]
      exact ih (i + 1) (by omega) (by omega)
set_option maxRecDepth 100000 in
set_option maxHeartbeats 4000000 in
/-- f forgets -/
theorem c_mForget (hO : mo_ok ok) (f : Nat) (hf : f < 400) : tg_Met l yM_forget wsM_forget ({ frames := 0, cells := 0, slots := 0, locals := 0 }) D vwCl (hg_tys cI cF cZ cJ cA cB) F Nn ad ok (mo_w ad cI cZ cA cB M B μ) [.ref (ad 11 0), .int (nI (f))] (tg_po ad ok fun r w1 => r = none ∧ w1 = (mo_w ad cI cZ cA cB (tg_up (tg_up (tg_up M 19 f 0) 20 f 0) 21 f 0) B μ)) := by
  refine tg_start (cc := cM_forget) (maxL := 2) (ret := none) (by decide) rfl (Nat.le_of_ble_eq_true rfl) ?_
  intro p e R s m args below meth c Q hx hb hml hr hlocks hown hname hts hK hN hR hQ
  have hown : s.vm.findClass "HangGraphModel" = some m.cls := hown
  have hts : ∀ w ∈ lw_g, w.before args s = true := fun w z => hts w (List.mem_cons_of_mem _ z)
  refine tg_aload_n hx hb dM_forget_0 rfl rfl ?_
  refine tg_get (T := TM) (N := 13) hx hb hts inM hown hK (hO.1 11 (by decide) (by decide) (by decide) (by decide)) rfl rfl 7 (by decide) (hts _ wf_M_31) (fun _ z => z) rfl dM_forget_1 ?_
  refine tg_iload_n hx hb dM_forget_4 rfl rfl ?_
  refine tg_iconst (v := nI 0) hx hb dM_forget_5 (by decide +kernel) ?_
  refine tg_zast (t0 := 2) hx hb hK (hO.1 19 (by decide) (by decide) (by decide) (by decide)) rfl rfl (x := f) (v := nI (0)) (by decide +kernel) (by decide) (by omega) dM_forget_6 ?_
  refine tg_wp (mo_w_19 hO f 0) ?_
  refine tg_aload_n hx hb dM_forget_7 rfl rfl ?_
  refine tg_get (T := TM) (N := 13) hx hb hts inM hown hK (hO.1 11 (by decide) (by decide) (by decide) (by decide)) rfl rfl 8 (by decide) (hts _ wf_M_34) (fun _ z => z) rfl dM_forget_8 ?_
  refine tg_iload_n hx hb dM_forget_11 rfl rfl ?_
  refine tg_iconst (v := nI 0) hx hb dM_forget_12 (by decide +kernel) ?_
  refine tg_zast (t0 := 2) hx hb hK (hO.1 20 (by decide) (by decide) (by decide) (by decide)) rfl rfl (x := f) (v := nI (0)) (by decide +kernel) (by decide) (by omega) dM_forget_13 ?_
  refine tg_wp (mo_w_20 hO f 0) ?_
  refine tg_aload_n hx hb dM_forget_14 rfl rfl ?_
  refine tg_get (T := TM) (N := 13) hx hb hts inM hown hK (hO.1 11 (by decide) (by decide) (by decide) (by decide)) rfl rfl 9 (by decide) (hts _ wf_M_37) (fun _ z => z) rfl dM_forget_15 ?_
  refine tg_iload_n hx hb dM_forget_18 rfl rfl ?_
  refine tg_iconst (v := nI 0) hx hb dM_forget_19 (by decide +kernel) ?_
  refine tg_iast (t0 := 0) hx hb hK (hO.1 21 (by decide) (by decide) (by decide) (by decide)) rfl rfl (x := f) (v := nI (0)) (by decide) (by omega) dM_forget_20 ?_
  refine tg_wp (mo_w_21 hO f 0) ?_
  exact tg_vret hx hb hlocks hr hQ ⟨rfl, rfl, rfl, rfl⟩ dM_forget_21
set_option maxRecDepth 100000 in
set_option maxHeartbeats 4000000 in
/-- no such cell -/
theorem c_mTouch1 (hO : mo_ok ok) (hMv : tg_Mv F Nn) (p9 q9 : Int32) (hbad : mo_bad p9 q9 (nI 1) (nI 1)) : tg_Met l yM_touch wsM_touch ({ frames := 1, cells := 0, slots := 0, locals := 40 }) D vwCl (hg_tys cI cF cZ cJ cA cB) F Nn ad ok (mo_w ad cI cZ cA cB M B μ) [.ref (ad 11 0), .int (p9), .int (q9)] (tg_po ad ok fun r w1 => r = none ∧ w1 = (mo_w ad cI cZ cA cB (tg_up (tg_up M 11 0 0) 11 0 1) B μ)) := by
  refine tg_start (cc := cM_touch) (maxL := 3) (ret := none) (by decide) rfl (Nat.le_of_ble_eq_true rfl) ?_
  intro p e R s m args below meth c Q hx hb hml hr hlocks hown hname hts hK hN hR hQ
  have hown : s.vm.findClass "HangGraphModel" = some m.cls := hown
  have hts : ∀ w ∈ lw_g, w.before args s = true := fun w z => hts w (List.mem_cons_of_mem _ z)
  refine tg_aload_n hx hb dM_touch_0 rfl rfl ?_
  refine tg_iconst (v := nI 0) hx hb dM_touch_1 (by decide +kernel) ?_
  refine tg_put (T := TM) (N := 13) (ty := .int) hx hb hts inM tyM tyM_ok nmM hown hK (hO.1 11 (by decide) (by decide) (by decide) (by decide)) rfl rfl 0 (by decide) (hts _ wf_M_51) (fun _ z => z) rfl (by decide +kernel) rfl rfl (Nat.le_of_ble_eq_true rfl) dM_touch_2 ?_
  refine tg_wp (mo_w_11 hO 0) ?_
  refine tg_aload_n hx hb dM_touch_5 rfl rfl ?_
  refine tg_iload_n hx hb dM_touch_6 rfl rfl ?_
  refine tg_iload_n hx hb dM_touch_7 rfl rfl ?_
  refine tg_iconst (v := nI 1) hx hb dM_touch_8 (by decide +kernel) ?_
  refine tg_iconst (v := nI 1) hx hb dM_touch_9 (by decide +kernel) ?_
  refine tg_callV (C := "HangGraphModel") (As := [.int (p9), .int (q9), .int (nI (1)), .int (nI (1))]) (rest := []) ⟨hx, hb, hml, hown, hts⟩ hK hN hMv (hO.1 11 (by decide) (by decide) (by decide) (by decide)) rfl rfl rfl (c_mOut4 hO p9 q9 (nI 1) (nI 1)) (cwV 4 hts (lg_V wm_M_55 wi_M_out4 we_M_out4 wn_M wc_M_out4) rfl rfl rfl ⟨rfl, by decide, by decide, rfl⟩ ⟨by rw [hR]; exact Nat.le_of_ble_eq_true rfl, by rw [hR]; exact Nat.le_of_ble_eq_true rfl⟩) rfl (Nat.le_of_ble_eq_true rfl) ⟨by rw [hR]; exact Nat.le_of_ble_eq_true rfl, by rw [hR]; exact Nat.le_of_ble_eq_true rfl⟩ rfl dM_touch_10 (tg_kv rfl rfl ?_)
  have hb_1 := hg_b_le (mo_bad p9 q9 (nI 1) (nI 1))
  refine tg_if_eq (tgt := 24) hx hb dM_touch_13 (by decide) (fun q_2 => ?_) (fun q_2 => ?_)
  · have q_2' := q_2
    rw [← nI_0] at q_2
    have h_3 : hg_b (mo_bad p9 q9 (nI 1) (nI 1)) = 0 := (nI_eq (by omega) (by omega)).mp q_2
    exact absurd hbad (hg_b0 h_3)
  · have q_2' := q_2
    rw [← nI_0] at q_2
    have h_4 : hg_b (mo_bad p9 q9 (nI 1) (nI 1)) ≠ 0 := fun z => q_2 ((nI_eq (by omega) (by omega)).mpr z)
    refine tg_aload_n hx hb dM_touch_16 rfl rfl ?_
    refine tg_iconst (v := nI 1) hx hb dM_touch_17 (by decide +kernel) ?_
    refine tg_put (T := TM) (N := 13) (ty := .int) hx hb hts inM tyM tyM_ok nmM hown hK (hO.1 11 (by decide) (by decide) (by decide) (by decide)) rfl rfl 0 (by decide) (hts _ wf_M_51) (fun _ z => z) rfl (by decide +kernel) rfl rfl (Nat.le_of_ble_eq_true rfl) dM_touch_18 ?_
    refine tg_wp (mo_w_11 hO 1) ?_
    refine tg_goto (tgt := 36) hx hb dM_touch_21 (by decide) ?_
    exact tg_vret hx hb hlocks hr hQ ⟨rfl, rfl, rfl, rfl⟩ dM_touch_36
set_option maxRecDepth 100000 in
set_option maxHeartbeats 4000000 in
/-- a cell is dirty -/
theorem c_mTouch0 (hO : mo_ok ok) (hMv : tg_Mv F Nn) (x y : Nat) (hx9 : x < 20) (hy9 : y < 20) : tg_Met l yM_touch wsM_touch ({ frames := 1, cells := 0, slots := 0, locals := 40 }) D vwCl (hg_tys cI cF cZ cJ cA cB) F Nn ad ok (mo_w ad cI cZ cA cB M B μ) [.ref (ad 11 0), .int (nI (x)), .int (nI (y))] (tg_po ad ok fun r w1 => r = none ∧ w1 = (mo_w ad cI cZ cA cB (tg_up (tg_up M 11 0 0) 18 (20 * x + y) 1) B μ)) := by
  refine tg_start (cc := cM_touch) (maxL := 3) (ret := none) (by decide) rfl (Nat.le_of_ble_eq_true rfl) ?_
  intro p e R s m args below meth c Q hx hb hml hr hlocks hown hname hts hK hN hR hQ
  have hown : s.vm.findClass "HangGraphModel" = some m.cls := hown
  have hts : ∀ w ∈ lw_g, w.before args s = true := fun w z => hts w (List.mem_cons_of_mem _ z)
  have hnb : ¬ mo_bad (nI x) (nI y) (nI 1) (nI 1) := mo_ok1 hx9 hy9 (by omega) (by omega) (by omega) (by omega)
  refine tg_aload_n hx hb dM_touch_0 rfl rfl ?_
  refine tg_iconst (v := nI 0) hx hb dM_touch_1 (by decide +kernel) ?_
  refine tg_put (T := TM) (N := 13) (ty := .int) hx hb hts inM tyM tyM_ok nmM hown hK (hO.1 11 (by decide) (by decide) (by decide) (by decide)) rfl rfl 0 (by decide) (hts _ wf_M_51) (fun _ z => z) rfl (by decide +kernel) rfl rfl (Nat.le_of_ble_eq_true rfl) dM_touch_2 ?_
  refine tg_wp (mo_w_11 hO 0) ?_
  refine tg_aload_n hx hb dM_touch_5 rfl rfl ?_
  refine tg_iload_n hx hb dM_touch_6 rfl rfl ?_
  refine tg_iload_n hx hb dM_touch_7 rfl rfl ?_
  refine tg_iconst (v := nI 1) hx hb dM_touch_8 (by decide +kernel) ?_
  refine tg_iconst (v := nI 1) hx hb dM_touch_9 (by decide +kernel) ?_
  refine tg_callV (C := "HangGraphModel") (As := [.int (nI (x)), .int (nI (y)), .int (nI (1)), .int (nI (1))]) (rest := []) ⟨hx, hb, hml, hown, hts⟩ hK hN hMv (hO.1 11 (by decide) (by decide) (by decide) (by decide)) rfl rfl rfl (c_mOut4 hO (nI x) (nI y) (nI 1) (nI 1)) (cwV 4 hts (lg_V wm_M_55 wi_M_out4 we_M_out4 wn_M wc_M_out4) rfl rfl rfl ⟨rfl, by decide, by decide, rfl⟩ ⟨by rw [hR]; exact Nat.le_of_ble_eq_true rfl, by rw [hR]; exact Nat.le_of_ble_eq_true rfl⟩) rfl (Nat.le_of_ble_eq_true rfl) ⟨by rw [hR]; exact Nat.le_of_ble_eq_true rfl, by rw [hR]; exact Nat.le_of_ble_eq_true rfl⟩ rfl dM_touch_10 (tg_kv rfl rfl ?_)
  have hb_1 := hg_b_le (mo_bad (nI x) (nI y) (nI 1) (nI 1))
  refine tg_if_eq (tgt := 24) hx hb dM_touch_13 (by decide) (fun q_2 => ?_) (fun q_2 => ?_)
  · have q_2' := q_2
    rw [← nI_0] at q_2
    have h_3 : hg_b (mo_bad (nI x) (nI y) (nI 1) (nI 1)) = 0 := (nI_eq (by omega) (by omega)).mp q_2
    refine tg_aload_n hx hb dM_touch_24 rfl rfl ?_
    refine tg_get (T := TM) (N := 13) hx hb hts inM hown hK (hO.1 11 (by decide) (by decide) (by decide) (by decide)) rfl rfl 6 (by decide) (hts _ wf_M_28) (fun _ z => z) rfl dM_touch_25 ?_
    refine tg_bipush (v := nI 20) hx hb dM_touch_28 (by decide +kernel) ?_
    refine tg_iload_n hx hb dM_touch_30 rfl rfl ?_
    refine tg_imul hx hb dM_touch_31 ?_
    refine tg_top (y := nI ((20) * (x))) (pk_mul _ _) ?_
    refine tg_iload_n hx hb dM_touch_32 rfl rfl ?_
    refine tg_iadd hx hb dM_touch_33 ?_
    refine tg_top (y := nI (((20) * (x)) + (y))) (nI_add _ _) ?_
    refine tg_iconst (v := nI 1) hx hb dM_touch_34 (by decide +kernel) ?_
    refine tg_zast (t0 := 2) hx hb hK (hO.1 18 (by decide) (by decide) (by decide) (by decide)) rfl rfl (x := ((20) * (x)) + (y)) (v := nI (1)) (by decide +kernel) (by decide) (by omega) dM_touch_35 ?_
    refine tg_wp (mo_w_18 hO (((20) * (x)) + (y)) 1) ?_
    exact tg_vret hx hb hlocks hr hQ ⟨rfl, rfl, rfl, rfl⟩ dM_touch_36
  · have q_2' := q_2
    rw [← nI_0] at q_2
    have h_4 : hg_b (mo_bad (nI x) (nI y) (nI 1) (nI 1)) ≠ 0 := fun z => q_2 ((nI_eq (by omega) (by omega)).mpr z)
    exact absurd (hg_b1 h_4) hnb
set_option maxRecDepth 100000 in
set_option maxHeartbeats 4000000 in
/-- no such cell -/
theorem c_mOwner21 (hO : mo_ok ok) (hMv : tg_Mv F Nn) (p9 q9 : Int32) (hbad : mo_bad p9 q9 (nI 1) (nI 1)) : tg_Met l yM_owner2 wsM_owner2 ({ frames := 1, cells := 0, slots := 0, locals := 40 }) D vwCl (hg_tys cI cF cZ cJ cA cB) F Nn ad ok (mo_w ad cI cZ cA cB M B μ) [.ref (ad 11 0), .int (p9), .int (q9)] (tg_po ad ok fun r w1 => r = some (.int (nI 0)) ∧ w1 = (mo_w ad cI cZ cA cB (tg_up (tg_up M 11 0 0) 11 0 1) B μ)) := by
  refine tg_start (cc := cM_owner2) (maxL := 3) (ret := some .int) (by decide) rfl (Nat.le_of_ble_eq_true rfl) ?_
  intro p e R s m args below meth c Q hx hb hml hr hlocks hown hname hts hK hN hR hQ
  have hown : s.vm.findClass "HangGraphModel" = some m.cls := hown
  have hts : ∀ w ∈ lw_g, w.before args s = true := fun w z => hts w (List.mem_cons_of_mem _ z)
  refine tg_aload_n hx hb dM_owner2_0 rfl rfl ?_
  refine tg_iconst (v := nI 0) hx hb dM_owner2_1 (by decide +kernel) ?_
  refine tg_put (T := TM) (N := 13) (ty := .int) hx hb hts inM tyM tyM_ok nmM hown hK (hO.1 11 (by decide) (by decide) (by decide) (by decide)) rfl rfl 0 (by decide) (hts _ wf_M_51) (fun _ z => z) rfl (by decide +kernel) rfl rfl (Nat.le_of_ble_eq_true rfl) dM_owner2_2 ?_
  refine tg_wp (mo_w_11 hO 0) ?_
  refine tg_aload_n hx hb dM_owner2_5 rfl rfl ?_
  refine tg_iload_n hx hb dM_owner2_6 rfl rfl ?_
  refine tg_iload_n hx hb dM_owner2_7 rfl rfl ?_
  refine tg_iconst (v := nI 1) hx hb dM_owner2_8 (by decide +kernel) ?_
  refine tg_iconst (v := nI 1) hx hb dM_owner2_9 (by decide +kernel) ?_
  refine tg_callV (C := "HangGraphModel") (As := [.int (p9), .int (q9), .int (nI (1)), .int (nI (1))]) (rest := []) ⟨hx, hb, hml, hown, hts⟩ hK hN hMv (hO.1 11 (by decide) (by decide) (by decide) (by decide)) rfl rfl rfl (c_mOut4 hO p9 q9 (nI 1) (nI 1)) (cwV 4 hts (lg_V wm_M_55 wi_M_out4 we_M_out4 wn_M wc_M_out4) rfl rfl rfl ⟨rfl, by decide, by decide, rfl⟩ ⟨by rw [hR]; exact Nat.le_of_ble_eq_true rfl, by rw [hR]; exact Nat.le_of_ble_eq_true rfl⟩) rfl (Nat.le_of_ble_eq_true rfl) ⟨by rw [hR]; exact Nat.le_of_ble_eq_true rfl, by rw [hR]; exact Nat.le_of_ble_eq_true rfl⟩ rfl dM_owner2_10 (tg_kv rfl rfl ?_)
  have hb_1 := hg_b_le (mo_bad p9 q9 (nI 1) (nI 1))
  refine tg_if_eq (tgt := 24) hx hb dM_owner2_13 (by decide) (fun q_2 => ?_) (fun q_2 => ?_)
  · have q_2' := q_2
    rw [← nI_0] at q_2
    have h_3 : hg_b (mo_bad p9 q9 (nI 1) (nI 1)) = 0 := (nI_eq (by omega) (by omega)).mp q_2
    exact absurd hbad (hg_b0 h_3)
  · have q_2' := q_2
    rw [← nI_0] at q_2
    have h_4 : hg_b (mo_bad p9 q9 (nI 1) (nI 1)) ≠ 0 := fun z => q_2 ((nI_eq (by omega) (by omega)).mpr z)
    refine tg_aload_n hx hb dM_owner2_16 rfl rfl ?_
    refine tg_iconst (v := nI 1) hx hb dM_owner2_17 (by decide +kernel) ?_
    refine tg_callV (C := "HangGraphModel") (As := [.int (nI (1))]) (rest := []) ⟨hx, hb, hml, hown, hts⟩ hK hN hMv (hO.1 11 (by decide) (by decide) (by decide) (by decide)) rfl rfl rfl (c_mFail hO 1) (cwV 1 hts (lg_V wm_M_59 wi_M_fail we_M_fail wn_M wc_M_fail) rfl rfl rfl ⟨rfl, by decide, by decide, rfl⟩ ⟨by rw [hR]; exact Nat.le_of_ble_eq_true rfl, by rw [hR]; exact Nat.le_of_ble_eq_true rfl⟩) rfl (Nat.le_of_ble_eq_true rfl) ⟨by rw [hR]; exact Nat.le_of_ble_eq_true rfl, by rw [hR]; exact Nat.le_of_ble_eq_true rfl⟩ rfl dM_owner2_18 (tg_kv rfl rfl ?_)
    refine tg_goto (tgt := 34) hx hb dM_owner2_21 (by decide) ?_
    exact tg_iret hx hb hlocks hr hQ ⟨rfl, rfl, rfl, rfl⟩ dM_owner2_34
set_option maxRecDepth 100000 in
set_option maxHeartbeats 4000000 in
/-- in whose block is the cell? -/
theorem c_mOwner20 (hO : mo_ok ok) (hMv : tg_Mv F Nn) (hB : ∀ j u, M j u < 1000000) (x y : Nat) (hx9 : x < 20) (hy9 : y < 20) : tg_Met l yM_owner2 wsM_owner2 ({ frames := 1, cells := 0, slots := 0, locals := 40 }) D vwCl (hg_tys cI cF cZ cJ cA cB) F Nn ad ok (mo_w ad cI cZ cA cB M B μ) [.ref (ad 11 0), .int (nI (x)), .int (nI (y))] (tg_po ad ok fun r w1 => mo_ow M (20 * x + y) r ∧ w1 = (mo_w ad cI cZ cA cB (tg_up M 11 0 0) B μ)) := by
  refine tg_start (cc := cM_owner2) (maxL := 3) (ret := some .int) (by decide) rfl (Nat.le_of_ble_eq_true rfl) ?_
  intro p e R s m args below meth c Q hx hb hml hr hlocks hown hname hts hK hN hR hQ
  have hown : s.vm.findClass "HangGraphModel" = some m.cls := hown
  have hts : ∀ w ∈ lw_g, w.before args s = true := fun w z => hts w (List.mem_cons_of_mem _ z)
  have hnb : ¬ mo_bad (nI x) (nI y) (nI 1) (nI 1) := mo_ok1 hx9 hy9 (by omega) (by omega) (by omega) (by omega)
  have hB0 : ∀ j u, (tg_up M 11 0 0) j u < 1000000 := mo_b0 hB (by decide)
  refine tg_aload_n hx hb dM_owner2_0 rfl rfl ?_
  refine tg_iconst (v := nI 0) hx hb dM_owner2_1 (by decide +kernel) ?_
  refine tg_put (T := TM) (N := 13) (ty := .int) hx hb hts inM tyM tyM_ok nmM hown hK (hO.1 11 (by decide) (by decide) (by decide) (by decide)) rfl rfl 0 (by decide) (hts _ wf_M_51) (fun _ z => z) rfl (by decide +kernel) rfl rfl (Nat.le_of_ble_eq_true rfl) dM_owner2_2 ?_
  refine tg_wp (mo_w_11 hO 0) ?_
  refine tg_aload_n hx hb dM_owner2_5 rfl rfl ?_
  refine tg_iload_n hx hb dM_owner2_6 rfl rfl ?_
  refine tg_iload_n hx hb dM_owner2_7 rfl rfl ?_
  refine tg_iconst (v := nI 1) hx hb dM_owner2_8 (by decide +kernel) ?_
  refine tg_iconst (v := nI 1) hx hb dM_owner2_9 (by decide +kernel) ?_
  refine tg_callV (C := "HangGraphModel") (As := [.int (nI (x)), .int (nI (y)), .int (nI (1)), .int (nI (1))]) (rest := []) ⟨hx, hb, hml, hown, hts⟩ hK hN hMv (hO.1 11 (by decide) (by decide) (by decide) (by decide)) rfl rfl rfl (c_mOut4 hO (nI x) (nI y) (nI 1) (nI 1)) (cwV 4 hts (lg_V wm_M_55 wi_M_out4 we_M_out4 wn_M wc_M_out4) rfl rfl rfl ⟨rfl, by decide, by decide, rfl⟩ ⟨by rw [hR]; exact Nat.le_of_ble_eq_true rfl, by rw [hR]; exact Nat.le_of_ble_eq_true rfl⟩) rfl (Nat.le_of_ble_eq_true rfl) ⟨by rw [hR]; exact Nat.le_of_ble_eq_true rfl, by rw [hR]; exact Nat.le_of_ble_eq_true rfl⟩ rfl dM_owner2_10 (tg_kv rfl rfl ?_)
  have hb_1 := hg_b_le (mo_bad (nI x) (nI y) (nI 1) (nI 1))
  refine tg_if_eq (tgt := 24) hx hb dM_owner2_13 (by decide) (fun q_2 => ?_) (fun q_2 => ?_)
  · have q_2' := q_2
    rw [← nI_0] at q_2
    have h_3 : hg_b (mo_bad (nI x) (nI y) (nI 1) (nI 1)) = 0 := (nI_eq (by omega) (by omega)).mp q_2
    refine tg_aload_n hx hb dM_owner2_24 rfl rfl ?_
    refine tg_bipush (v := nI 20) hx hb dM_owner2_25 (by decide +kernel) ?_
    refine tg_iload_n hx hb dM_owner2_27 rfl rfl ?_
    refine tg_imul hx hb dM_owner2_28 ?_
    refine tg_top (y := nI ((20) * (x))) (pk_mul _ _) ?_
    refine tg_iload_n hx hb dM_owner2_29 rfl rfl ?_
    refine tg_iadd hx hb dM_owner2_30 ?_
    refine tg_top (y := nI (((20) * (x)) + (y))) (nI_add _ _) ?_
    refine tg_callV (C := "HangGraphModel") (As := [.int (nI (((20) * (x)) + (y)))]) (rest := []) ⟨hx, hb, hml, hown, hts⟩ hK hN hMv (hO.1 11 (by decide) (by decide) (by decide) (by decide)) rfl rfl rfl (c_mOwner1 hO hB0 (20 * x + y) (by omega)) (cwV 1 hts (lg_V wm_M_63 wi_M_owner1 we_M_owner1 wn_M wc_M_owner1) rfl rfl rfl ⟨rfl, by decide, by decide, rfl⟩ ⟨by rw [hR]; exact Nat.le_of_ble_eq_true rfl, by rw [hR]; exact Nat.le_of_ble_eq_true rfl⟩) rfl (Nat.le_of_ble_eq_true rfl) ⟨by rw [hR]; exact Nat.le_of_ble_eq_true rfl, by rw [hR]; exact Nat.le_of_ble_eq_true rfl⟩ rfl dM_owner2_31 (tg_kk rfl rfl ?_)
    intro r w1 ⟨how, hw1⟩
    subst hw1
    have how' : mo_ow M (20 * x + y) r := by
      unfold mo_ow at how ⊢
      simp only [mo_in_0] at how
      exact how
    rcases how' with ⟨f, h1, h2, h3, h4⟩ | ⟨h1, h3⟩ <;> subst h3
    · exact tg_iret hx hb hlocks hr hQ ⟨rfl, rfl, Or.inl ⟨f, h1, h2, rfl, h4⟩, rfl⟩ dM_owner2_34
    · exact tg_iret hx hb hlocks hr hQ ⟨rfl, rfl, Or.inr ⟨h1, rfl⟩, rfl⟩ dM_owner2_34
  · have q_2' := q_2
    rw [← nI_0] at q_2
    have h_4 : hg_b (mo_bad (nI x) (nI y) (nI 1) (nI 1)) ≠ 0 := fun z => q_2 ((nI_eq (by omega) (by omega)).mpr z)
    exact absurd (hg_b1 h_4) hnb
set_option maxRecDepth 100000 in
set_option maxHeartbeats 4000000 in
/-- no such cell -/
theorem c_mOut21 (hO : mo_ok ok) (hMv : tg_Mv F Nn) (p9 q9 : Int32) (hbad : mo_bad p9 q9 (nI 1) (nI 1)) : tg_Met l yM_out2 wsM_out2 ({ frames := 1, cells := 0, slots := 0, locals := 40 }) D vwCl (hg_tys cI cF cZ cJ cA cB) F Nn ad ok (mo_w ad cI cZ cA cB M B μ) [.ref (ad 11 0), .int (p9), .int (q9)] (tg_po ad ok fun r w1 => r = some (.int (nI 0)) ∧ w1 = (mo_w ad cI cZ cA cB (tg_up (tg_up M 11 0 0) 11 0 1) B μ)) := by
  refine tg_start (cc := cM_out2) (maxL := 3) (ret := some .int) (by decide) rfl (Nat.le_of_ble_eq_true rfl) ?_
  intro p e R s m args below meth c Q hx hb hml hr hlocks hown hname hts hK hN hR hQ
  have hown : s.vm.findClass "HangGraphModel" = some m.cls := hown
  have hts : ∀ w ∈ lw_g, w.before args s = true := fun w z => hts w (List.mem_cons_of_mem _ z)
  refine tg_aload_n hx hb dM_out2_0 rfl rfl ?_
  refine tg_iconst (v := nI 0) hx hb dM_out2_1 (by decide +kernel) ?_
  refine tg_put (T := TM) (N := 13) (ty := .int) hx hb hts inM tyM tyM_ok nmM hown hK (hO.1 11 (by decide) (by decide) (by decide) (by decide)) rfl rfl 0 (by decide) (hts _ wf_M_51) (fun _ z => z) rfl (by decide +kernel) rfl rfl (Nat.le_of_ble_eq_true rfl) dM_out2_2 ?_
  refine tg_wp (mo_w_11 hO 0) ?_
  refine tg_aload_n hx hb dM_out2_5 rfl rfl ?_
  refine tg_iload_n hx hb dM_out2_6 rfl rfl ?_
  refine tg_iload_n hx hb dM_out2_7 rfl rfl ?_
  refine tg_iconst (v := nI 1) hx hb dM_out2_8 (by decide +kernel) ?_
  refine tg_iconst (v := nI 1) hx hb dM_out2_9 (by decide +kernel) ?_
  refine tg_callV (C := "HangGraphModel") (As := [.int (p9), .int (q9), .int (nI (1)), .int (nI (1))]) (rest := []) ⟨hx, hb, hml, hown, hts⟩ hK hN hMv (hO.1 11 (by decide) (by decide) (by decide) (by decide)) rfl rfl rfl (c_mOut4 hO p9 q9 (nI 1) (nI 1)) (cwV 4 hts (lg_V wm_M_55 wi_M_out4 we_M_out4 wn_M wc_M_out4) rfl rfl rfl ⟨rfl, by decide, by decide, rfl⟩ ⟨by rw [hR]; exact Nat.le_of_ble_eq_true rfl, by rw [hR]; exact Nat.le_of_ble_eq_true rfl⟩) rfl (Nat.le_of_ble_eq_true rfl) ⟨by rw [hR]; exact Nat.le_of_ble_eq_true rfl, by rw [hR]; exact Nat.le_of_ble_eq_true rfl⟩ rfl dM_out2_10 (tg_kv rfl rfl ?_)
  have hb_1 := hg_b_le (mo_bad p9 q9 (nI 1) (nI 1))
  refine tg_if_eq (tgt := 22) hx hb dM_out2_13 (by decide) (fun q_2 => ?_) (fun q_2 => ?_)
  · have q_2' := q_2
    rw [← nI_0] at q_2
    have h_3 : hg_b (mo_bad p9 q9 (nI 1) (nI 1)) = 0 := (nI_eq (by omega) (by omega)).mp q_2
    exact absurd hbad (hg_b0 h_3)
  · have q_2' := q_2
    rw [← nI_0] at q_2
    have h_4 : hg_b (mo_bad p9 q9 (nI 1) (nI 1)) ≠ 0 := fun z => q_2 ((nI_eq (by omega) (by omega)).mpr z)
    refine tg_aload_n hx hb dM_out2_16 rfl rfl ?_
    refine tg_iconst (v := nI 1) hx hb dM_out2_17 (by decide +kernel) ?_
    refine tg_callV (C := "HangGraphModel") (As := [.int (nI (1))]) (rest := []) ⟨hx, hb, hml, hown, hts⟩ hK hN hMv (hO.1 11 (by decide) (by decide) (by decide) (by decide)) rfl rfl rfl (c_mFail hO 1) (cwV 1 hts (lg_V wm_M_59 wi_M_fail we_M_fail wn_M wc_M_fail) rfl rfl rfl ⟨rfl, by decide, by decide, rfl⟩ ⟨by rw [hR]; exact Nat.le_of_ble_eq_true rfl, by rw [hR]; exact Nat.le_of_ble_eq_true rfl⟩) rfl (Nat.le_of_ble_eq_true rfl) ⟨by rw [hR]; exact Nat.le_of_ble_eq_true rfl, by rw [hR]; exact Nat.le_of_ble_eq_true rfl⟩ rfl dM_out2_18 (tg_kv rfl rfl ?_)
    exact tg_iret hx hb hlocks hr hQ ⟨rfl, rfl, rfl, rfl⟩ dM_out2_21
set_option maxRecDepth 100000 in
set_option maxHeartbeats 4000000 in
/-- no such formula -/
theorem c_mOut22 (hO : mo_ok ok) (hMv : tg_Mv F Nn) (hB : ∀ j u, M j u < 1000000) (x y : Nat) (hx9 : x < 20) (hy9 : y < 20) (h12 : M 12 (20 * x + y) = 0) : tg_Met l yM_out2 wsM_out2 ({ frames := 1, cells := 0, slots := 0, locals := 40 }) D vwCl (hg_tys cI cF cZ cJ cA cB) F Nn ad ok (mo_w ad cI cZ cA cB M B μ) [.ref (ad 11 0), .int (nI (x)), .int (nI (y))] (tg_po ad ok fun r w1 => r = some (.int (nI 0)) ∧ w1 = (mo_w ad cI cZ cA cB (tg_up (tg_up M 11 0 0) 11 0 2) B μ)) := by
  refine tg_start (cc := cM_out2) (maxL := 3) (ret := some .int) (by decide) rfl (Nat.le_of_ble_eq_true rfl) ?_
  intro p e R s m args below meth c Q hx hb hml hr hlocks hown hname hts hK hN hR hQ
  have hown : s.vm.findClass "HangGraphModel" = some m.cls := hown
  have hts : ∀ w ∈ lw_g, w.before args s = true := fun w z => hts w (List.mem_cons_of_mem _ z)
  have hnb : ¬ mo_bad (nI x) (nI y) (nI 1) (nI 1) := mo_ok1 hx9 hy9 (by omega) (by omega) (by omega) (by omega)
  refine tg_aload_n hx hb dM_out2_0 rfl rfl ?_
  refine tg_iconst (v := nI 0) hx hb dM_out2_1 (by decide +kernel) ?_
  refine tg_put (T := TM) (N := 13) (ty := .int) hx hb hts inM tyM tyM_ok nmM hown hK (hO.1 11 (by decide) (by decide) (by decide) (by decide)) rfl rfl 0 (by decide) (hts _ wf_M_51) (fun _ z => z) rfl (by decide +kernel) rfl rfl (Nat.le_of_ble_eq_true rfl) dM_out2_2 ?_
  refine tg_wp (mo_w_11 hO 0) ?_
  refine tg_aload_n hx hb dM_out2_5 rfl rfl ?_
  refine tg_iload_n hx hb dM_out2_6 rfl rfl ?_
  refine tg_iload_n hx hb dM_out2_7 rfl rfl ?_
  refine tg_iconst (v := nI 1) hx hb dM_out2_8 (by decide +kernel) ?_
  refine tg_iconst (v := nI 1) hx hb dM_out2_9 (by decide +kernel) ?_
  refine tg_callV (C := "HangGraphModel") (As := [.int (nI (x)), .int (nI (y)), .int (nI (1)), .int (nI (1))]) (rest := []) ⟨hx, hb, hml, hown, hts⟩ hK hN hMv (hO.1 11 (by decide) (by decide) (by decide) (by decide)) rfl rfl rfl (c_mOut4 hO (nI x) (nI y) (nI 1) (nI 1)) (cwV 4 hts (lg_V wm_M_55 wi_M_out4 we_M_out4 wn_M wc_M_out4) rfl rfl rfl ⟨rfl, by decide, by decide, rfl⟩ ⟨by rw [hR]; exact Nat.le_of_ble_eq_true rfl, by rw [hR]; exact Nat.le_of_ble_eq_true rfl⟩) rfl (Nat.le_of_ble_eq_true rfl) ⟨by rw [hR]; exact Nat.le_of_ble_eq_true rfl, by rw [hR]; exact Nat.le_of_ble_eq_true rfl⟩ rfl dM_out2_10 (tg_kv rfl rfl ?_)
  have hb_1 := hg_b_le (mo_bad (nI x) (nI y) (nI 1) (nI 1))
  refine tg_if_eq (tgt := 22) hx hb dM_out2_13 (by decide) (fun q_2 => ?_) (fun q_2 => ?_)
  · have q_2' := q_2
    rw [← nI_0] at q_2
    have h_3 : hg_b (mo_bad (nI x) (nI y) (nI 1) (nI 1)) = 0 := (nI_eq (by omega) (by omega)).mp q_2
    refine tg_aload_n hx hb dM_out2_22 rfl rfl ?_
    refine tg_get (T := TM) (N := 13) hx hb hts inM hown hK (hO.1 11 (by decide) (by decide) (by decide) (by decide)) rfl rfl 1 (by decide) (hts _ wf_M_7) (fun _ z => z) rfl dM_out2_23 ?_
    refine tg_bipush (v := nI 20) hx hb dM_out2_26 (by decide +kernel) ?_
    refine tg_iload_n hx hb dM_out2_28 rfl rfl ?_
    refine tg_imul hx hb dM_out2_29 ?_
    refine tg_top (y := nI ((20) * (x))) (pk_mul _ _) ?_
    refine tg_iload_n hx hb dM_out2_30 rfl rfl ?_
    refine tg_iadd hx hb dM_out2_31 ?_
    refine tg_top (y := nI (((20) * (x)) + (y))) (nI_add _ _) ?_
    refine tg_zald (t0 := 2) hx hb hK (hO.1 12 (by decide) (by decide) (by decide) (by decide)) rfl rfl (x := ((20) * (x)) + (y)) (by decide) (by omega) dM_out2_32 ?_
    refine tg_top (y := nI (M 12 (((20) * (x)) + (y)))) (by simp [tg_up]) ?_
    have hb_4 := hB 12 (((20) * (x)) + (y))
    refine tg_if_ne (tgt := 42) hx hb dM_out2_33 (by decide) (fun q_5 => ?_) (fun q_5 => ?_)
    · have q_5' := q_5
      rw [← nI_0] at q_5
      have h_6 : M 12 (((20) * (x)) + (y)) ≠ 0 := fun z => q_5 ((nI_eq (by omega) (by omega)).mpr z)
      omega
    · have q_5' := q_5
      rw [← nI_0] at q_5
      have h_7 : M 12 (((20) * (x)) + (y)) = 0 := (nI_eq (by omega) (by omega)).mp q_5
      refine tg_aload_n hx hb dM_out2_36 rfl rfl ?_
      refine tg_iconst (v := nI 2) hx hb dM_out2_37 (by decide +kernel) ?_
      refine tg_callV (C := "HangGraphModel") (As := [.int (nI (2))]) (rest := []) ⟨hx, hb, hml, hown, hts⟩ hK hN hMv (hO.1 11 (by decide) (by decide) (by decide) (by decide)) rfl rfl rfl (c_mFail hO 2) (cwV 1 hts (lg_V wm_M_59 wi_M_fail we_M_fail wn_M wc_M_fail) rfl rfl rfl ⟨rfl, by decide, by decide, rfl⟩ ⟨by rw [hR]; exact Nat.le_of_ble_eq_true rfl, by rw [hR]; exact Nat.le_of_ble_eq_true rfl⟩) rfl (Nat.le_of_ble_eq_true rfl) ⟨by rw [hR]; exact Nat.le_of_ble_eq_true rfl, by rw [hR]; exact Nat.le_of_ble_eq_true rfl⟩ rfl dM_out2_38 (tg_kv rfl rfl ?_)
      exact tg_iret hx hb hlocks hr hQ ⟨rfl, rfl, rfl, rfl⟩ dM_out2_41
  · have q_2' := q_2
    rw [← nI_0] at q_2
    have h_8 : hg_b (mo_bad (nI x) (nI y) (nI 1) (nI 1)) ≠ 0 := fun z => q_2 ((nI_eq (by omega) (by omega)).mpr z)
    exact absurd (hg_b1 h_8) hnb
set_option maxRecDepth 100000 in
set_option maxHeartbeats 4000000 in
/-- f is taken out -/
theorem c_mOut20 (hO : mo_ok ok) (hMv : tg_Mv F Nn) (hB : ∀ j u, M j u < 1000000) (x y : Nat) (hx9 : x < 20) (hy9 : y < 20) (h12 : M 12 (20 * x + y) ≠ 0) : tg_Met l yM_out2 wsM_out2 ({ frames := 1, cells := 0, slots := 0, locals := 40 }) D vwCl (hg_tys cI cF cZ cJ cA cB) F Nn ad ok (mo_w ad cI cZ cA cB M B μ) [.ref (ad 11 0), .int (nI (x)), .int (nI (y))] (tg_po ad ok fun r w1 => r = some (.int (nI (hg_cn (fun f => (tg_up (tg_up M 11 0 0) 12 (20 * x + y) 0) 12 f ≠ 0) 400))) ∧ w1 = (mo_w ad cI cZ cA cB (tg_up (tg_up M 11 0 0) 12 (20 * x + y) 0) B μ)) := by
  refine tg_start (cc := cM_out2) (maxL := 3) (ret := some .int) (by decide) rfl (Nat.le_of_ble_eq_true rfl) ?_
  intro p e R s m args below meth c Q hx hb hml hr hlocks hown hname hts hK hN hR hQ
  have hown : s.vm.findClass "HangGraphModel" = some m.cls := hown
  have hts : ∀ w ∈ lw_g, w.before args s = true := fun w z => hts w (List.mem_cons_of_mem _ z)
  have hnb : ¬ mo_bad (nI x) (nI y) (nI 1) (nI 1) := mo_ok1 hx9 hy9 (by omega) (by omega) (by omega) (by omega)
  have hB0 : ∀ j u, (tg_up M 11 0 0) j u < 1000000 := mo_b0 hB (by decide)
  have hB2 : ∀ j u, (tg_up (tg_up M 11 0 0) 12 (20 * x + y) 0) j u < 1000000 := mo_b0 hB0 (by decide)
  refine tg_aload_n hx hb dM_out2_0 rfl rfl ?_
  refine tg_iconst (v := nI 0) hx hb dM_out2_1 (by decide +kernel) ?_
  refine tg_put (T := TM) (N := 13) (ty := .int) hx hb hts inM tyM tyM_ok nmM hown hK (hO.1 11 (by decide) (by decide) (by decide) (by decide)) rfl rfl 0 (by decide) (hts _ wf_M_51) (fun _ z => z) rfl (by decide +kernel) rfl rfl (Nat.le_of_ble_eq_true rfl) dM_out2_2 ?_
  refine tg_wp (mo_w_11 hO 0) ?_
  refine tg_aload_n hx hb dM_out2_5 rfl rfl ?_
  refine tg_iload_n hx hb dM_out2_6 rfl rfl ?_
  refine tg_iload_n hx hb dM_out2_7 rfl rfl ?_
  refine tg_iconst (v := nI 1) hx hb dM_out2_8 (by decide +kernel) ?_
  refine tg_iconst (v := nI 1) hx hb dM_out2_9 (by decide +kernel) ?_
  refine tg_callV (C := "HangGraphModel") (As := [.int (nI (x)), .int (nI (y)), .int (nI (1)), .int (nI (1))]) (rest := []) ⟨hx, hb, hml, hown, hts⟩ hK hN hMv (hO.1 11 (by decide) (by decide) (by decide) (by decide)) rfl rfl rfl (c_mOut4 hO (nI x) (nI y) (nI 1) (nI 1)) (cwV 4 hts (lg_V wm_M_55 wi_M_out4 we_M_out4 wn_M wc_M_out4) rfl rfl rfl ⟨rfl, by decide, by decide, rfl⟩ ⟨by rw [hR]; exact Nat.le_of_ble_eq_true rfl, by rw [hR]; exact Nat.le_of_ble_eq_true rfl⟩) rfl (Nat.le_of_ble_eq_true rfl) ⟨by rw [hR]; exact Nat.le_of_ble_eq_true rfl, by rw [hR]; exact Nat.le_of_ble_eq_true rfl⟩ rfl dM_out2_10 (tg_kv rfl rfl ?_)
  have hb_1 := hg_b_le (mo_bad (nI x) (nI y) (nI 1) (nI 1))
  refine tg_if_eq (tgt := 22) hx hb dM_out2_13 (by decide) (fun q_2 => ?_) (fun q_2 => ?_)
  · have q_2' := q_2
    rw [← nI_0] at q_2
    have h_3 : hg_b (mo_bad (nI x) (nI y) (nI 1) (nI 1)) = 0 := (nI_eq (by omega) (by omega)).mp q_2
    refine tg_aload_n hx hb dM_out2_22 rfl rfl ?_
    refine tg_get (T := TM) (N := 13) hx hb hts inM hown hK (hO.1 11 (by decide) (by decide) (by decide) (by decide)) rfl rfl 1 (by decide) (hts _ wf_M_7) (fun _ z => z) rfl dM_out2_23 ?_
    refine tg_bipush (v := nI 20) hx hb dM_out2_26 (by decide +kernel) ?_
    refine tg_iload_n hx hb dM_out2_28 rfl rfl ?_
    refine tg_imul hx hb dM_out2_29 ?_
    refine tg_top (y := nI ((20) * (x))) (pk_mul _ _) ?_
    refine tg_iload_n hx hb dM_out2_30 rfl rfl ?_
    refine tg_iadd hx hb dM_out2_31 ?_
    refine tg_top (y := nI (((20) * (x)) + (y))) (nI_add _ _) ?_
    refine tg_zald (t0 := 2) hx hb hK (hO.1 12 (by decide) (by decide) (by decide) (by decide)) rfl rfl (x := ((20) * (x)) + (y)) (by decide) (by omega) dM_out2_32 ?_
    refine tg_top (y := nI (M 12 (((20) * (x)) + (y)))) (by simp [tg_up]) ?_
    have hb_4 := hB 12 (((20) * (x)) + (y))
    refine tg_if_ne (tgt := 42) hx hb dM_out2_33 (by decide) (fun q_5 => ?_) (fun q_5 => ?_)
    · have q_5' := q_5
      rw [← nI_0] at q_5
      have h_6 : M 12 (((20) * (x)) + (y)) ≠ 0 := fun z => q_5 ((nI_eq (by omega) (by omega)).mpr z)
      refine tg_aload_n hx hb dM_out2_42 rfl rfl ?_
      refine tg_get (T := TM) (N := 13) hx hb hts inM hown hK (hO.1 11 (by decide) (by decide) (by decide) (by decide)) rfl rfl 1 (by decide) (hts _ wf_M_7) (fun _ z => z) rfl dM_out2_43 ?_
      refine tg_bipush (v := nI 20) hx hb dM_out2_46 (by decide +kernel) ?_
      refine tg_iload_n hx hb dM_out2_48 rfl rfl ?_
      refine tg_imul hx hb dM_out2_49 ?_
      refine tg_top (y := nI ((20) * (x))) (pk_mul _ _) ?_
      refine tg_iload_n hx hb dM_out2_50 rfl rfl ?_
      refine tg_iadd hx hb dM_out2_51 ?_
      refine tg_top (y := nI (((20) * (x)) + (y))) (nI_add _ _) ?_
      refine tg_iconst (v := nI 0) hx hb dM_out2_52 (by decide +kernel) ?_
      refine tg_zast (t0 := 2) hx hb hK (hO.1 12 (by decide) (by decide) (by decide) (by decide)) rfl rfl (x := ((20) * (x)) + (y)) (v := nI (0)) (by decide +kernel) (by decide) (by omega) dM_out2_53 ?_
      refine tg_wp (mo_w_12 hO (((20) * (x)) + (y)) 0) ?_
      refine tg_aload_n hx hb dM_out2_54 rfl rfl ?_
      refine tg_callV (C := "HangGraphModel") (As := []) (rest := []) ⟨hx, hb, hml, hown, hts⟩ hK hN hMv (hO.1 11 (by decide) (by decide) (by decide) (by decide)) rfl rfl rfl (c_mCount hO (M := (tg_up (tg_up M 11 0 0) 12 (20 * x + y) 0)) hB2) (cwV 0 hts (lg_V wm_M_70 wi_M_count we_M_count wn_M wc_M_count) rfl rfl rfl ⟨rfl, by decide, by decide, rfl⟩ ⟨by rw [hR]; exact Nat.le_of_ble_eq_true rfl, by rw [hR]; exact Nat.le_of_ble_eq_true rfl⟩) rfl (Nat.le_of_ble_eq_true rfl) ⟨by rw [hR]; exact Nat.le_of_ble_eq_true rfl, by rw [hR]; exact Nat.le_of_ble_eq_true rfl⟩ rfl dM_out2_55 (tg_kv rfl rfl ?_)
      exact tg_iret hx hb hlocks hr hQ ⟨rfl, rfl, rfl, rfl⟩ dM_out2_58
    · have q_5' := q_5
      rw [← nI_0] at q_5
      have h_7 : M 12 (((20) * (x)) + (y)) = 0 := (nI_eq (by omega) (by omega)).mp q_5
      omega
  · have q_2' := q_2
    rw [← nI_0] at q_2
    have h_8 : hg_b (mo_bad (nI x) (nI y) (nI 1) (nI 1)) ≠ 0 := fun z => q_2 ((nI_eq (by omega) (by omega)).mpr z)
    exact absurd (hg_b1 h_8) hnb
end MOA
/-- what the reference tells of f -/
def mo_tv (M : Nat → Nat → Nat) (f q : Nat) : Nat := if q = 0 then (if M 19 f = 0 then 0 else 1) else if q = 1 then (if M 20 f = 0 then 0 else 1) else M 21 f
section MOB
variable {l : Launch} {D : va_G} {F : Nat → Prop} {Nn : State → Heap → Prop} {ad : Nat → Nat → Nat} {ok : Nat → Nat → Prop} {cF cI cZ cJ cA cB : ClassId} {M : Nat → Nat → Nat} {B : Nat → Nat → Nat → Nat} {μ : Nat → Nat → va_E}
set_option maxRecDepth 100000 in
set_option maxHeartbeats 4000000 in
/-- refused -/
theorem c_mTold1 (hO : mo_ok ok) (hMv : tg_Mv F Nn) (p9 q9 k9 : Int32) (hbad : mo_bad p9 q9 (nI 1) (nI 1) ∨ k9 < 0 ∨ ¬ k9 ≤ nI 2) : tg_Met l yM_told wsM_told ({ frames := 1, cells := 0, slots := 0, locals := 40 }) D vwCl (hg_tys cI cF cZ cJ cA cB) F Nn ad ok (mo_w ad cI cZ cA cB M B μ) [.ref (ad 11 0), .int (p9), .int (q9), .int (k9)] (tg_po ad ok fun r w1 => r = some (.int (nI 0)) ∧ w1 = (mo_w ad cI cZ cA cB (tg_up (tg_up M 11 0 0) 11 0 1) B μ)) := by
  refine tg_start (cc := cM_told) (maxL := 5) (ret := some .int) (by decide) rfl (Nat.le_of_ble_eq_true rfl) ?_
  intro p e R s m args below meth c Q hx hb hml hr hlocks hown hname hts hK hN hR hQ
  have hown : s.vm.findClass "HangGraphModel" = some m.cls := hown
  have hts : ∀ w ∈ lw_g, w.before args s = true := fun w z => hts w (List.mem_cons_of_mem _ z)
  refine tg_aload_n hx hb dM_told_0 rfl rfl ?_
  refine tg_iconst (v := nI 0) hx hb dM_told_1 (by decide +kernel) ?_
  refine tg_put (T := TM) (N := 13) (ty := .int) hx hb hts inM tyM tyM_ok nmM hown hK (hO.1 11 (by decide) (by decide) (by decide) (by decide)) rfl rfl 0 (by decide) (hts _ wf_M_51) (fun _ z => z) rfl (by decide +kernel) rfl rfl (Nat.le_of_ble_eq_true rfl) dM_told_2 ?_
  refine tg_wp (mo_w_11 hO 0) ?_
  refine tg_aload_n hx hb dM_told_5 rfl rfl ?_
  refine tg_iload_n hx hb dM_told_6 rfl rfl ?_
  refine tg_iload_n hx hb dM_told_7 rfl rfl ?_
  refine tg_iconst (v := nI 1) hx hb dM_told_8 (by decide +kernel) ?_
  refine tg_iconst (v := nI 1) hx hb dM_told_9 (by decide +kernel) ?_
  refine tg_callV (C := "HangGraphModel") (As := [.int (p9), .int (q9), .int (nI (1)), .int (nI (1))]) (rest := []) ⟨hx, hb, hml, hown, hts⟩ hK hN hMv (hO.1 11 (by decide) (by decide) (by decide) (by decide)) rfl rfl rfl (c_mOut4 hO p9 q9 (nI 1) (nI 1)) (cwV 4 hts (lg_V wm_M_55 wi_M_out4 we_M_out4 wn_M wc_M_out4) rfl rfl rfl ⟨rfl, by decide, by decide, rfl⟩ ⟨by rw [hR]; exact Nat.le_of_ble_eq_true rfl, by rw [hR]; exact Nat.le_of_ble_eq_true rfl⟩) rfl (Nat.le_of_ble_eq_true rfl) ⟨by rw [hR]; exact Nat.le_of_ble_eq_true rfl, by rw [hR]; exact Nat.le_of_ble_eq_true rfl⟩ rfl dM_told_10 (tg_kv rfl rfl ?_)
  have hb_1 := hg_b_le (mo_bad p9 q9 (nI 1) (nI 1))
  refine tg_if_ne (tgt := 25) hx hb dM_told_13 (by decide) (fun q_2 => ?_) (fun q_2 => ?_)
  · have q_2' := q_2
    rw [← nI_0] at q_2
    have h_3 : hg_b (mo_bad p9 q9 (nI 1) (nI 1)) ≠ 0 := fun z => q_2 ((nI_eq (by omega) (by omega)).mpr z)
    refine tg_aload_n hx hb dM_told_25 rfl rfl ?_
    refine tg_iconst (v := nI 1) hx hb dM_told_26 (by decide +kernel) ?_
    refine tg_callV (C := "HangGraphModel") (As := [.int (nI (1))]) (rest := []) ⟨hx, hb, hml, hown, hts⟩ hK hN hMv (hO.1 11 (by decide) (by decide) (by decide) (by decide)) rfl rfl rfl (c_mFail hO 1) (cwV 1 hts (lg_V wm_M_59 wi_M_fail we_M_fail wn_M wc_M_fail) rfl rfl rfl ⟨rfl, by decide, by decide, rfl⟩ ⟨by rw [hR]; exact Nat.le_of_ble_eq_true rfl, by rw [hR]; exact Nat.le_of_ble_eq_true rfl⟩) rfl (Nat.le_of_ble_eq_true rfl) ⟨by rw [hR]; exact Nat.le_of_ble_eq_true rfl, by rw [hR]; exact Nat.le_of_ble_eq_true rfl⟩ rfl dM_told_27 (tg_kv rfl rfl ?_)
    exact tg_iret hx hb hlocks hr hQ ⟨rfl, rfl, rfl, rfl⟩ dM_told_30
  · have q_2' := q_2
    rw [← nI_0] at q_2
    have h_4 : hg_b (mo_bad p9 q9 (nI 1) (nI 1)) = 0 := (nI_eq (by omega) (by omega)).mp q_2
    refine tg_iload_n hx hb dM_told_16 rfl rfl ?_
    refine tg_if_lt (tgt := 25) hx hb dM_told_17 (by decide) (fun q_5 => ?_) (fun q_5 => ?_)
    · have q_5' := q_5
      refine tg_aload_n hx hb dM_told_25 rfl rfl ?_
      refine tg_iconst (v := nI 1) hx hb dM_told_26 (by decide +kernel) ?_
      refine tg_callV (C := "HangGraphModel") (As := [.int (nI (1))]) (rest := []) ⟨hx, hb, hml, hown, hts⟩ hK hN hMv (hO.1 11 (by decide) (by decide) (by decide) (by decide)) rfl rfl rfl (c_mFail hO 1) (cwV 1 hts (lg_V wm_M_59 wi_M_fail we_M_fail wn_M wc_M_fail) rfl rfl rfl ⟨rfl, by decide, by decide, rfl⟩ ⟨by rw [hR]; exact Nat.le_of_ble_eq_true rfl, by rw [hR]; exact Nat.le_of_ble_eq_true rfl⟩) rfl (Nat.le_of_ble_eq_true rfl) ⟨by rw [hR]; exact Nat.le_of_ble_eq_true rfl, by rw [hR]; exact Nat.le_of_ble_eq_true rfl⟩ rfl dM_told_27 (tg_kv rfl rfl ?_)
      exact tg_iret hx hb hlocks hr hQ ⟨rfl, rfl, rfl, rfl⟩ dM_told_30
    · have q_5' := q_5
      refine tg_iload_n hx hb dM_told_20 rfl rfl ?_
      refine tg_iconst (v := nI 2) hx hb dM_told_21 (by decide +kernel) ?_
      refine tg_icmp_le (tgt := 31) hx hb dM_told_22 (by decide) (fun q_6 => ?_) (fun q_6 => ?_)
      · have q_6' := q_6
        rcases hbad with z | z | z
        · exact absurd z (hg_b0 h_4)
        · exact absurd z q_5'
        · exact absurd q_6' z
      · have q_6' := q_6
        refine tg_aload_n hx hb dM_told_25 rfl rfl ?_
        refine tg_iconst (v := nI 1) hx hb dM_told_26 (by decide +kernel) ?_
        refine tg_callV (C := "HangGraphModel") (As := [.int (nI (1))]) (rest := []) ⟨hx, hb, hml, hown, hts⟩ hK hN hMv (hO.1 11 (by decide) (by decide) (by decide) (by decide)) rfl rfl rfl (c_mFail hO 1) (cwV 1 hts (lg_V wm_M_59 wi_M_fail we_M_fail wn_M wc_M_fail) rfl rfl rfl ⟨rfl, by decide, by decide, rfl⟩ ⟨by rw [hR]; exact Nat.le_of_ble_eq_true rfl, by rw [hR]; exact Nat.le_of_ble_eq_true rfl⟩) rfl (Nat.le_of_ble_eq_true rfl) ⟨by rw [hR]; exact Nat.le_of_ble_eq_true rfl, by rw [hR]; exact Nat.le_of_ble_eq_true rfl⟩ rfl dM_told_27 (tg_kv rfl rfl ?_)
        exact tg_iret hx hb hlocks hr hQ ⟨rfl, rfl, rfl, rfl⟩ dM_told_30
set_option maxRecDepth 100000 in
set_option maxHeartbeats 4000000 in
/-- no such formula -/
theorem c_mTold2 (hO : mo_ok ok) (hMv : tg_Mv F Nn) (hB : ∀ j u, M j u < 1000000) (x y : Nat) (hx9 : x < 20) (hy9 : y < 20) (h12 : M 12 (20 * x + y) = 0) (q : Nat) (hq : q ≤ 2) : tg_Met l yM_told wsM_told ({ frames := 1, cells := 0, slots := 0, locals := 40 }) D vwCl (hg_tys cI cF cZ cJ cA cB) F Nn ad ok (mo_w ad cI cZ cA cB M B μ) [.ref (ad 11 0), .int (nI (x)), .int (nI (y)), .int (nI (q))] (tg_po ad ok fun r w1 => r = some (.int (nI 0)) ∧ w1 = (mo_w ad cI cZ cA cB (tg_up (tg_up M 11 0 0) 11 0 2) B μ)) := by
  refine tg_start (cc := cM_told) (maxL := 5) (ret := some .int) (by decide) rfl (Nat.le_of_ble_eq_true rfl) ?_
  intro p e R s m args below meth c Q hx hb hml hr hlocks hown hname hts hK hN hR hQ
  have hown : s.vm.findClass "HangGraphModel" = some m.cls := hown
  have hts : ∀ w ∈ lw_g, w.before args s = true := fun w z => hts w (List.mem_cons_of_mem _ z)
  have hnb : ¬ mo_bad (nI x) (nI y) (nI 1) (nI 1) := mo_ok1 hx9 hy9 (by omega) (by omega) (by omega) (by omega)
  refine tg_aload_n hx hb dM_told_0 rfl rfl ?_
  refine tg_iconst (v := nI 0) hx hb dM_told_1 (by decide +kernel) ?_
  refine tg_put (T := TM) (N := 13) (ty := .int) hx hb hts inM tyM tyM_ok nmM hown hK (hO.1 11 (by decide) (by decide) (by decide) (by decide)) rfl rfl 0 (by decide) (hts _ wf_M_51) (fun _ z => z) rfl (by decide +kernel) rfl rfl (Nat.le_of_ble_eq_true rfl) dM_told_2 ?_
  refine tg_wp (mo_w_11 hO 0) ?_
  refine tg_aload_n hx hb dM_told_5 rfl rfl ?_
  refine tg_iload_n hx hb dM_told_6 rfl rfl ?_
  refine tg_iload_n hx hb dM_told_7 rfl rfl ?_
  refine tg_iconst (v := nI 1) hx hb dM_told_8 (by decide +kernel) ?_
  refine tg_iconst (v := nI 1) hx hb dM_told_9 (by decide +kernel) ?_
  refine tg_callV (C := "HangGraphModel") (As := [.int (nI (x)), .int (nI (y)), .int (nI (1)), .int (nI (1))]) (rest := []) ⟨hx, hb, hml, hown, hts⟩ hK hN hMv (hO.1 11 (by decide) (by decide) (by decide) (by decide)) rfl rfl rfl (c_mOut4 hO (nI x) (nI y) (nI 1) (nI 1)) (cwV 4 hts (lg_V wm_M_55 wi_M_out4 we_M_out4 wn_M wc_M_out4) rfl rfl rfl ⟨rfl, by decide, by decide, rfl⟩ ⟨by rw [hR]; exact Nat.le_of_ble_eq_true rfl, by rw [hR]; exact Nat.le_of_ble_eq_true rfl⟩) rfl (Nat.le_of_ble_eq_true rfl) ⟨by rw [hR]; exact Nat.le_of_ble_eq_true rfl, by rw [hR]; exact Nat.le_of_ble_eq_true rfl⟩ rfl dM_told_10 (tg_kv rfl rfl ?_)
  have hb_1 := hg_b_le (mo_bad (nI x) (nI y) (nI 1) (nI 1))
  refine tg_if_ne (tgt := 25) hx hb dM_told_13 (by decide) (fun q_2 => ?_) (fun q_2 => ?_)
  · have q_2' := q_2
    rw [← nI_0] at q_2
    have h_3 : hg_b (mo_bad (nI x) (nI y) (nI 1) (nI 1)) ≠ 0 := fun z => q_2 ((nI_eq (by omega) (by omega)).mpr z)
    exact absurd (hg_b1 h_3) hnb
  · have q_2' := q_2
    rw [← nI_0] at q_2
    have h_4 : hg_b (mo_bad (nI x) (nI y) (nI 1) (nI 1)) = 0 := (nI_eq (by omega) (by omega)).mp q_2
    refine tg_iload_n hx hb dM_told_16 rfl rfl ?_
    refine tg_if_lt (tgt := 25) hx hb dM_told_17 (by decide) (fun q_5 => ?_) (fun q_5 => ?_)
    · have q_5' := q_5
      rw [← nI_0] at q_5
      have h_6 : q < 0 := (nI_ltI (by omega) (by omega)).mp q_5
      omega
    · have q_5' := q_5
      rw [← nI_0] at q_5
      have h_7 : 0 ≤ q := Nat.le_of_not_lt fun z => q_5 ((nI_ltI (by omega) (by omega)).mpr z)
      refine tg_iload_n hx hb dM_told_20 rfl rfl ?_
      refine tg_iconst (v := nI 2) hx hb dM_told_21 (by decide +kernel) ?_
      refine tg_icmp_le (tgt := 31) hx hb dM_told_22 (by decide) (fun q_8 => ?_) (fun q_8 => ?_)
      · have q_8' := q_8
        have h_9 : q ≤ 2 := (nI_leI (by omega) (by omega)).mp q_8
        refine tg_bipush (v := nI 20) hx hb dM_told_31 (by decide +kernel) ?_
        refine tg_iload_n hx hb dM_told_33 rfl rfl ?_
        refine tg_imul hx hb dM_told_34 ?_
        refine tg_top (y := nI ((20) * (x))) (pk_mul _ _) ?_
        refine tg_iload_n hx hb dM_told_35 rfl rfl ?_
        refine tg_iadd hx hb dM_told_36 ?_
        refine tg_top (y := nI (((20) * (x)) + (y))) (nI_add _ _) ?_
        refine tg_istore (L' := [(0, .ref (ad 11 0)), (1, .int (nI (x))), (2, .int (nI (y))), (3, .int (nI (q))), (4, .int (nI (((20) * (x)) + (y))))]) hx hb dM_told_37 (by decide) rfl rfl ?_
        refine tg_aload_n hx hb dM_told_39 rfl rfl ?_
        refine tg_get (T := TM) (N := 13) hx hb hts inM hown hK (hO.1 11 (by decide) (by decide) (by decide) (by decide)) rfl rfl 1 (by decide) (hts _ wf_M_7) (fun _ z => z) rfl dM_told_40 ?_
        refine tg_iload hx hb dM_told_43 rfl ?_
        refine tg_zald (t0 := 2) hx hb hK (hO.1 12 (by decide) (by decide) (by decide) (by decide)) rfl rfl (x := ((20) * (x)) + (y)) (by decide) (by omega) dM_told_45 ?_
        refine tg_top (y := nI (M 12 (((20) * (x)) + (y)))) (by simp [tg_up]) ?_
        have hb_10 := hB 12 (((20) * (x)) + (y))
        refine tg_if_ne (tgt := 55) hx hb dM_told_46 (by decide) (fun q_11 => ?_) (fun q_11 => ?_)
        · have q_11' := q_11
          rw [← nI_0] at q_11
          have h_12 : M 12 (((20) * (x)) + (y)) ≠ 0 := fun z => q_11 ((nI_eq (by omega) (by omega)).mpr z)
          omega
        · have q_11' := q_11
          rw [← nI_0] at q_11
          have h_13 : M 12 (((20) * (x)) + (y)) = 0 := (nI_eq (by omega) (by omega)).mp q_11
          refine tg_aload_n hx hb dM_told_49 rfl rfl ?_
          refine tg_iconst (v := nI 2) hx hb dM_told_50 (by decide +kernel) ?_
          refine tg_callV (C := "HangGraphModel") (As := [.int (nI (2))]) (rest := []) ⟨hx, hb, hml, hown, hts⟩ hK hN hMv (hO.1 11 (by decide) (by decide) (by decide) (by decide)) rfl rfl rfl (c_mFail hO 2) (cwV 1 hts (lg_V wm_M_59 wi_M_fail we_M_fail wn_M wc_M_fail) rfl rfl rfl ⟨rfl, by decide, by decide, rfl⟩ ⟨by rw [hR]; exact Nat.le_of_ble_eq_true rfl, by rw [hR]; exact Nat.le_of_ble_eq_true rfl⟩) rfl (Nat.le_of_ble_eq_true rfl) ⟨by rw [hR]; exact Nat.le_of_ble_eq_true rfl, by rw [hR]; exact Nat.le_of_ble_eq_true rfl⟩ rfl dM_told_51 (tg_kv rfl rfl ?_)
          exact tg_iret hx hb hlocks hr hQ ⟨rfl, rfl, rfl, rfl⟩ dM_told_54
      · have q_8' := q_8
        have h_14 : 2 < q := Nat.lt_of_not_le fun z => q_8 ((nI_leI (by omega) (by omega)).mpr z)
        omega
set_option maxRecDepth 100000 in
set_option maxHeartbeats 4000000 in
/-- what is told of f -/
theorem c_mTold0 (hO : mo_ok ok) (hMv : tg_Mv F Nn) (hB : ∀ j u, M j u < 1000000) (x y : Nat) (hx9 : x < 20) (hy9 : y < 20) (h12 : M 12 (20 * x + y) ≠ 0) (q : Nat) (hq : q ≤ 2) : tg_Met l yM_told wsM_told ({ frames := 1, cells := 0, slots := 0, locals := 40 }) D vwCl (hg_tys cI cF cZ cJ cA cB) F Nn ad ok (mo_w ad cI cZ cA cB M B μ) [.ref (ad 11 0), .int (nI (x)), .int (nI (y)), .int (nI (q))] (tg_po ad ok fun r w1 => r = some (.int (nI (mo_tv M (20 * x + y) q))) ∧ w1 = (mo_w ad cI cZ cA cB (tg_up M 11 0 0) B μ)) := by
  refine tg_start (cc := cM_told) (maxL := 5) (ret := some .int) (by decide) rfl (Nat.le_of_ble_eq_true rfl) ?_
  intro p e R s m args below meth c Q hx hb hml hr hlocks hown hname hts hK hN hR hQ
  have hown : s.vm.findClass "HangGraphModel" = some m.cls := hown
  have hts : ∀ w ∈ lw_g, w.before args s = true := fun w z => hts w (List.mem_cons_of_mem _ z)
  have hnb : ¬ mo_bad (nI x) (nI y) (nI 1) (nI 1) := mo_ok1 hx9 hy9 (by omega) (by omega) (by omega) (by omega)
  refine tg_aload_n hx hb dM_told_0 rfl rfl ?_
  refine tg_iconst (v := nI 0) hx hb dM_told_1 (by decide +kernel) ?_
  refine tg_put (T := TM) (N := 13) (ty := .int) hx hb hts inM tyM tyM_ok nmM hown hK (hO.1 11 (by decide) (by decide) (by decide) (by decide)) rfl rfl 0 (by decide) (hts _ wf_M_51) (fun _ z => z) rfl (by decide +kernel) rfl rfl (Nat.le_of_ble_eq_true rfl) dM_told_2 ?_
  refine tg_wp (mo_w_11 hO 0) ?_
  refine tg_aload_n hx hb dM_told_5 rfl rfl ?_
  refine tg_iload_n hx hb dM_told_6 rfl rfl ?_
  refine tg_iload_n hx hb dM_told_7 rfl rfl ?_
  refine tg_iconst (v := nI 1) hx hb dM_told_8 (by decide +kernel) ?_
  refine tg_iconst (v := nI 1) hx hb dM_told_9 (by decide +kernel) ?_
  refine tg_callV (C := "HangGraphModel") (As := [.int (nI (x)), .int (nI (y)), .int (nI (1)), .int (nI (1))]) (rest := []) ⟨hx, hb, hml, hown, hts⟩ hK hN hMv (hO.1 11 (by decide) (by decide) (by decide) (by decide)) rfl rfl rfl (c_mOut4 hO (nI x) (nI y) (nI 1) (nI 1)) (cwV 4 hts (lg_V wm_M_55 wi_M_out4 we_M_out4 wn_M wc_M_out4) rfl rfl rfl ⟨rfl, by decide, by decide, rfl⟩ ⟨by rw [hR]; exact Nat.le_of_ble_eq_true rfl, by rw [hR]; exact Nat.le_of_ble_eq_true rfl⟩) rfl (Nat.le_of_ble_eq_true rfl) ⟨by rw [hR]; exact Nat.le_of_ble_eq_true rfl, by rw [hR]; exact Nat.le_of_ble_eq_true rfl⟩ rfl dM_told_10 (tg_kv rfl rfl ?_)
  have hb_1 := hg_b_le (mo_bad (nI x) (nI y) (nI 1) (nI 1))
  refine tg_if_ne (tgt := 25) hx hb dM_told_13 (by decide) (fun q_2 => ?_) (fun q_2 => ?_)
  · have q_2' := q_2
    rw [← nI_0] at q_2
    have h_3 : hg_b (mo_bad (nI x) (nI y) (nI 1) (nI 1)) ≠ 0 := fun z => q_2 ((nI_eq (by omega) (by omega)).mpr z)
    exact absurd (hg_b1 h_3) hnb
  · have q_2' := q_2
    rw [← nI_0] at q_2
    have h_4 : hg_b (mo_bad (nI x) (nI y) (nI 1) (nI 1)) = 0 := (nI_eq (by omega) (by omega)).mp q_2
    refine tg_iload_n hx hb dM_told_16 rfl rfl ?_
    refine tg_if_lt (tgt := 25) hx hb dM_told_17 (by decide) (fun q_5 => ?_) (fun q_5 => ?_)
    · have q_5' := q_5
      rw [← nI_0] at q_5
      have h_6 : q < 0 := (nI_ltI (by omega) (by omega)).mp q_5
      omega
    · have q_5' := q_5
      rw [← nI_0] at q_5
      have h_7 : 0 ≤ q := Nat.le_of_not_lt fun z => q_5 ((nI_ltI (by omega) (by omega)).mpr z)
      refine tg_iload_n hx hb dM_told_20 rfl rfl ?_
      refine tg_iconst (v := nI 2) hx hb dM_told_21 (by decide +kernel) ?_
      refine tg_icmp_le (tgt := 31) hx hb dM_told_22 (by decide) (fun q_8 => ?_) (fun q_8 => ?_)
      · have q_8' := q_8
        have h_9 : q ≤ 2 := (nI_leI (by omega) (by omega)).mp q_8
        refine tg_bipush (v := nI 20) hx hb dM_told_31 (by decide +kernel) ?_
        refine tg_iload_n hx hb dM_told_33 rfl rfl ?_
        refine tg_imul hx hb dM_told_34 ?_
        refine tg_top (y := nI ((20) * (x))) (pk_mul _ _) ?_
        refine tg_iload_n hx hb dM_told_35 rfl rfl ?_
        refine tg_iadd hx hb dM_told_36 ?_
        refine tg_top (y := nI (((20) * (x)) + (y))) (nI_add _ _) ?_
        refine tg_istore (L' := [(0, .ref (ad 11 0)), (1, .int (nI (x))), (2, .int (nI (y))), (3, .int (nI (q))), (4, .int (nI (((20) * (x)) + (y))))]) hx hb dM_told_37 (by decide) rfl rfl ?_
        refine tg_aload_n hx hb dM_told_39 rfl rfl ?_
        refine tg_get (T := TM) (N := 13) hx hb hts inM hown hK (hO.1 11 (by decide) (by decide) (by decide) (by decide)) rfl rfl 1 (by decide) (hts _ wf_M_7) (fun _ z => z) rfl dM_told_40 ?_
        refine tg_iload hx hb dM_told_43 rfl ?_
        refine tg_zald (t0 := 2) hx hb hK (hO.1 12 (by decide) (by decide) (by decide) (by decide)) rfl rfl (x := ((20) * (x)) + (y)) (by decide) (by omega) dM_told_45 ?_
        refine tg_top (y := nI (M 12 (((20) * (x)) + (y)))) (by simp [tg_up]) ?_
        have hb_10 := hB 12 (((20) * (x)) + (y))
        refine tg_if_ne (tgt := 55) hx hb dM_told_46 (by decide) (fun q_11 => ?_) (fun q_11 => ?_)
        · have q_11' := q_11
          rw [← nI_0] at q_11
          have h_12 : M 12 (((20) * (x)) + (y)) ≠ 0 := fun z => q_11 ((nI_eq (by omega) (by omega)).mpr z)
          refine tg_iload_n hx hb dM_told_55 rfl rfl ?_
          refine tg_if_ne (tgt := 77) hx hb dM_told_56 (by decide) (fun q_13 => ?_) (fun q_13 => ?_)
          · have q_13' := q_13
            rw [← nI_0] at q_13
            have h_14 : q ≠ 0 := fun z => q_13 ((nI_eq (by omega) (by omega)).mpr z)
            refine tg_iload_n hx hb dM_told_77 rfl rfl ?_
            refine tg_iconst (v := nI 1) hx hb dM_told_78 (by decide +kernel) ?_
            refine tg_icmp_ne (tgt := 100) hx hb dM_told_79 (by decide) (fun q_15 => ?_) (fun q_15 => ?_)
            · have q_15' := q_15
              have h_16 : q ≠ 1 := fun z => q_15 ((nI_eq (by omega) (by omega)).mpr z)
              refine tg_aload_n hx hb dM_told_100 rfl rfl ?_
              refine tg_get (T := TM) (N := 13) hx hb hts inM hown hK (hO.1 11 (by decide) (by decide) (by decide) (by decide)) rfl rfl 9 (by decide) (hts _ wf_M_37) (fun _ z => z) rfl dM_told_101 ?_
              refine tg_iload hx hb dM_told_104 rfl ?_
              refine tg_iald (t0 := 0) hx hb hK (hO.1 21 (by decide) (by decide) (by decide) (by decide)) rfl rfl (x := ((20) * (x)) + (y)) (by decide) (by omega) dM_told_106 ?_
              refine tg_top (y := nI (M 21 (((20) * (x)) + (y)))) (by simp [tg_up]) ?_
              have hb_17 := hB 21 (((20) * (x)) + (y))
              have e9 : mo_tv M (20 * x + y) q = M 21 (((20) * (x)) + (y)) := by
                have z : q = 2 := by omega
                subst z
                rfl
              exact tg_iret hx hb hlocks hr hQ ⟨rfl, rfl, by rw [e9], rfl⟩ dM_told_107
            · have q_15' := q_15
              have h_18 : q = 1 := (nI_eq (by omega) (by omega)).mp q_15
              refine tg_aload_n hx hb dM_told_82 rfl rfl ?_
              refine tg_get (T := TM) (N := 13) hx hb hts inM hown hK (hO.1 11 (by decide) (by decide) (by decide) (by decide)) rfl rfl 8 (by decide) (hts _ wf_M_34) (fun _ z => z) rfl dM_told_83 ?_
              refine tg_iload hx hb dM_told_86 rfl ?_
              refine tg_zald (t0 := 2) hx hb hK (hO.1 20 (by decide) (by decide) (by decide) (by decide)) rfl rfl (x := ((20) * (x)) + (y)) (by decide) (by omega) dM_told_88 ?_
              refine tg_top (y := nI (M 20 (((20) * (x)) + (y)))) (by simp [tg_up]) ?_
              have hb_19 := hB 20 (((20) * (x)) + (y))
              refine tg_if_eq (tgt := 96) hx hb dM_told_89 (by decide) (fun q_20 => ?_) (fun q_20 => ?_)
              · have q_20' := q_20
                rw [← nI_0] at q_20
                have h_21 : M 20 (((20) * (x)) + (y)) = 0 := (nI_eq (by omega) (by omega)).mp q_20
                refine tg_iconst (v := nI 0) hx hb dM_told_96 (by decide +kernel) ?_
                refine tg_goto (tgt := 107) hx hb dM_told_97 (by decide) ?_
                have e9 : mo_tv M (20 * x + y) q = 0 := by
                  have z : q = 1 := by omega
                  subst z
                  show (if M 20 (20 * x + y) = 0 then 0 else 1) = 0
                  first | exact if_pos (by omega) | exact if_neg (by omega)
                exact tg_iret hx hb hlocks hr hQ ⟨rfl, rfl, by rw [e9], rfl⟩ dM_told_107
              · have q_20' := q_20
                rw [← nI_0] at q_20
                have h_22 : M 20 (((20) * (x)) + (y)) ≠ 0 := fun z => q_20 ((nI_eq (by omega) (by omega)).mpr z)
                refine tg_iconst (v := nI 1) hx hb dM_told_92 (by decide +kernel) ?_
                refine tg_goto (tgt := 107) hx hb dM_told_93 (by decide) ?_
                have e9 : mo_tv M (20 * x + y) q = 1 := by
                  have z : q = 1 := by omega
                  subst z
                  show (if M 20 (20 * x + y) = 0 then 0 else 1) = 1
                  first | exact if_pos (by omega) | exact if_neg (by omega)
                exact tg_iret hx hb hlocks hr hQ ⟨rfl, rfl, by rw [e9], rfl⟩ dM_told_107
          · have q_13' := q_13
            rw [← nI_0] at q_13
            have h_23 : q = 0 := (nI_eq (by omega) (by omega)).mp q_13
            refine tg_aload_n hx hb dM_told_59 rfl rfl ?_
            refine tg_get (T := TM) (N := 13) hx hb hts inM hown hK (hO.1 11 (by decide) (by decide) (by decide) (by decide)) rfl rfl 7 (by decide) (hts _ wf_M_31) (fun _ z => z) rfl dM_told_60 ?_
            refine tg_iload hx hb dM_told_63 rfl ?_
            refine tg_zald (t0 := 2) hx hb hK (hO.1 19 (by decide) (by decide) (by decide) (by decide)) rfl rfl (x := ((20) * (x)) + (y)) (by decide) (by omega) dM_told_65 ?_
            refine tg_top (y := nI (M 19 (((20) * (x)) + (y)))) (by simp [tg_up]) ?_
            have hb_24 := hB 19 (((20) * (x)) + (y))
            refine tg_if_eq (tgt := 73) hx hb dM_told_66 (by decide) (fun q_25 => ?_) (fun q_25 => ?_)
            · have q_25' := q_25
              rw [← nI_0] at q_25
              have h_26 : M 19 (((20) * (x)) + (y)) = 0 := (nI_eq (by omega) (by omega)).mp q_25
              refine tg_iconst (v := nI 0) hx hb dM_told_73 (by decide +kernel) ?_
              refine tg_goto (tgt := 107) hx hb dM_told_74 (by decide) ?_
              have e9 : mo_tv M (20 * x + y) q = 0 := by
                have z : q = 0 := by omega
                subst z
                show (if M 19 (20 * x + y) = 0 then 0 else 1) = 0
                first | exact if_pos (by omega) | exact if_neg (by omega)
              exact tg_iret hx hb hlocks hr hQ ⟨rfl, rfl, by rw [e9], rfl⟩ dM_told_107
            · have q_25' := q_25
              rw [← nI_0] at q_25
              have h_27 : M 19 (((20) * (x)) + (y)) ≠ 0 := fun z => q_25 ((nI_eq (by omega) (by omega)).mpr z)
              refine tg_iconst (v := nI 1) hx hb dM_told_69 (by decide +kernel) ?_
              refine tg_goto (tgt := 107) hx hb dM_told_70 (by decide) ?_
              have e9 : mo_tv M (20 * x + y) q = 1 := by
                have z : q = 0 := by omega
                subst z
                show (if M 19 (20 * x + y) = 0 then 0 else 1) = 1
                first | exact if_pos (by omega) | exact if_neg (by omega)
              exact tg_iret hx hb hlocks hr hQ ⟨rfl, rfl, by rw [e9], rfl⟩ dM_told_107
        · have q_11' := q_11
          rw [← nI_0] at q_11
          have h_28 : M 12 (((20) * (x)) + (y)) = 0 := (nI_eq (by omega) (by omega)).mp q_11
          omega
      · have q_8' := q_8
        have h_29 : 2 < q := Nat.lt_of_not_le fun z => q_8 ((nI_leI (by omega) (by omega)).mpr z)
        omega
end MOB
