/-! does f hang on itself? -/
/-- u hangs on v, both hit, as the reference holds it -/
def mo_e (M : Nat → Nat → Nat) (B : Nat → Nat → Nat → Nat) (u v : Nat) : Prop := (u < 400 ∧ v < 400) ∧ (M 19 u ≠ 0 ∧ M 19 v ≠ 0) ∧ B 23 u v ≠ 0
/-- what holds while the queue is worked off -/
def mo_Q (M : Nat → Nat → Nat) (B : Nat → Nat → Nat → Nat) (f i sz : Nat) (M2 : Nat → Nat → Nat) : Prop := i ≤ sz ∧ (∀ j, j ≠ 24 → j ≠ 25 → M2 j = M j) ∧ (∀ j u, M2 j u < 1000000) ∧ hg_C (mo_e M B) 400 f (fun g => g < 400 ∧ M2 24 g ≠ 0) (M2 25) sz i
theorem mo_Q.sz {M : Nat → Nat → Nat} {B : Nat → Nat → Nat → Nat} {f i sz : Nat} {M2 : Nat → Nat → Nat} (h : mo_Q M B f i sz M2) : sz ≤ 400 := by
  rw [← h.2.2.2.2.2.2.2.1]
  exact hg_cn_bd _ 400
theorem mo_Q.hit {M : Nat → Nat → Nat} {B : Nat → Nat → Nat → Nat} {f i sz : Nat} {M2 : Nat → Nat → Nat} (h : mo_Q M B f i sz M2) (hf : f < 400) (hh : M 19 f ≠ 0) {k : Nat} (hk : k < sz) : M 19 (M2 25 k) ≠ 0 := by
  rcases hg_C_at h.2.2.2 hk with z | ⟨w, h1, h2⟩
  · rw [z]
    exact hh
  · exact hg_R_closed (P := fun x => M 19 x ≠ 0) (fun a b _ q => q.2.1.2) h1.2.1.2 h2
theorem mo_Q.add {M : Nat → Nat → Nat} {B : Nat → Nat → Nat → Nat} {f i sz g : Nat} {M2 : Nat → Nat → Nat} (h : mo_Q M B f i sz M2) (hi : i < sz) (he : mo_e M B (M2 25 i) g) (hg : g < 400) (hm : M2 24 g = 0) (hgf : g ≠ f) : sz < 400 ∧ mo_Q M B f i (sz + 1) (tg_up (tg_up M2 24 g 1) 25 sz g) := by
  obtain ⟨h1, h2, h3, h4⟩ := h
  obtain ⟨c1, c2⟩ := hg_C_add h4 hi he hg (fun z => z.2 hm) hgf
  refine ⟨c1, by omega, fun j q1 q2 => by rw [mo_col _ _ _ q2, mo_col _ _ _ q1]; exact h2 j q1 q2, mo_b0 (mo_b0 h3 (by decide)) (by omega), ?_⟩
  have e1 : (tg_up (tg_up M2 24 g 1) 25 sz g) 25 = va_up (M2 25) sz g := by rw [hg_colA, mo_col _ _ _ (by decide)]
  have e2 : (fun x => x < 400 ∧ (tg_up (tg_up M2 24 g 1) 25 sz g) 24 x ≠ 0) = fun k => (k < 400 ∧ M2 24 k ≠ 0) ∨ k = g := by
    funext x
    rw [mo_col _ _ _ (by decide), hg_colA]
    by_cases q : x = g
    · subst q
      rw [va_up_self]
      exact propext ⟨fun _ => Or.inr rfl, fun _ => ⟨hg, by decide⟩⟩
    · rw [va_up_ne _ _ q]
      exact propext ⟨Or.inl, fun z => z.elim id (fun z => absurd z q)⟩
  rw [e1, e2]
  exact c2
section MOE
variable {l : Launch} {D : va_G} {F : Nat → Prop} {Nn : State → Heap → Prop} {ad : Nat → Nat → Nat} {ok : Nat → Nat → Prop} {cF cI cZ cJ cA cB : ClassId} {M : Nat → Nat → Nat} {B : Nat → Nat → Nat → Nat} {μ : Nat → Nat → va_E}
set_option maxRecDepth 100000 in
set_option maxHeartbeats 4000000 in
/-- does f hang on itself? -/
theorem c_mComesBack (hO : mo_ok ok) (hB : ∀ j u, M j u < 1000000) (hBB : ∀ j u z, B j u z < 1000000) (f : Nat) (hf : f < 400) (hfh : M 19 f ≠ 0) : tg_Met l yM_comesBack wsM_comesBack ({ frames := 0, cells := 0, slots := 0, locals := 0 }) D vwCl (hg_tys cI cF cZ cJ cA cB) F Nn ad ok (mo_w ad cI cZ cA cB M B μ) [.ref (ad 11 0), .int (nI (f))] (tg_po ad ok fun r w1 => r = some (.int (nI (hg_b (hg_O (mo_e M B) f)))) ∧ ∃ M', w1 = (mo_w ad cI cZ cA cB M' B μ) ∧ (∀ j, j ≠ 24 → j ≠ 25 → M' j = M j) ∧ ∀ j u, M' j u < 1000000) := by
  refine tg_start (cc := cM_comesBack) (maxL := 5) (ret := some .boolean) (by decide) rfl (Nat.le_of_ble_eq_true rfl) ?_
  intro p e R s m args below meth c Q hx hb hml hr hlocks hown hname hts hK hN hR hQ
  have hown : s.vm.findClass "HangGraphModel" = some m.cls := hown
  have hts : ∀ w ∈ lw_g, w.before args s = true := fun w z => hts w (List.mem_cons_of_mem _ z)
  refine tg_iconst (v := nI 0) hx hb dM_comesBack_0 (by decide +kernel) ?_
  refine tg_istore_n (L' := [(0, .ref (ad 11 0)), (1, .int (nI (f))), (2, .int (nI (0)))]) hx hb dM_comesBack_1 rfl (by decide) rfl rfl ?_
  refine tg_loop (fun x : Nat × (Nat → Nat → Nat) => x.1 ≤ 400 ∧ (∀ j, j ≠ 24 → x.2 j = M j) ∧ (∀ g, g < x.1 → x.2 24 g = 0) ∧ ∀ j u, x.2 j u < 1000000) (fun x => 400 - x.1) (fun x => tg_W p l e R s m args below meth c Q 5 D vwCl F ad ok (mo_w ad cI cZ cA cB x.2 B μ) [(0, .ref (ad 11 0)), (1, .int (nI (f))), (2, .int (nI (x.1)))] 0 0 2 []) ?_ (0, M) ⟨Nat.zero_le _, fun _ _ => rfl, fun g z => absurd z (Nat.not_lt_zero _), hB⟩
  intro ⟨i, M1⟩ ⟨hi1, hi2, hi3, hi4⟩ ih
  dsimp only at hi1 hi2 hi3 hi4 ih ⊢
  refine tg_iload_n hx hb dM_comesBack_2 rfl rfl ?_
  refine tg_sipush (v := nI 400) hx hb dM_comesBack_3 (by decide +kernel) ?_
  refine tg_icmp_ge (tgt := 22) hx hb dM_comesBack_6 (by decide) (fun q_1 => ?_) (fun q_1 => ?_)
  · have q_1' := q_1
    have h_2 : 400 ≤ i := (nI_leI (by omega) (by omega)).mp q_1
    refine tg_iconst (v := nI 1) hx hb dM_comesBack_22 (by decide +kernel) ?_
    refine tg_istore_n (L' := [(0, .ref (ad 11 0)), (1, .int (nI (f))), (2, .int (nI (1)))]) hx hb dM_comesBack_23 rfl (by decide) rfl rfl ?_
    refine tg_aload_n hx hb dM_comesBack_24 rfl rfl ?_
    refine tg_get (T := TM) (N := 13) hx hb hts inM hown hK (hO.1 11 (by decide) (by decide) (by decide) (by decide)) rfl rfl 12 (by decide) (hts _ wf_M_48) (fun _ z => z) rfl dM_comesBack_25 ?_
    refine tg_iconst (v := nI 0) hx hb dM_comesBack_28 (by decide +kernel) ?_
    refine tg_iload_n hx hb dM_comesBack_29 rfl rfl ?_
    refine tg_iast (t0 := 0) hx hb hK (hO.1 25 (by decide) (by decide) (by decide) (by decide)) rfl rfl (x := 0) (v := nI (f)) (by decide) (by omega) dM_comesBack_30 ?_
    refine tg_wp (mo_w_25 hO 0 f) ?_
    refine tg_iconst (v := nI 0) hx hb dM_comesBack_31 (by decide +kernel) ?_
    refine tg_istore_n (L' := [(0, .ref (ad 11 0)), (1, .int (nI (f))), (2, .int (nI (1))), (3, .int (nI (0)))]) hx hb dM_comesBack_32 rfl (by decide) rfl rfl ?_
    have hQ0 : mo_Q M B f 0 1 (tg_up M1 25 0 f) := ⟨by decide, fun j q1 q2 => by rw [mo_col _ _ _ q2]; exact hi2 j q1, mo_b0 hi4 (by omega), hg_C_0 hf (fun g z => z.2 (by rw [mo_col _ _ _ (by decide)]; exact hi3 g (by omega))) (by rw [hg_colA, va_up_self])⟩
    clear ih
    refine tg_loop (fun x : Nat × Nat × (Nat → Nat → Nat) => mo_Q M B f x.1 x.2.1 x.2.2) (fun x => 400 - x.1) (fun x => tg_W p l e R s m args below meth c Q 5 D vwCl F ad ok (mo_w ad cI cZ cA cB x.2.2 B μ) [(0, .ref (ad 11 0)), (1, .int (nI (f))), (2, .int (nI (x.2.1))), (3, .int (nI (x.1)))] 0 0 33 []) ?_ (0, 1, (tg_up M1 25 0 f)) hQ0
    clear hQ0 hi1 hi2 hi3 hi4
    intro ⟨i, sz, M2⟩ hq ih
    dsimp only at hq ih ⊢
    have hsz := hq.sz
    have hq1 := hq.1
    refine tg_iload_n hx hb dM_comesBack_33 rfl rfl ?_
    refine tg_iload_n hx hb dM_comesBack_34 rfl rfl ?_
    refine tg_icmp_ge (tgt := 128) hx hb dM_comesBack_35 (by decide) (fun q_3 => ?_) (fun q_3 => ?_)
    · have q_3' := q_3
      have h_4 : sz ≤ i := (nI_leI (by omega) (by omega)).mp q_3
      refine tg_iconst (v := nI 0) hx hb dM_comesBack_128 (by decide +kernel) ?_
      have ei : i = sz := by omega
      subst ei
      have hp : ¬ hg_O (mo_e M B) f := hg_C_end hq.2.2.2
      exact tg_zret hx hb hlocks hr hQ (by decide +kernel) ⟨rfl, rfl, by rw [hg_b_f hp], M2, rfl, hq.2.1, hq.2.2.1⟩ dM_comesBack_129
    · have q_3' := q_3
      have h_5 : i < sz := Nat.lt_of_not_le fun z => q_3 ((nI_leI (by omega) (by omega)).mpr z)
      refine tg_iconst (v := nI 0) hx hb dM_comesBack_38 (by decide +kernel) ?_
      refine tg_istore (L' := [(0, .ref (ad 11 0)), (1, .int (nI (f))), (2, .int (nI (sz))), (3, .int (nI (i))), (4, .int (nI (0)))]) hx hb dM_comesBack_39 (by decide) rfl rfl ?_
      refine tg_loop (fun x : Nat × Nat × (Nat → Nat → Nat) => x.1 ≤ 400 ∧ i < x.2.1 ∧ mo_Q M B f i x.2.1 x.2.2 ∧ ∀ g, g < x.1 → mo_e M B (x.2.2 25 i) g → x.2.2 24 g ≠ 0) (fun x => 400 - x.1) (fun x => tg_W p l e R s m args below meth c Q 5 D vwCl F ad ok (mo_w ad cI cZ cA cB x.2.2 B μ) [(0, .ref (ad 11 0)), (1, .int (nI (f))), (2, .int (nI (x.2.1))), (3, .int (nI (i))), (4, .int (nI (x.1)))] 0 0 41 []) ?_ (0, sz, M2) ⟨Nat.zero_le _, by dsimp only; omega, hq, fun g z => absurd z (Nat.not_lt_zero _)⟩
      intro ⟨j, sz3, M3⟩ ⟨hj1, hj2, hq3, hj3⟩ ih2
      dsimp only at hj1 hj2 hq3 hj3 ih2 ⊢
      have hsz3 := hq3.sz
      have hql : M3 25 i < 400 := hg_C_lt hq3.2.2.2 hf hj2
      have hqh := hq3.hit hf hfh hj2
      have h19 : M3 19 = M 19 := hq3.2.1 19 (by decide) (by decide)
      refine tg_iload hx hb dM_comesBack_41 rfl ?_
      refine tg_sipush (v := nI 400) hx hb dM_comesBack_43 (by decide +kernel) ?_
      refine tg_icmp_ge (tgt := 122) hx hb dM_comesBack_46 (by decide) (fun q_6 => ?_) (fun q_6 => ?_)
      · have q_6' := q_6
        have h_7 : 400 ≤ j := (nI_leI (by omega) (by omega)).mp q_6
        refine tg_iinc (v := nI (i + 1)) (L' := [(0, .ref (ad 11 0)), (1, .int (nI (f))), (2, .int (nI (sz3))), (3, .int (nI (i + 1))), (4, .int (nI (j)))]) hx hb dM_comesBack_122 rfl (nI_1 _) (by decide) rfl rfl ?_
        refine tg_goto (tgt := 33) hx hb dM_comesBack_125 (by decide) ?_
        refine tg_sub (L' := [(0, .ref (ad 11 0)), (1, .int (nI (f))), (2, .int (nI (sz3))), (3, .int (nI (i + 1)))]) (fun q hq => (List.mem_append_left [(4, .int (nI (j)))] hq : q ∈ [(0, .ref (ad 11 0)), (1, .int (nI (f))), (2, .int (nI (sz3))), (3, .int (nI (i + 1)))] ++ [(4, .int (nI (j)))])) ?_
        refine ih (i + 1, sz3, M3) ⟨?_, hq3.2.1, hq3.2.2.1, ?_⟩ (by dsimp only; omega)
        · dsimp only; omega
        · dsimp only; exact hg_C_done hq3.2.2.2 (fun g z => ⟨z.1.2, hj3 g (by have := z.1.2; omega) z⟩)
      · have q_6' := q_6
        have h_8 : j < 400 := Nat.lt_of_not_le fun z => q_6 ((nI_leI (by omega) (by omega)).mpr z)
        refine tg_aload_n hx hb dM_comesBack_49 rfl rfl ?_
        refine tg_get (T := TM) (N := 13) hx hb hts inM hown hK (hO.1 11 (by decide) (by decide) (by decide) (by decide)) rfl rfl 10 (by decide) (hts _ wf_M_42) (fun _ z => z) rfl dM_comesBack_50 ?_
        refine tg_aload_n hx hb dM_comesBack_53 rfl rfl ?_
        refine tg_get (T := TM) (N := 13) hx hb hts inM hown hK (hO.1 11 (by decide) (by decide) (by decide) (by decide)) rfl rfl 12 (by decide) (hts _ wf_M_48) (fun _ z => z) rfl dM_comesBack_54 ?_
        refine tg_iload_n hx hb dM_comesBack_57 rfl rfl ?_
        refine tg_iald (t0 := 0) hx hb hK (hO.1 25 (by decide) (by decide) (by decide) (by decide)) rfl rfl (x := i) (by decide) (by omega) dM_comesBack_58 ?_
        have hb_9 := hq3.2.2.1 25 i
        refine tg_aaldA (t0 := 5) hx hb hK (hO.1 22 (by decide) (by decide) (by decide) (by decide)) rfl rfl rfl (x := M3 25 i) (by decide) hql dM_comesBack_59 ?_
        refine tg_st (st' := .ref (ad 23 (M3 25 i)) :: []) rfl ?_
        refine tg_iload hx hb dM_comesBack_60 rfl ?_
        refine tg_zald (t0 := 2) hx hb hK (hO.2.1 (M3 25 i) hql).2 rfl rfl (x := j) (by decide) (by omega) dM_comesBack_62 ?_
        have hb_10 := hBB 23 (M3 25 i) j
        refine tg_if_eq (tgt := 116) hx hb dM_comesBack_63 (by decide) (fun q_11 => ?_) (fun q_11 => ?_)
        · have q_11' := q_11
          rw [← nI_0] at q_11
          have h_12 : B 23 (M3 25 i) j = 0 := (nI_eq (by omega) (by omega)).mp q_11
          refine tg_iinc (v := nI (j + 1)) (L' := [(0, .ref (ad 11 0)), (1, .int (nI (f))), (2, .int (nI (sz3))), (3, .int (nI (i))), (4, .int (nI (j + 1)))]) hx hb dM_comesBack_116 rfl (nI_1 _) (by decide) rfl rfl ?_
          refine tg_goto (tgt := 41) hx hb dM_comesBack_119 (by decide) ?_
          refine ih2 (j + 1, sz3, M3) ⟨?_, hj2, hq3, ?_⟩ (by dsimp only; omega)
          · dsimp only; omega
          · intro g z he
            dsimp only at z he ⊢
            by_cases q : g = j
            · subst q; exact absurd h_12 he.2.2
            · exact hj3 g (by omega) he
        · have q_11' := q_11
          rw [← nI_0] at q_11
          have h_13 : B 23 (M3 25 i) j ≠ 0 := fun z => q_11 ((nI_eq (by omega) (by omega)).mpr z)
          refine tg_aload_n hx hb dM_comesBack_66 rfl rfl ?_
          refine tg_get (T := TM) (N := 13) hx hb hts inM hown hK (hO.1 11 (by decide) (by decide) (by decide) (by decide)) rfl rfl 7 (by decide) (hts _ wf_M_31) (fun _ z => z) rfl dM_comesBack_67 ?_
          refine tg_iload hx hb dM_comesBack_70 rfl ?_
          refine tg_zald (t0 := 2) hx hb hK (hO.1 19 (by decide) (by decide) (by decide) (by decide)) rfl rfl (x := j) (by decide) (by omega) dM_comesBack_72 ?_
          have hb_14 := hq3.2.2.1 19 j
          refine tg_if_eq (tgt := 116) hx hb dM_comesBack_73 (by decide) (fun q_15 => ?_) (fun q_15 => ?_)
          · have q_15' := q_15
            rw [← nI_0] at q_15
            have h_16 : M3 19 j = 0 := (nI_eq (by omega) (by omega)).mp q_15
            refine tg_iinc (v := nI (j + 1)) (L' := [(0, .ref (ad 11 0)), (1, .int (nI (f))), (2, .int (nI (sz3))), (3, .int (nI (i))), (4, .int (nI (j + 1)))]) hx hb dM_comesBack_116 rfl (nI_1 _) (by decide) rfl rfl ?_
            refine tg_goto (tgt := 41) hx hb dM_comesBack_119 (by decide) ?_
            refine ih2 (j + 1, sz3, M3) ⟨?_, hj2, hq3, ?_⟩ (by dsimp only; omega)
            · dsimp only; omega
            · intro g z he
              dsimp only at z he ⊢
              by_cases q : g = j
              · subst q; exact absurd (by rw [← h19]; exact h_16) he.2.1.2
              · exact hj3 g (by omega) he
          · have q_15' := q_15
            rw [← nI_0] at q_15
            have h_17 : M3 19 j ≠ 0 := fun z => q_15 ((nI_eq (by omega) (by omega)).mpr z)
            refine tg_aload_n hx hb dM_comesBack_76 rfl rfl ?_
            refine tg_get (T := TM) (N := 13) hx hb hts inM hown hK (hO.1 11 (by decide) (by decide) (by decide) (by decide)) rfl rfl 11 (by decide) (hts _ wf_M_45) (fun _ z => z) rfl dM_comesBack_77 ?_
            refine tg_iload hx hb dM_comesBack_80 rfl ?_
            refine tg_zald (t0 := 2) hx hb hK (hO.1 24 (by decide) (by decide) (by decide) (by decide)) rfl rfl (x := j) (by decide) (by omega) dM_comesBack_82 ?_
            have hb_18 := hq3.2.2.1 24 j
            refine tg_if_eq (tgt := 89) hx hb dM_comesBack_83 (by decide) (fun q_19 => ?_) (fun q_19 => ?_)
            · have q_19' := q_19
              rw [← nI_0] at q_19
              have h_20 : M3 24 j = 0 := (nI_eq (by omega) (by omega)).mp q_19
              refine tg_iload hx hb dM_comesBack_89 rfl ?_
              refine tg_iload_n hx hb dM_comesBack_91 rfl rfl ?_
              refine tg_icmp_ne (tgt := 97) hx hb dM_comesBack_92 (by decide) (fun q_21 => ?_) (fun q_21 => ?_)
              · have q_21' := q_21
                have h_22 : j ≠ f := fun z => q_21 ((nI_eq (by omega) (by omega)).mpr z)
                have hadd := hq3.add (g := j) hj2 ⟨⟨hql, by omega⟩, ⟨hqh, by rw [← h19]; exact h_17⟩, h_13⟩ (by omega) h_20 h_22
                have hszl := hadd.1
                refine tg_aload_n hx hb dM_comesBack_97 rfl rfl ?_
                refine tg_get (T := TM) (N := 13) hx hb hts inM hown hK (hO.1 11 (by decide) (by decide) (by decide) (by decide)) rfl rfl 11 (by decide) (hts _ wf_M_45) (fun _ z => z) rfl dM_comesBack_98 ?_
                refine tg_iload hx hb dM_comesBack_101 rfl ?_
                refine tg_iconst (v := nI 1) hx hb dM_comesBack_103 (by decide +kernel) ?_
                refine tg_zast (t0 := 2) hx hb hK (hO.1 24 (by decide) (by decide) (by decide) (by decide)) rfl rfl (x := j) (v := nI (1)) (by decide +kernel) (by decide) (by omega) dM_comesBack_104 ?_
                refine tg_wp (mo_w_24 hO j 1) ?_
                refine tg_aload_n hx hb dM_comesBack_105 rfl rfl ?_
                refine tg_get (T := TM) (N := 13) hx hb hts inM hown hK (hO.1 11 (by decide) (by decide) (by decide) (by decide)) rfl rfl 12 (by decide) (hts _ wf_M_48) (fun _ z => z) rfl dM_comesBack_106 ?_
                refine tg_iload_n hx hb dM_comesBack_109 rfl rfl ?_
                refine tg_iload hx hb dM_comesBack_110 rfl ?_
                refine tg_iast (t0 := 0) hx hb hK (hO.1 25 (by decide) (by decide) (by decide) (by decide)) rfl rfl (x := sz3) (v := nI (j)) (by decide) (by omega) dM_comesBack_112 ?_
                refine tg_wp (mo_w_25 hO sz3 j) ?_
                refine tg_iinc (v := nI (sz3 + 1)) (L' := [(0, .ref (ad 11 0)), (1, .int (nI (f))), (2, .int (nI (sz3 + 1))), (3, .int (nI (i))), (4, .int (nI (j)))]) hx hb dM_comesBack_113 rfl (nI_1 _) (by decide) rfl rfl ?_
                refine tg_iinc (v := nI (j + 1)) (L' := [(0, .ref (ad 11 0)), (1, .int (nI (f))), (2, .int (nI (sz3 + 1))), (3, .int (nI (i))), (4, .int (nI (j + 1)))]) hx hb dM_comesBack_116 rfl (nI_1 _) (by decide) rfl rfl ?_
                refine tg_goto (tgt := 41) hx hb dM_comesBack_119 (by decide) ?_
                refine ih2 (j + 1, sz3 + 1, tg_up (tg_up M3 24 j 1) 25 sz3 j) ⟨?_, ?_, hadd.2, ?_⟩ (by dsimp only; omega)
                · dsimp only; omega
                · dsimp only; omega
                · intro g z he
                  dsimp only at z he ⊢
                  have e1 : (tg_up (tg_up M3 24 j 1) 25 sz3 j) 25 i = M3 25 i := by rw [hg_colA, va_up_ne _ _ (by omega), mo_col _ _ _ (by decide)]
                  rw [e1] at he
                  rw [mo_col _ _ _ (by decide), hg_colA]
                  by_cases q : g = j
                  · rw [q, va_up_self]; decide
                  · rw [va_up_ne _ _ q]; exact hj3 g (by omega) he
              · have q_21' := q_21
                have h_23 : j = f := (nI_eq (by omega) (by omega)).mp q_21
                refine tg_iconst (v := nI 1) hx hb dM_comesBack_95 (by decide +kernel) ?_
                have hp : hg_O (mo_e M B) f := hg_C_ret hq3.2.2.2 hj2 ⟨⟨hql, hf⟩, ⟨hqh, hfh⟩, by rw [← h_23]; exact h_13⟩
                exact tg_zret hx hb hlocks hr hQ (by decide +kernel) ⟨rfl, rfl, by rw [hg_b_t hp], M3, rfl, hq3.2.1, hq3.2.2.1⟩ dM_comesBack_96
            · have q_19' := q_19
              rw [← nI_0] at q_19
              have h_24 : M3 24 j ≠ 0 := fun z => q_19 ((nI_eq (by omega) (by omega)).mpr z)
              refine tg_goto (tgt := 116) hx hb dM_comesBack_86 (by decide) ?_
              refine tg_iinc (v := nI (j + 1)) (L' := [(0, .ref (ad 11 0)), (1, .int (nI (f))), (2, .int (nI (sz3))), (3, .int (nI (i))), (4, .int (nI (j + 1)))]) hx hb dM_comesBack_116 rfl (nI_1 _) (by decide) rfl rfl ?_
              refine tg_goto (tgt := 41) hx hb dM_comesBack_119 (by decide) ?_
              refine ih2 (j + 1, sz3, M3) ⟨?_, hj2, hq3, ?_⟩ (by dsimp only; omega)
              · dsimp only; omega
              · intro g z he
                dsimp only at z he ⊢
                by_cases q : g = j
                · subst q; exact h_24
                · exact hj3 g (by omega) he
  · have q_1' := q_1
    have h_25 : i < 400 := Nat.lt_of_not_le fun z => q_1 ((nI_leI (by omega) (by omega)).mpr z)
    refine tg_aload_n hx hb dM_comesBack_9 rfl rfl ?_
    refine tg_get (T := TM) (N := 13) hx hb hts inM hown hK (hO.1 11 (by decide) (by decide) (by decide) (by decide)) rfl rfl 11 (by decide) (hts _ wf_M_45) (fun _ z => z) rfl dM_comesBack_10 ?_
    refine tg_iload_n hx hb dM_comesBack_13 rfl rfl ?_
    refine tg_iconst (v := nI 0) hx hb dM_comesBack_14 (by decide +kernel) ?_
    refine tg_zast (t0 := 2) hx hb hK (hO.1 24 (by decide) (by decide) (by decide) (by decide)) rfl rfl (x := i) (v := nI (0)) (by decide +kernel) (by decide) (by omega) dM_comesBack_15 ?_
    refine tg_wp (mo_w_24 hO i 0) ?_
    refine tg_iinc (v := nI (i + 1)) (L' := [(0, .ref (ad 11 0)), (1, .int (nI (f))), (2, .int (nI (i + 1)))]) hx hb dM_comesBack_16 rfl (nI_1 _) (by decide) rfl rfl ?_
    refine tg_goto (tgt := 2) hx hb dM_comesBack_19 (by decide) ?_
    refine ih (i + 1, tg_up M1 24 i 0) ⟨?_, ?_, ?_, ?_⟩ (by dsimp only; omega)
    · dsimp only; omega
    · intro j q; dsimp only; rw [mo_col _ _ _ q]; exact hi2 j q
    · intro g q; dsimp only at q ⊢; rw [hg_colA]; by_cases z : g = i
      · rw [z, va_up_self]
      · rw [va_up_ne _ _ z]; exact hi3 g (by omega)
    · exact mo_b0 hi4 (by decide)
end MOE
