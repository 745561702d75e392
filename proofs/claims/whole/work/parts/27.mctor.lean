/-! the reference is made -/
section MOI
variable {l : Launch} {D : va_G} {F : Nat → Prop} {Nn : State → Heap → Prop} {ad : Nat → Nat → Nat} {ok : Nat → Nat → Prop} {cF cI cZ cJ cA cB : ClassId} {M : Nat → Nat → Nat} {B : Nat → Nat → Nat → Nat} {w μ : Nat → Nat → va_E}
theorem mo_dfM : ∀ j, j < 13 → defaultValue (tyM j) = vp_V ([.int 0, .null, .null, .null, .null, .null, .null, .null, .null, .null, .null, .null, .null] : List Value) j := by
  intro j hj
  have h : j = 0 ∨ j = 1 ∨ j = 2 ∨ j = 3 ∨ j = 4 ∨ j = 5 ∨ j = 6 ∨ j = 7 ∨ j = 8 ∨ j = 9 ∨ j = 10 ∨ j = 11 ∨ j = 12 := by omega
  rcases h with z | z | z | z | z | z | z | z | z | z | z | z | z <;> subst z <;> rfl
theorem mo_w_mu {k i : Nat} (h : k < 11 ∨ 26 ≤ k) : mo_w ad cI cZ cA cB M B μ k i = μ k i := by
  unfold mo_w
  split <;> first | rfl | (exfalso; omega)
set_option maxRecDepth 100000 in
set_option maxHeartbeats 4000000 in
/-- the reference is made -/
theorem c_Minit (hk : ok 11 0) (hw0 : ∀ k i, k < 11 ∨ 26 ≤ k → w k i = μ k i) : tg_Met l yM_init wsM_init ({ frames := 1, cells := 812, slots := 196800, locals := 40 }) D vwCl (hg_tys cI cF cZ cJ cA cB) F (hg_N F) ad ok (tg_up w 11 0 (.inr (3, [.int 0, .null, .null, .null, .null, .null, .null, .null, .null, .null, .null, .null, .null]))) [.ref (ad 11 0)] (fun r1 ad1 ok1 w1 => r1 = none ∧ (∀ k i, k < 12 ∨ 26 ≤ k → ad1 k i = ad k i) ∧ (∀ k i, ok1 k i ↔ ok k i ∨ (12 ≤ k ∧ k < 26 ∧ k ≠ 17 ∧ k ≠ 23 ∧ i = 0) ∨ ((k = 17 ∨ k = 23) ∧ i < 400)) ∧ ∀ k i, (11 ≤ k ∧ k < 26 ∧ k ≠ 17 ∧ k ≠ 23 ∧ i = 0) ∨ ((k = 17 ∨ k = 23) ∧ i < 400) ∨ (k < 11 ∨ 26 ≤ k) → w1 k i = mo_w ad1 cI cZ cA cB (fun _ _ => 0) (fun _ _ _ => 0) μ k i) := by
  refine tg_start (cc := cM_init) (maxL := 1) (ret := none) (by decide) rfl (Nat.le_of_ble_eq_true rfl) ?_
  intro p e R s m args below meth c Q hx hb hml hr hlocks hown hname hts hK hN hR hQ
  have hown : s.vm.findClass "HangGraphModel" = some m.cls := hown
  have hts : ∀ w ∈ lw_g, w.before args s = true := fun w z => hts w (List.mem_cons_of_mem _ z)
  have hMv := hg_Mv F
  refine tg_aload_n hx hb dM_init_0 rfl rfl ?_
  refine tg_oinit hx hb hml hown (hts _ wm_M_1) (hts _ wi_java_lang_Object_init_0) (hts _ wc_oi) dM_init_1 (by rw [hR]; exact Nat.le_of_ble_eq_true rfl) (by rw [hR]; exact Nat.le_of_ble_eq_true rfl) ?_
  refine tg_aload_n hx hb dM_init_4 rfl rfl ?_
  refine tg_sipush (v := nI 400) hx hb dM_init_5 (by decide +kernel) ?_
  refine tg_newa hx hb 12 0 (atype := .boolean) (hts _ wa_boolean) rfl (cA := cZ) (hK.2 2 _ rfl).2 (n := nI 400) (N' := 400) (a0 := (400, .inl fun _ => nI 0)) (fun cA => by rw [vp_cell_i, nI_0]; rfl) (by decide +kernel) (by decide +kernel) (by decide) (by rw [hR]; exact Nat.le_of_ble_eq_true rfl) (by rw [hR]; exact Nat.le_of_ble_eq_true rfl) dM_init_8 (fun q12 => ?_)
  obtain ⟨ad12, g12⟩ : ∃ z, z = tg_up ad 12 0 q12 := ⟨_, rfl⟩
  rw [← g12]
  have h12 : ∀ a b, a ≠ 12 → ad12 a b = ad a b := fun a b z => by rw [g12, tg_up_ne _ _ (fun y => z y.1)]
  have e12 : q12 = ad12 12 0 := by rw [g12, tg_up_self]
  have r12 : ad12 11 0 = ad 11 0 := by rw [h12 11 0 (by decide)]
  refine tg_st (st' := [.ref q12, .ref (ad12 11 0)]) (by rw [r12]) ?_
  refine tg_w (tg_cm _ _ _ (fun z => absurd z.1 (by decide))) ?_
  refine tg_putF (k := 11) (i := 0) (T := TM) (N := 13) (ty := .array .boolean) hx hb hts inM tyM tyM_ok nmM hown hK (Or.inl hk) (tg_up_self _ _ _ _) rfl 1 (by decide) (hts _ wf_M_7) (fun _ z => z) rfl hname rfl (by decide +kernel) rfl rfl (Nat.le_of_ble_eq_true rfl) dM_init_10 ?_
  refine tg_w (tg_uu _ _ _ _ _) ?_
  refine tg_aload_n hx hb dM_init_13 rfl rfl ?_
  refine tg_sipush (v := nI 400) hx hb dM_init_14 (by decide +kernel) ?_
  refine tg_newa hx hb 13 0 (atype := .int) (hts _ wa_int) rfl (cA := cI) (hK.2 0 _ rfl).2 (n := nI 400) (N' := 400) (a0 := (400, .inl fun _ => nI 0)) (fun cA => by rw [vp_cell_i, nI_0]; rfl) (by decide +kernel) (by decide +kernel) (by decide) (by rw [hR]; exact Nat.le_of_ble_eq_true rfl) (by rw [hR]; exact Nat.le_of_ble_eq_true rfl) dM_init_17 (fun q13 => ?_)
  obtain ⟨ad13, g13⟩ : ∃ z, z = tg_up ad12 13 0 q13 := ⟨_, rfl⟩
  rw [← g13]
  have h13 : ∀ a b, a ≠ 13 → ad13 a b = ad12 a b := fun a b z => by rw [g13, tg_up_ne _ _ (fun y => z y.1)]
  have e13 : q13 = ad13 13 0 := by rw [g13, tg_up_self]
  have r13 : ad13 11 0 = ad 11 0 := by rw [h13 11 0 (by decide), r12]
  refine tg_st (st' := [.ref q13, .ref (ad13 11 0)]) (by rw [r13]) ?_
  refine tg_w (tg_cm _ _ _ (fun z => absurd z.1 (by decide))) ?_
  refine tg_putF (k := 11) (i := 0) (T := TM) (N := 13) (ty := .array .int) hx hb hts inM tyM tyM_ok nmM hown hK (Or.inl (Or.inl hk)) (tg_up_self _ _ _ _) rfl 2 (by decide) (hts _ wf_M_13) (fun _ z => z) rfl hname rfl (by decide +kernel) rfl rfl (Nat.le_of_ble_eq_true rfl) dM_init_19 ?_
  refine tg_w (tg_uu _ _ _ _ _) ?_
  refine tg_aload_n hx hb dM_init_22 rfl rfl ?_
  refine tg_sipush (v := nI 400) hx hb dM_init_23 (by decide +kernel) ?_
  refine tg_newa hx hb 14 0 (atype := .int) (hts _ wa_int) rfl (cA := cI) (hK.2 0 _ rfl).2 (n := nI 400) (N' := 400) (a0 := (400, .inl fun _ => nI 0)) (fun cA => by rw [vp_cell_i, nI_0]; rfl) (by decide +kernel) (by decide +kernel) (by decide) (by rw [hR]; exact Nat.le_of_ble_eq_true rfl) (by rw [hR]; exact Nat.le_of_ble_eq_true rfl) dM_init_26 (fun q14 => ?_)
  obtain ⟨ad14, g14⟩ : ∃ z, z = tg_up ad13 14 0 q14 := ⟨_, rfl⟩
  rw [← g14]
  have h14 : ∀ a b, a ≠ 14 → ad14 a b = ad13 a b := fun a b z => by rw [g14, tg_up_ne _ _ (fun y => z y.1)]
  have e14 : q14 = ad14 14 0 := by rw [g14, tg_up_self]
  have r14 : ad14 11 0 = ad 11 0 := by rw [h14 11 0 (by decide), r13]
  refine tg_st (st' := [.ref q14, .ref (ad14 11 0)]) (by rw [r14]) ?_
  refine tg_w (tg_cm _ _ _ (fun z => absurd z.1 (by decide))) ?_
  refine tg_putF (k := 11) (i := 0) (T := TM) (N := 13) (ty := .array .int) hx hb hts inM tyM tyM_ok nmM hown hK (Or.inl (Or.inl (Or.inl hk))) (tg_up_self _ _ _ _) rfl 3 (by decide) (hts _ wf_M_17) (fun _ z => z) rfl hname rfl (by decide +kernel) rfl rfl (Nat.le_of_ble_eq_true rfl) dM_init_28 ?_
  refine tg_w (tg_uu _ _ _ _ _) ?_
  refine tg_aload_n hx hb dM_init_31 rfl rfl ?_
  refine tg_sipush (v := nI 400) hx hb dM_init_32 (by decide +kernel) ?_
  refine tg_newa hx hb 15 0 (atype := .int) (hts _ wa_int) rfl (cA := cI) (hK.2 0 _ rfl).2 (n := nI 400) (N' := 400) (a0 := (400, .inl fun _ => nI 0)) (fun cA => by rw [vp_cell_i, nI_0]; rfl) (by decide +kernel) (by decide +kernel) (by decide) (by rw [hR]; exact Nat.le_of_ble_eq_true rfl) (by rw [hR]; exact Nat.le_of_ble_eq_true rfl) dM_init_35 (fun q15 => ?_)
  obtain ⟨ad15, g15⟩ : ∃ z, z = tg_up ad14 15 0 q15 := ⟨_, rfl⟩
  rw [← g15]
  have h15 : ∀ a b, a ≠ 15 → ad15 a b = ad14 a b := fun a b z => by rw [g15, tg_up_ne _ _ (fun y => z y.1)]
  have e15 : q15 = ad15 15 0 := by rw [g15, tg_up_self]
  have r15 : ad15 11 0 = ad 11 0 := by rw [h15 11 0 (by decide), r14]
  refine tg_st (st' := [.ref q15, .ref (ad15 11 0)]) (by rw [r15]) ?_
  refine tg_w (tg_cm _ _ _ (fun z => absurd z.1 (by decide))) ?_
  refine tg_putF (k := 11) (i := 0) (T := TM) (N := 13) (ty := .array .int) hx hb hts inM tyM tyM_ok nmM hown hK (Or.inl (Or.inl (Or.inl (Or.inl hk)))) (tg_up_self _ _ _ _) rfl 4 (by decide) (hts _ wf_M_20) (fun _ z => z) rfl hname rfl (by decide +kernel) rfl rfl (Nat.le_of_ble_eq_true rfl) dM_init_37 ?_
  refine tg_w (tg_uu _ _ _ _ _) ?_
  refine tg_aload_n hx hb dM_init_40 rfl rfl ?_
  refine tg_sipush (v := nI 400) hx hb dM_init_41 (by decide +kernel) ?_
  refine tg_bipush (v := nI 80) hx hb dM_init_44 (by decide +kernel) ?_
  refine tg_multi hx hb 16 17 (by decide) (ty := .int) hown (by rw [show ("[" ++ (FieldType.array .int).toString) = "[[I" from by decide +kernel]; exact hts _ wk_M_23) hN.2.1.2.1 (hts _ wa_int) hK (cA := cA) (cR := cI) (hK.2 4 _ rfl).2 (hK.2 0 _ rfl).2 (n := nI 400) (k := nI 80) (N := 400) (M := 80) (a0 := (80, .inl fun _ => nI 0)) (by rw [vp_cell_i, nI_0]; rfl) (by decide +kernel) (by decide +kernel) (by decide +kernel) (by decide +kernel) (by decide) (by decide) (by decide) rfl rfl (by rw [hR]; exact Nat.le_of_ble_eq_true rfl) (by rw [hR]; exact Nat.le_of_ble_eq_true rfl) dM_init_46 (fun ad16 hm16 => ?_)
  have h16 : ∀ a b, a ≠ 16 → a ≠ 17 → ad16 a b = ad15 a b := fun a b z1 z2 => hm16 a b (fun y => z1 y.1) (fun y => z2 y.1)
  have r16 : ad16 11 0 = ad 11 0 := by rw [h16 11 0 (by decide) (by decide), r15]
  refine tg_st (st' := [.ref (ad16 16 0), .ref (ad16 11 0)]) (by rw [r16]) ?_
  refine tg_putF (k := 11) (i := 0) (T := TM) (N := 13) (ty := .array (.array .int)) hx hb hts inM tyM tyM_ok nmM hown hK (Or.inl (Or.inl (Or.inl (Or.inl (Or.inl hk))))) ((mx_W_ne (by decide) (by decide)).trans (tg_up_self _ _ _ _)) rfl 5 (by decide) (hts _ wf_M_25) (fun _ z => z) rfl hname rfl (by decide +kernel) rfl rfl (Nat.le_of_ble_eq_true rfl) dM_init_50 ?_
  refine tg_aload_n hx hb dM_init_53 rfl rfl ?_
  refine tg_sipush (v := nI 400) hx hb dM_init_54 (by decide +kernel) ?_
  refine tg_newa hx hb 18 0 (atype := .boolean) (hts _ wa_boolean) rfl (cA := cZ) (hK.2 2 _ rfl).2 (n := nI 400) (N' := 400) (a0 := (400, .inl fun _ => nI 0)) (fun cA => by rw [vp_cell_i, nI_0]; rfl) (by decide +kernel) (by decide +kernel) (by decide) (by rw [hR]; exact Nat.le_of_ble_eq_true rfl) (by rw [hR]; exact Nat.le_of_ble_eq_true rfl) dM_init_57 (fun q18 => ?_)
  obtain ⟨ad18, g18⟩ : ∃ z, z = tg_up ad16 18 0 q18 := ⟨_, rfl⟩
  rw [← g18]
  have h18 : ∀ a b, a ≠ 18 → ad18 a b = ad16 a b := fun a b z => by rw [g18, tg_up_ne _ _ (fun y => z y.1)]
  have e18 : q18 = ad18 18 0 := by rw [g18, tg_up_self]
  have r18 : ad18 11 0 = ad 11 0 := by rw [h18 11 0 (by decide), r16]
  refine tg_st (st' := [.ref q18, .ref (ad18 11 0)]) (by rw [r18]) ?_
  refine tg_w (tg_cm _ _ _ (fun z => absurd z.1 (by decide))) ?_
  refine tg_putF (k := 11) (i := 0) (T := TM) (N := 13) (ty := .array .boolean) hx hb hts inM tyM tyM_ok nmM hown hK (Or.inl (Or.inl (Or.inl (Or.inl (Or.inl (Or.inl hk)))))) (tg_up_self _ _ _ _) rfl 6 (by decide) (hts _ wf_M_28) (fun _ z => z) rfl hname rfl (by decide +kernel) rfl rfl (Nat.le_of_ble_eq_true rfl) dM_init_59 ?_
  refine tg_w (tg_uu _ _ _ _ _) ?_
  refine tg_aload_n hx hb dM_init_62 rfl rfl ?_
  refine tg_sipush (v := nI 400) hx hb dM_init_63 (by decide +kernel) ?_
  refine tg_newa hx hb 19 0 (atype := .boolean) (hts _ wa_boolean) rfl (cA := cZ) (hK.2 2 _ rfl).2 (n := nI 400) (N' := 400) (a0 := (400, .inl fun _ => nI 0)) (fun cA => by rw [vp_cell_i, nI_0]; rfl) (by decide +kernel) (by decide +kernel) (by decide) (by rw [hR]; exact Nat.le_of_ble_eq_true rfl) (by rw [hR]; exact Nat.le_of_ble_eq_true rfl) dM_init_66 (fun q19 => ?_)
  obtain ⟨ad19, g19⟩ : ∃ z, z = tg_up ad18 19 0 q19 := ⟨_, rfl⟩
  rw [← g19]
  have h19 : ∀ a b, a ≠ 19 → ad19 a b = ad18 a b := fun a b z => by rw [g19, tg_up_ne _ _ (fun y => z y.1)]
  have e19 : q19 = ad19 19 0 := by rw [g19, tg_up_self]
  have r19 : ad19 11 0 = ad 11 0 := by rw [h19 11 0 (by decide), r18]
  refine tg_st (st' := [.ref q19, .ref (ad19 11 0)]) (by rw [r19]) ?_
  refine tg_w (tg_cm _ _ _ (fun z => absurd z.1 (by decide))) ?_
  refine tg_putF (k := 11) (i := 0) (T := TM) (N := 13) (ty := .array .boolean) hx hb hts inM tyM tyM_ok nmM hown hK (Or.inl (Or.inl (Or.inl (Or.inl (Or.inl (Or.inl (Or.inl hk))))))) (tg_up_self _ _ _ _) rfl 7 (by decide) (hts _ wf_M_31) (fun _ z => z) rfl hname rfl (by decide +kernel) rfl rfl (Nat.le_of_ble_eq_true rfl) dM_init_68 ?_
  refine tg_w (tg_uu _ _ _ _ _) ?_
  refine tg_aload_n hx hb dM_init_71 rfl rfl ?_
  refine tg_sipush (v := nI 400) hx hb dM_init_72 (by decide +kernel) ?_
  refine tg_newa hx hb 20 0 (atype := .boolean) (hts _ wa_boolean) rfl (cA := cZ) (hK.2 2 _ rfl).2 (n := nI 400) (N' := 400) (a0 := (400, .inl fun _ => nI 0)) (fun cA => by rw [vp_cell_i, nI_0]; rfl) (by decide +kernel) (by decide +kernel) (by decide) (by rw [hR]; exact Nat.le_of_ble_eq_true rfl) (by rw [hR]; exact Nat.le_of_ble_eq_true rfl) dM_init_75 (fun q20 => ?_)
  obtain ⟨ad20, g20⟩ : ∃ z, z = tg_up ad19 20 0 q20 := ⟨_, rfl⟩
  rw [← g20]
  have h20 : ∀ a b, a ≠ 20 → ad20 a b = ad19 a b := fun a b z => by rw [g20, tg_up_ne _ _ (fun y => z y.1)]
  have e20 : q20 = ad20 20 0 := by rw [g20, tg_up_self]
  have r20 : ad20 11 0 = ad 11 0 := by rw [h20 11 0 (by decide), r19]
  refine tg_st (st' := [.ref q20, .ref (ad20 11 0)]) (by rw [r20]) ?_
  refine tg_w (tg_cm _ _ _ (fun z => absurd z.1 (by decide))) ?_
  refine tg_putF (k := 11) (i := 0) (T := TM) (N := 13) (ty := .array .boolean) hx hb hts inM tyM tyM_ok nmM hown hK (Or.inl (Or.inl (Or.inl (Or.inl (Or.inl (Or.inl (Or.inl (Or.inl hk)))))))) (tg_up_self _ _ _ _) rfl 8 (by decide) (hts _ wf_M_34) (fun _ z => z) rfl hname rfl (by decide +kernel) rfl rfl (Nat.le_of_ble_eq_true rfl) dM_init_77 ?_
  refine tg_w (tg_uu _ _ _ _ _) ?_
  refine tg_aload_n hx hb dM_init_80 rfl rfl ?_
  refine tg_sipush (v := nI 400) hx hb dM_init_81 (by decide +kernel) ?_
  refine tg_newa hx hb 21 0 (atype := .int) (hts _ wa_int) rfl (cA := cI) (hK.2 0 _ rfl).2 (n := nI 400) (N' := 400) (a0 := (400, .inl fun _ => nI 0)) (fun cA => by rw [vp_cell_i, nI_0]; rfl) (by decide +kernel) (by decide +kernel) (by decide) (by rw [hR]; exact Nat.le_of_ble_eq_true rfl) (by rw [hR]; exact Nat.le_of_ble_eq_true rfl) dM_init_84 (fun q21 => ?_)
  obtain ⟨ad21, g21⟩ : ∃ z, z = tg_up ad20 21 0 q21 := ⟨_, rfl⟩
  rw [← g21]
  have h21 : ∀ a b, a ≠ 21 → ad21 a b = ad20 a b := fun a b z => by rw [g21, tg_up_ne _ _ (fun y => z y.1)]
  have e21 : q21 = ad21 21 0 := by rw [g21, tg_up_self]
  have r21 : ad21 11 0 = ad 11 0 := by rw [h21 11 0 (by decide), r20]
  refine tg_st (st' := [.ref q21, .ref (ad21 11 0)]) (by rw [r21]) ?_
  refine tg_w (tg_cm _ _ _ (fun z => absurd z.1 (by decide))) ?_
  refine tg_putF (k := 11) (i := 0) (T := TM) (N := 13) (ty := .array .int) hx hb hts inM tyM tyM_ok nmM hown hK (Or.inl (Or.inl (Or.inl (Or.inl (Or.inl (Or.inl (Or.inl (Or.inl (Or.inl hk))))))))) (tg_up_self _ _ _ _) rfl 9 (by decide) (hts _ wf_M_37) (fun _ z => z) rfl hname rfl (by decide +kernel) rfl rfl (Nat.le_of_ble_eq_true rfl) dM_init_86 ?_
  refine tg_w (tg_uu _ _ _ _ _) ?_
  refine tg_aload_n hx hb dM_init_89 rfl rfl ?_
  refine tg_sipush (v := nI 400) hx hb dM_init_90 (by decide +kernel) ?_
  refine tg_sipush (v := nI 400) hx hb dM_init_93 (by decide +kernel) ?_
  refine tg_multi hx hb 22 23 (by decide) (ty := .boolean) hown (by rw [show ("[" ++ (FieldType.array .boolean).toString) = "[[Z" from by decide +kernel]; exact hts _ wk_M_40) hN.2.1.2.2 (hts _ wa_boolean) hK (cA := cB) (cR := cZ) (hK.2 5 _ rfl).2 (hK.2 2 _ rfl).2 (n := nI 400) (k := nI 400) (N := 400) (M := 400) (a0 := (400, .inl fun _ => nI 0)) (by rw [vp_cell_i, nI_0]; rfl) (by decide +kernel) (by decide +kernel) (by decide +kernel) (by decide +kernel) (by decide) (by decide) (by decide) rfl rfl (by rw [hR]; exact Nat.le_of_ble_eq_true rfl) (by rw [hR]; exact Nat.le_of_ble_eq_true rfl) dM_init_96 (fun ad22 hm22 => ?_)
  have h22 : ∀ a b, a ≠ 22 → a ≠ 23 → ad22 a b = ad21 a b := fun a b z1 z2 => hm22 a b (fun y => z1 y.1) (fun y => z2 y.1)
  have r22 : ad22 11 0 = ad 11 0 := by rw [h22 11 0 (by decide) (by decide), r21]
  refine tg_st (st' := [.ref (ad22 22 0), .ref (ad22 11 0)]) (by rw [r22]) ?_
  refine tg_putF (k := 11) (i := 0) (T := TM) (N := 13) (ty := .array (.array .boolean)) hx hb hts inM tyM tyM_ok nmM hown hK (Or.inl (Or.inl (Or.inl (Or.inl (Or.inl (Or.inl (Or.inl (Or.inl (Or.inl (Or.inl hk)))))))))) ((mx_W_ne (by decide) (by decide)).trans (tg_up_self _ _ _ _)) rfl 10 (by decide) (hts _ wf_M_42) (fun _ z => z) rfl hname rfl (by decide +kernel) rfl rfl (Nat.le_of_ble_eq_true rfl) dM_init_100 ?_
  refine tg_aload_n hx hb dM_init_103 rfl rfl ?_
  refine tg_sipush (v := nI 400) hx hb dM_init_104 (by decide +kernel) ?_
  refine tg_newa hx hb 24 0 (atype := .boolean) (hts _ wa_boolean) rfl (cA := cZ) (hK.2 2 _ rfl).2 (n := nI 400) (N' := 400) (a0 := (400, .inl fun _ => nI 0)) (fun cA => by rw [vp_cell_i, nI_0]; rfl) (by decide +kernel) (by decide +kernel) (by decide) (by rw [hR]; exact Nat.le_of_ble_eq_true rfl) (by rw [hR]; exact Nat.le_of_ble_eq_true rfl) dM_init_107 (fun q24 => ?_)
  obtain ⟨ad24, g24⟩ : ∃ z, z = tg_up ad22 24 0 q24 := ⟨_, rfl⟩
  rw [← g24]
  have h24 : ∀ a b, a ≠ 24 → ad24 a b = ad22 a b := fun a b z => by rw [g24, tg_up_ne _ _ (fun y => z y.1)]
  have e24 : q24 = ad24 24 0 := by rw [g24, tg_up_self]
  have r24 : ad24 11 0 = ad 11 0 := by rw [h24 11 0 (by decide), r22]
  refine tg_st (st' := [.ref q24, .ref (ad24 11 0)]) (by rw [r24]) ?_
  refine tg_w (tg_cm _ _ _ (fun z => absurd z.1 (by decide))) ?_
  refine tg_putF (k := 11) (i := 0) (T := TM) (N := 13) (ty := .array .boolean) hx hb hts inM tyM tyM_ok nmM hown hK (Or.inl (Or.inl (Or.inl (Or.inl (Or.inl (Or.inl (Or.inl (Or.inl (Or.inl (Or.inl (Or.inl hk))))))))))) (tg_up_self _ _ _ _) rfl 11 (by decide) (hts _ wf_M_45) (fun _ z => z) rfl hname rfl (by decide +kernel) rfl rfl (Nat.le_of_ble_eq_true rfl) dM_init_109 ?_
  refine tg_w (tg_uu _ _ _ _ _) ?_
  refine tg_aload_n hx hb dM_init_112 rfl rfl ?_
  refine tg_sipush (v := nI 400) hx hb dM_init_113 (by decide +kernel) ?_
  refine tg_newa hx hb 25 0 (atype := .int) (hts _ wa_int) rfl (cA := cI) (hK.2 0 _ rfl).2 (n := nI 400) (N' := 400) (a0 := (400, .inl fun _ => nI 0)) (fun cA => by rw [vp_cell_i, nI_0]; rfl) (by decide +kernel) (by decide +kernel) (by decide) (by rw [hR]; exact Nat.le_of_ble_eq_true rfl) (by rw [hR]; exact Nat.le_of_ble_eq_true rfl) dM_init_116 (fun q25 => ?_)
  obtain ⟨ad25, g25⟩ : ∃ z, z = tg_up ad24 25 0 q25 := ⟨_, rfl⟩
  rw [← g25]
  have h25 : ∀ a b, a ≠ 25 → ad25 a b = ad24 a b := fun a b z => by rw [g25, tg_up_ne _ _ (fun y => z y.1)]
  have e25 : q25 = ad25 25 0 := by rw [g25, tg_up_self]
  have r25 : ad25 11 0 = ad 11 0 := by rw [h25 11 0 (by decide), r24]
  refine tg_st (st' := [.ref q25, .ref (ad25 11 0)]) (by rw [r25]) ?_
  refine tg_w (tg_cm _ _ _ (fun z => absurd z.1 (by decide))) ?_
  refine tg_putF (k := 11) (i := 0) (T := TM) (N := 13) (ty := .array .int) hx hb hts inM tyM tyM_ok nmM hown hK (Or.inl (Or.inl (Or.inl (Or.inl (Or.inl (Or.inl (Or.inl (Or.inl (Or.inl (Or.inl (Or.inl (Or.inl hk)))))))))))) (tg_up_self _ _ _ _) rfl 12 (by decide) (hts _ wf_M_48) (fun _ z => z) rfl hname rfl (by decide +kernel) rfl rfl (Nat.le_of_ble_eq_true rfl) dM_init_118 ?_
  refine tg_w (tg_uu _ _ _ _ _) ?_
  have k12 : ad25 12 0 = ad12 12 0 := by rw [h25 12 0 (by decide), h24 12 0 (by decide), h22 12 0 (by decide) (by decide), h21 12 0 (by decide), h20 12 0 (by decide), h19 12 0 (by decide), h18 12 0 (by decide), h16 12 0 (by decide) (by decide), h15 12 0 (by decide), h14 12 0 (by decide), h13 12 0 (by decide)]
  have k13 : ad25 13 0 = ad13 13 0 := by rw [h25 13 0 (by decide), h24 13 0 (by decide), h22 13 0 (by decide) (by decide), h21 13 0 (by decide), h20 13 0 (by decide), h19 13 0 (by decide), h18 13 0 (by decide), h16 13 0 (by decide) (by decide), h15 13 0 (by decide), h14 13 0 (by decide)]
  have k14 : ad25 14 0 = ad14 14 0 := by rw [h25 14 0 (by decide), h24 14 0 (by decide), h22 14 0 (by decide) (by decide), h21 14 0 (by decide), h20 14 0 (by decide), h19 14 0 (by decide), h18 14 0 (by decide), h16 14 0 (by decide) (by decide), h15 14 0 (by decide)]
  have k15 : ad25 15 0 = ad15 15 0 := by rw [h25 15 0 (by decide), h24 15 0 (by decide), h22 15 0 (by decide) (by decide), h21 15 0 (by decide), h20 15 0 (by decide), h19 15 0 (by decide), h18 15 0 (by decide), h16 15 0 (by decide) (by decide)]
  have k16 : ad25 16 0 = ad16 16 0 := by rw [h25 16 0 (by decide), h24 16 0 (by decide), h22 16 0 (by decide) (by decide), h21 16 0 (by decide), h20 16 0 (by decide), h19 16 0 (by decide), h18 16 0 (by decide)]
  have j16 : ∀ i, ad25 17 i = ad16 17 i := fun i => by rw [h25 17 i (by decide), h24 17 i (by decide), h22 17 i (by decide) (by decide), h21 17 i (by decide), h20 17 i (by decide), h19 17 i (by decide), h18 17 i (by decide)]
  have k18 : ad25 18 0 = ad18 18 0 := by rw [h25 18 0 (by decide), h24 18 0 (by decide), h22 18 0 (by decide) (by decide), h21 18 0 (by decide), h20 18 0 (by decide), h19 18 0 (by decide)]
  have k19 : ad25 19 0 = ad19 19 0 := by rw [h25 19 0 (by decide), h24 19 0 (by decide), h22 19 0 (by decide) (by decide), h21 19 0 (by decide), h20 19 0 (by decide)]
  have k20 : ad25 20 0 = ad20 20 0 := by rw [h25 20 0 (by decide), h24 20 0 (by decide), h22 20 0 (by decide) (by decide), h21 20 0 (by decide)]
  have k21 : ad25 21 0 = ad21 21 0 := by rw [h25 21 0 (by decide), h24 21 0 (by decide), h22 21 0 (by decide) (by decide)]
  have k22 : ad25 22 0 = ad22 22 0 := by rw [h25 22 0 (by decide), h24 22 0 (by decide)]
  have j22 : ∀ i, ad25 23 i = ad22 23 i := fun i => by rw [h25 23 i (by decide), h24 23 i (by decide)]
  have k24 : ad25 24 0 = ad24 24 0 := by rw [h25 24 0 (by decide)]
  have k25 : ad25 25 0 = ad25 25 0 := rfl
  have ho : ∀ a b, a < 12 ∨ 26 ≤ a → ad25 a b = ad a b := fun a b z => by rw [h25 a b (by omega), h24 a b (by omega), h22 a b (by omega) (by omega), h21 a b (by omega), h20 a b (by omega), h19 a b (by omega), h18 a b (by omega), h16 a b (by omega) (by omega), h15 a b (by omega), h14 a b (by omega), h13 a b (by omega), h12 a b (by omega)]
  refine tg_vret hx hb hlocks hr hQ ⟨rfl, ho, fun k i => ?_, fun k i hki => ?_⟩ dM_init_121
  · dsimp only
    constructor
    · intro z
      rcases z with ((((((((((((z) | z) | z) | z) | z) | (z | z)) | z) | z) | z) | z) | (z | z)) | z) | z
      · exact Or.inl z
      · exact Or.inr (Or.inl (by omega))
      · exact Or.inr (Or.inl (by omega))
      · exact Or.inr (Or.inl (by omega))
      · exact Or.inr (Or.inl (by omega))
      · exact Or.inr (Or.inl (by omega))
      · exact Or.inr (Or.inr (by omega))
      · exact Or.inr (Or.inl (by omega))
      · exact Or.inr (Or.inl (by omega))
      · exact Or.inr (Or.inl (by omega))
      · exact Or.inr (Or.inl (by omega))
      · exact Or.inr (Or.inl (by omega))
      · exact Or.inr (Or.inr (by omega))
      · exact Or.inr (Or.inl (by omega))
      · exact Or.inr (Or.inl (by omega))
    · intro z
      rcases z with z | z | z
      · exact Or.inl (Or.inl (Or.inl (Or.inl (Or.inl (Or.inl (Or.inl (Or.inl (Or.inl (Or.inl (Or.inl (Or.inl (z))))))))))))
      · have h : k = 12 ∨ k = 13 ∨ k = 14 ∨ k = 15 ∨ k = 16 ∨ k = 18 ∨ k = 19 ∨ k = 20 ∨ k = 21 ∨ k = 22 ∨ k = 24 ∨ k = 25 := by omega
        rcases h with h | h | h | h | h | h | h | h | h | h | h | h <;> simp [h, z.2.2.2.2]
      · rcases z.1 with h | h <;> simp [h, z.2]
  · rcases hki with z | z | z
    · obtain ⟨z1, z2, z3, z4, z5⟩ := z
      subst z5
      have h : k = 11 ∨ k = 12 ∨ k = 13 ∨ k = 14 ∨ k = 15 ∨ k = 16 ∨ k = 18 ∨ k = 19 ∨ k = 20 ∨ k = 21 ∨ k = 22 ∨ k = 24 ∨ k = 25 := by omega
      rcases h with h | h | h | h | h | h | h | h | h | h | h | h | h <;> subst h
      · simp [tg_up, mx_W, mo_w, nI_0, e12, e13, e14, e15, e18, e19, e20, e21, e24, e25, k12, k13, k14, k15, k16, k18, k19, k20, k21, k22, k24, k25, j16, j22]
      · simp [tg_up, mx_W, mo_w, nI_0, e12, e13, e14, e15, e18, e19, e20, e21, e24, e25, k12, k13, k14, k15, k16, k18, k19, k20, k21, k22, k24, k25, j16, j22]
      · simp [tg_up, mx_W, mo_w, nI_0, e12, e13, e14, e15, e18, e19, e20, e21, e24, e25, k12, k13, k14, k15, k16, k18, k19, k20, k21, k22, k24, k25, j16, j22]
      · simp [tg_up, mx_W, mo_w, nI_0, e12, e13, e14, e15, e18, e19, e20, e21, e24, e25, k12, k13, k14, k15, k16, k18, k19, k20, k21, k22, k24, k25, j16, j22]
      · simp [tg_up, mx_W, mo_w, nI_0, e12, e13, e14, e15, e18, e19, e20, e21, e24, e25, k12, k13, k14, k15, k16, k18, k19, k20, k21, k22, k24, k25, j16, j22]
      · simp [tg_up, mx_W, mo_w, nI_0, e12, e13, e14, e15, e18, e19, e20, e21, e24, e25, k12, k13, k14, k15, k16, k18, k19, k20, k21, k22, k24, k25, j16, j22]
      · simp [tg_up, mx_W, mo_w, nI_0, e12, e13, e14, e15, e18, e19, e20, e21, e24, e25, k12, k13, k14, k15, k16, k18, k19, k20, k21, k22, k24, k25, j16, j22]
      · simp [tg_up, mx_W, mo_w, nI_0, e12, e13, e14, e15, e18, e19, e20, e21, e24, e25, k12, k13, k14, k15, k16, k18, k19, k20, k21, k22, k24, k25, j16, j22]
      · simp [tg_up, mx_W, mo_w, nI_0, e12, e13, e14, e15, e18, e19, e20, e21, e24, e25, k12, k13, k14, k15, k16, k18, k19, k20, k21, k22, k24, k25, j16, j22]
      · simp [tg_up, mx_W, mo_w, nI_0, e12, e13, e14, e15, e18, e19, e20, e21, e24, e25, k12, k13, k14, k15, k16, k18, k19, k20, k21, k22, k24, k25, j16, j22]
      · simp [tg_up, mx_W, mo_w, nI_0, e12, e13, e14, e15, e18, e19, e20, e21, e24, e25, k12, k13, k14, k15, k16, k18, k19, k20, k21, k22, k24, k25, j16, j22]
      · simp [tg_up, mx_W, mo_w, nI_0, e12, e13, e14, e15, e18, e19, e20, e21, e24, e25, k12, k13, k14, k15, k16, k18, k19, k20, k21, k22, k24, k25, j16, j22]
      · simp [tg_up, mx_W, mo_w, nI_0, e12, e13, e14, e15, e18, e19, e20, e21, e24, e25, k12, k13, k14, k15, k16, k18, k19, k20, k21, k22, k24, k25, j16, j22]
    · obtain ⟨z1, z2⟩ := z
      rcases z1 with h | h <;> subst h <;> simp [tg_up, mx_W, mo_w, z2, nI_0]
    · rw [show mo_w _ cI cZ cA cB (fun _ _ => 0) (fun _ _ _ => 0) μ k i = μ k i from mo_w_mu z, ← hw0 k i z]
      simp only [tg_up, mx_W]
      repeat rw [if_neg (by omega)]
end MOI
