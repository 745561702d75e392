/-! the constructors -/
theorem tg_uu {α : Type} (f : Nat → Nat → α) (k i : Nat) (x y : α) : tg_up (tg_up f k i x) k i y = tg_up f k i y := by
  funext a b
  by_cases h : a = k ∧ b = i
  · obtain ⟨rfl, rfl⟩ := h
    rw [tg_up_self, tg_up_self]
  · rw [tg_up_ne _ _ h, tg_up_ne _ _ h, tg_up_ne _ _ h]
theorem tg_cm {α : Type} (f : Nat → Nat → α) {k i k' i' : Nat} (x y : α) (h : ¬ (k = k' ∧ i = i')) : tg_up (tg_up f k i x) k' i' y = tg_up (tg_up f k' i' y) k i x := by
  funext a b
  by_cases h1 : a = k ∧ b = i
  · obtain ⟨rfl, rfl⟩ := h1
    rw [tg_up_self, tg_up_ne _ _ h, tg_up_self]
  · rw [tg_up_ne _ _ h1]
    by_cases h2 : a = k' ∧ b = i'
    · obtain ⟨rfl, rfl⟩ := h2
      rw [tg_up_self, tg_up_self]
    · rw [tg_up_ne _ _ h2, tg_up_ne _ _ h2, tg_up_ne _ _ h1]
theorem wc_oi : (Cond.code Lib.objectInit ⟨#[0xb1]⟩ 1 none : Cond) ∈ lw_g := wc_java_lang_Object_init_0
section TGO
variable {p : Program} {l : Launch} {e : Env} {R : Room} {s : State} {m : MethodId} {args : Array Value} {below : List Frame} {meth : Method} {c : Code} {cells slots : Nat} {Q : State → Prop}
variable {cc : ByteArray} {pc nL : Nat} {st : List Value} {D : va_G} {cl : List vw_C} {F : Nat → Prop} {ad : Nat → Nat → Nat} {ok : Nat → Nat → Prop} {w : Nat → Nat → va_E} {L : List (Nat × Value)}
theorem tg_oinit (hx : p.tables.exec = Jvm.exec) (hb : c.code = cc) (hml : c.maxLocals = nL) {own : String} {index q : Nat} (hown : s.vm.findClass own = some m.cls) (hlink : (Cond.methodLink own index Lib.objectInit).before args s = true) (hinst : (Cond.instanceMethod Lib.objectInit).before args s = true) (hcode : (Cond.code Lib.objectInit ⟨#[0xb1]⟩ 1 none).before args s = true) (hdg : decode cc pc = .ok (.invokespecial index, 3)) (hfr : 1 ≤ R.frames) (hlo : (st.map fun v => v.category).sum + 12 ≤ R.locals) (kk : tg_W p l e R s m args below meth c Q nL D cl F ad ok w L cells slots (pc + 3) st) : tg_W p l e R s m args below meth c Q nL D cl F ad ok w L cells slots pc (.ref q :: st) := by
  intro H locs ls hZ h
  refine W.objInit hx hb hown hlink hinst hcode rfl (h.1.trans hml.symm) rfl hdg hfr ?_ (kk H locs ls hZ h)
  show 2 * 0 + _ + 12 ≤ _
  rw [Nat.mul_zero, Nat.zero_add]
  exact hlo
end TGO
section HGK
variable {l : Launch} {D : va_G} {F : Nat → Prop} {Nn : State → Heap → Prop} {ad : Nat → Nat → Nat} {ok : Nat → Nat → Prop} {cF cI cZ cJ cA cB : ClassId} {G : Nat → Nat} {a : Nat → Nat → Option Nat} {dr : Nat → Int32} {N : Nat → Nat → Nat} {bc : Nat → Int32} {sp : Nat → Nat → Int32} {μ : Nat → Nat → va_E} {T : Nat → Prop} {w : Nat → Nat → va_E}
set_option maxRecDepth 100000 in
set_option maxHeartbeats 4000000 in
/-- a formula is made -/
theorem c_Finit (f : Nat) (hk : ok 8 f) (x y b0 r0 : Nat) (hyr : y ≤ r0) (hr0 : r0 < 20) : tg_Met l yF_init wsF_init ({ frames := 1, cells := 1, slots := 20, locals := 40 }) D vwCl (hg_tys cI cF cZ cJ cA cB) F (hg_N F) ad ok (tg_up w 8 f (.inr (1, [.int 0, .int 0, .int 0, .int 0, .int 0, .int 0, .null, .int 0, .int 0, .int 0, .int 0, .int 0, .int 0, .int 0, .int 0]))) [.ref (ad 8 f), .int (nI (x)), .int (nI (y)), .int (nI (b0)), .int (nI (r0))] (fun r1 ad1 ok1 w1 => r1 = none ∧ ∃ q, ad1 = tg_up ad 9 f q ∧ ok1 = (fun a b => ok a b ∨ (a = 9 ∧ b = f)) ∧ w1 = tg_up (tg_up w 9 f (.inl (cI, 20, .inl fun _ => nI 0))) 8 f (.inr (1, [.int (nI (20 * x + y)), .int (nI x), .int (nI y), .int (nI b0), .int (nI r0), .int (hg_cb y r0), .ref q, .int 0, .int 0, .int 0, .int 0, .int 0, .int 0, .int 0, .int 0]))) := by
  refine tg_start (cc := cF_init) (maxL := 5) (ret := none) (by decide) rfl (Nat.le_of_ble_eq_true rfl) ?_
  intro p e R s m args below meth c Q hx hb hml hr hlocks hown hname hts hK hN hR hQ
  have hown : s.vm.findClass "HangGraph$Formula" = some m.cls := hown
  have hts : ∀ w ∈ lw_g, w.before args s = true := fun w z => hts w (List.mem_cons_of_mem _ z)
  have hMv := hg_Mv F
  have hNest := hN.1
  refine tg_aload_n hx hb dF_init_0 rfl rfl ?_
  refine tg_oinit hx hb hml hown (hts _ wm_F_3) (hts _ wi_java_lang_Object_init_0) (hts _ wc_oi) dF_init_1 (by rw [hR]; exact Nat.le_of_ble_eq_true rfl) (by rw [hR]; exact Nat.le_of_ble_eq_true rfl) ?_
  refine tg_aload_n hx hb dF_init_4 rfl rfl ?_
  refine tg_iload_n hx hb dF_init_5 rfl rfl ?_
  refine tg_iload_n hx hb dF_init_6 rfl rfl ?_
  refine tg_callSN (As := [.int (nI (x)), .int (nI (y))]) (rest := [.ref (ad 8 f)]) ⟨hx, hb, hml, hown, hts⟩ hK hN hMv (c_cellAt x y) ⟨va_cnB 2 hts (lg_N wc_H_cellAt) rfl rfl rfl (hNest (.methodLinkNest "HangGraph$Formula" 9 yH_cellAt "HangGraph") (by decide)) (hts _ wn_H) ⟨by decide, by decide, rfl⟩ ⟨by rw [hR]; exact Nat.le_of_ble_eq_true rfl, by rw [hR]; exact Nat.le_of_ble_eq_true rfl⟩, hts _ wt_H_cellAt, trivial⟩ rfl (Nat.le_of_ble_eq_true rfl) ⟨by rw [hR]; exact Nat.le_of_ble_eq_true rfl, by rw [hR]; exact Nat.le_of_ble_eq_true rfl⟩ rfl dF_init_7 (tg_kv rfl rfl ?_)
  refine tg_putF (k := 8) (i := f) (T := TF) (N := 15) (ty := .int) hx hb hts inF tyF tyF_ok nmF hown hK hk (tg_up_self _ _ _ _) rfl 0 (by decide) (hts _ wf_F_13) (fun _ z => z) rfl hname rfl (by decide +kernel) rfl rfl (Nat.le_of_ble_eq_true rfl) dF_init_10 ?_
  refine tg_w (tg_uu _ _ _ _ _) ?_
  refine tg_aload_n hx hb dF_init_13 rfl rfl ?_
  refine tg_iload_n hx hb dF_init_14 rfl rfl ?_
  refine tg_putF (k := 8) (i := f) (T := TF) (N := 15) (ty := .int) hx hb hts inF tyF tyF_ok nmF hown hK hk (tg_up_self _ _ _ _) rfl 1 (by decide) (hts _ wf_F_19) (fun _ z => z) rfl hname rfl (by decide +kernel) rfl rfl (Nat.le_of_ble_eq_true rfl) dF_init_15 ?_
  refine tg_w (tg_uu _ _ _ _ _) ?_
  refine tg_aload_n hx hb dF_init_18 rfl rfl ?_
  refine tg_iload_n hx hb dF_init_19 rfl rfl ?_
  refine tg_putF (k := 8) (i := f) (T := TF) (N := 15) (ty := .int) hx hb hts inF tyF tyF_ok nmF hown hK hk (tg_up_self _ _ _ _) rfl 2 (by decide) (hts _ wf_F_22) (fun _ z => z) rfl hname rfl (by decide +kernel) rfl rfl (Nat.le_of_ble_eq_true rfl) dF_init_20 ?_
  refine tg_w (tg_uu _ _ _ _ _) ?_
  refine tg_aload_n hx hb dF_init_23 rfl rfl ?_
  refine tg_iload_n hx hb dF_init_24 rfl rfl ?_
  refine tg_putF (k := 8) (i := f) (T := TF) (N := 15) (ty := .int) hx hb hts inF tyF tyF_ok nmF hown hK hk (tg_up_self _ _ _ _) rfl 3 (by decide) (hts _ wf_F_25) (fun _ z => z) rfl hname rfl (by decide +kernel) rfl rfl (Nat.le_of_ble_eq_true rfl) dF_init_25 ?_
  refine tg_w (tg_uu _ _ _ _ _) ?_
  refine tg_aload_n hx hb dF_init_28 rfl rfl ?_
  refine tg_iload hx hb dF_init_29 rfl ?_
  refine tg_putF (k := 8) (i := f) (T := TF) (N := 15) (ty := .int) hx hb hts inF tyF tyF_ok nmF hown hK hk (tg_up_self _ _ _ _) rfl 4 (by decide) (hts _ wf_F_28) (fun _ z => z) rfl hname rfl (by decide +kernel) rfl rfl (Nat.le_of_ble_eq_true rfl) dF_init_31 ?_
  refine tg_w (tg_uu _ _ _ _ _) ?_
  refine tg_aload_n hx hb dF_init_34 rfl rfl ?_
  refine tg_iload_n hx hb dF_init_35 rfl rfl ?_
  refine tg_iload hx hb dF_init_36 rfl ?_
  refine tg_callSN (As := [.int (nI (y)), .int (nI (r0))]) (rest := [.ref (ad 8 f)]) ⟨hx, hb, hml, hown, hts⟩ hK hN hMv (c_columnBits y r0 hyr hr0) ⟨va_cnB 2 hts (lg_N wc_H_columnBits) rfl rfl rfl (hNest (.methodLinkNest "HangGraph$Formula" 31 yH_columnBits "HangGraph") (by decide)) (hts _ wn_H) ⟨by decide, by decide, rfl⟩ ⟨by rw [hR]; exact Nat.le_of_ble_eq_true rfl, by rw [hR]; exact Nat.le_of_ble_eq_true rfl⟩, hts _ wt_H_columnBits, trivial⟩ rfl (Nat.le_of_ble_eq_true rfl) ⟨by rw [hR]; exact Nat.le_of_ble_eq_true rfl, by rw [hR]; exact Nat.le_of_ble_eq_true rfl⟩ rfl dF_init_38 (tg_kv rfl rfl ?_)
  refine tg_putF (k := 8) (i := f) (T := TF) (N := 15) (ty := .int) hx hb hts inF tyF tyF_ok nmF hown hK hk (tg_up_self _ _ _ _) rfl 5 (by decide) (hts _ wf_F_34) (fun _ z => z) rfl hname rfl (by decide +kernel) rfl rfl (Nat.le_of_ble_eq_true rfl) dF_init_41 ?_
  refine tg_w (tg_uu _ _ _ _ _) ?_
  refine tg_aload_n hx hb dF_init_44 rfl rfl ?_
  refine tg_bipush (v := nI 20) hx hb dF_init_45 (by decide +kernel) ?_
  refine tg_newa hx hb 9 f (atype := .int) (hts _ wa_int) rfl (cA := cI) (hK.2 0 _ rfl).2 (n := nI 20) (N' := 20) (a0 := (20, .inl fun _ => nI 0)) (fun cA => by rw [vp_cell_i, nI_0]; rfl) (by decide +kernel) (by decide +kernel) (by decide) (by rw [hR]; exact Nat.le_of_ble_eq_true rfl) (by rw [hR]; exact Nat.le_of_ble_eq_true rfl) dF_init_47 (fun q9 => ?_)
  obtain ⟨ad9, h9⟩ : ∃ z, z = tg_up ad 9 f q9 := ⟨_, rfl⟩
  rw [← h9]
  have r9 : ad9 8 f = ad 8 f := by rw [h9, tg_up_ne _ _ (fun z => absurd z.1 (by decide))]
  refine tg_st (st' := [.ref q9, .ref (ad9 8 f)]) (by rw [r9]) ?_
  refine tg_w (tg_cm _ _ _ (fun z => absurd z.1 (by decide))) ?_
  refine tg_putF (k := 8) (i := f) (T := TF) (N := 15) (ty := .array .int) hx hb hts inF tyF tyF_ok nmF hown hK (Or.inl hk) (tg_up_self _ _ _ _) rfl 6 (by decide) (hts _ wf_F_37) (fun _ z => z) rfl hname rfl (by decide +kernel) rfl rfl (Nat.le_of_ble_eq_true rfl) dF_init_49 ?_
  refine tg_w (tg_uu _ _ _ _ _) ?_
  exact tg_vret hx hb hlocks hr hQ ⟨rfl, q9, h9, rfl, rfl⟩ dF_init_52
set_option maxRecDepth 100000 in
set_option maxHeartbeats 4000000 in
/-- a sweep is made -/
theorem c_Sinit (hk : ok 3 0) : tg_Met l yS_init wsS_init ({ frames := 1, cells := 4, slots := 1600, locals := 40 }) D vwCl (hg_tys cI cF cZ cJ cA cB) F (hg_N F) ad ok (tg_up w 3 0 (.inr (2, [.null, .int 0, .null, .int 0, .null, .int 0, .null, .int 0, .int 0]))) [.ref (ad 3 0)] (fun r1 ad1 ok1 w1 => r1 = none ∧ ∃ q4 q5 q6 q7, ad1 = tg_up (tg_up (tg_up (tg_up ad 4 0 q4) 5 0 q5) 6 0 q6) 7 0 q7 ∧ ok1 = (fun a b => (((ok a b ∨ (a = 4 ∧ b = 0)) ∨ (a = 5 ∧ b = 0)) ∨ (a = 6 ∧ b = 0)) ∨ (a = 7 ∧ b = 0)) ∧ w1 = tg_up (tg_up (tg_up (tg_up (tg_up w 4 0 (.inl (cF, 400, .inr (.inr (.inr (.inr fun _ => none)))))) 5 0 (.inl (cF, 400, .inr (.inr (.inr (.inr fun _ => none)))))) 6 0 (.inl (cF, 400, .inr (.inr (.inr (.inr fun _ => none)))))) 7 0 (.inl (cF, 400, .inr (.inr (.inr (.inr fun _ => none)))))) 3 0 (.inr (2, [.ref q4, .int 0, .ref q5, .int 0, .ref q6, .int 0, .ref q7, .int 0, .int 0]))) := by
  refine tg_start (cc := cS_init) (maxL := 1) (ret := none) (by decide) rfl (Nat.le_of_ble_eq_true rfl) ?_
  intro p e R s m args below meth c Q hx hb hml hr hlocks hown hname hts hK hN hR hQ
  have hown : s.vm.findClass "HangGraph$Sweep" = some m.cls := hown
  have hts : ∀ w ∈ lw_g, w.before args s = true := fun w z => hts w (List.mem_cons_of_mem _ z)
  have hMv := hg_Mv F
  refine tg_aload_n hx hb dS_init_0 rfl rfl ?_
  refine tg_oinit hx hb hml hown (hts _ wm_S_3) (hts _ wi_java_lang_Object_init_0) (hts _ wc_oi) dS_init_1 (by rw [hR]; exact Nat.le_of_ble_eq_true rfl) (by rw [hR]; exact Nat.le_of_ble_eq_true rfl) ?_
  refine tg_aload_n hx hb dS_init_4 rfl rfl ?_
  refine tg_sipush (v := nI 400) hx hb dS_init_5 (by decide +kernel) ?_
  refine tg_anew hx hb 4 0 (C := "HangGraph$Formula") (t0 := 1) hown (hts _ wk_S_9) (va_AO.use hN.2.1.1) hK rfl (n := nI 400) (N' := 400) (by decide +kernel) (by decide +kernel) (by decide) (by rw [hR]; exact Nat.le_of_ble_eq_true rfl) (by rw [hR]; exact Nat.le_of_ble_eq_true rfl) dS_init_8 (fun q4 => ?_)
  obtain ⟨ad4, h4⟩ : ∃ z, z = tg_up ad 4 0 q4 := ⟨_, rfl⟩
  rw [← h4]
  have r4 : ad4 3 0 = ad 3 0 := by rw [h4, tg_up_ne _ _ (fun z => absurd z.1 (by decide))]
  refine tg_st (st' := [.ref q4, .ref (ad4 3 0)]) (by rw [r4]) ?_
  refine tg_w (tg_cm _ _ _ (fun z => absurd z.1 (by decide))) ?_
  refine tg_putF (k := 3) (i := 0) (T := TS) (N := 9) (ty := .array (.object "HangGraph$Formula")) hx hb hts inS tyS tyS_ok nmS hown hK (Or.inl hk) (tg_up_self _ _ _ _) rfl 0 (by decide) (hts _ wf_S_11) (fun _ z => z) rfl hname rfl (by decide +kernel) rfl rfl (Nat.le_of_ble_eq_true rfl) dS_init_11 ?_
  refine tg_w (tg_uu _ _ _ _ _) ?_
  refine tg_aload_n hx hb dS_init_14 rfl rfl ?_
  refine tg_sipush (v := nI 400) hx hb dS_init_15 (by decide +kernel) ?_
  refine tg_anew hx hb 5 0 (C := "HangGraph$Formula") (t0 := 1) hown (hts _ wk_S_9) (va_AO.use hN.2.1.1) hK rfl (n := nI 400) (N' := 400) (by decide +kernel) (by decide +kernel) (by decide) (by rw [hR]; exact Nat.le_of_ble_eq_true rfl) (by rw [hR]; exact Nat.le_of_ble_eq_true rfl) dS_init_18 (fun q5 => ?_)
  obtain ⟨ad5, h5⟩ : ∃ z, z = tg_up ad4 5 0 q5 := ⟨_, rfl⟩
  rw [← h5]
  have r5 : ad5 3 0 = ad 3 0 := by rw [h5, tg_up_ne _ _ (fun z => absurd z.1 (by decide)), r4]
  refine tg_st (st' := [.ref q5, .ref (ad5 3 0)]) (by rw [r5]) ?_
  refine tg_w (tg_cm _ _ _ (fun z => absurd z.1 (by decide))) ?_
  refine tg_putF (k := 3) (i := 0) (T := TS) (N := 9) (ty := .array (.object "HangGraph$Formula")) hx hb hts inS tyS tyS_ok nmS hown hK (Or.inl (Or.inl hk)) (tg_up_self _ _ _ _) rfl 2 (by decide) (hts _ wf_S_17) (fun _ z => z) rfl hname rfl (by decide +kernel) rfl rfl (Nat.le_of_ble_eq_true rfl) dS_init_21 ?_
  refine tg_w (tg_uu _ _ _ _ _) ?_
  refine tg_aload_n hx hb dS_init_24 rfl rfl ?_
  refine tg_sipush (v := nI 400) hx hb dS_init_25 (by decide +kernel) ?_
  refine tg_anew hx hb 6 0 (C := "HangGraph$Formula") (t0 := 1) hown (hts _ wk_S_9) (va_AO.use hN.2.1.1) hK rfl (n := nI 400) (N' := 400) (by decide +kernel) (by decide +kernel) (by decide) (by rw [hR]; exact Nat.le_of_ble_eq_true rfl) (by rw [hR]; exact Nat.le_of_ble_eq_true rfl) dS_init_28 (fun q6 => ?_)
  obtain ⟨ad6, h6⟩ : ∃ z, z = tg_up ad5 6 0 q6 := ⟨_, rfl⟩
  rw [← h6]
  have r6 : ad6 3 0 = ad 3 0 := by rw [h6, tg_up_ne _ _ (fun z => absurd z.1 (by decide)), r5]
  refine tg_st (st' := [.ref q6, .ref (ad6 3 0)]) (by rw [r6]) ?_
  refine tg_w (tg_cm _ _ _ (fun z => absurd z.1 (by decide))) ?_
  refine tg_putF (k := 3) (i := 0) (T := TS) (N := 9) (ty := .array (.object "HangGraph$Formula")) hx hb hts inS tyS tyS_ok nmS hown hK (Or.inl (Or.inl (Or.inl hk))) (tg_up_self _ _ _ _) rfl 4 (by decide) (hts _ wf_S_20) (fun _ z => z) rfl hname rfl (by decide +kernel) rfl rfl (Nat.le_of_ble_eq_true rfl) dS_init_31 ?_
  refine tg_w (tg_uu _ _ _ _ _) ?_
  refine tg_aload_n hx hb dS_init_34 rfl rfl ?_
  refine tg_sipush (v := nI 400) hx hb dS_init_35 (by decide +kernel) ?_
  refine tg_anew hx hb 7 0 (C := "HangGraph$Formula") (t0 := 1) hown (hts _ wk_S_9) (va_AO.use hN.2.1.1) hK rfl (n := nI 400) (N' := 400) (by decide +kernel) (by decide +kernel) (by decide) (by rw [hR]; exact Nat.le_of_ble_eq_true rfl) (by rw [hR]; exact Nat.le_of_ble_eq_true rfl) dS_init_38 (fun q7 => ?_)
  obtain ⟨ad7, h7⟩ : ∃ z, z = tg_up ad6 7 0 q7 := ⟨_, rfl⟩
  rw [← h7]
  have r7 : ad7 3 0 = ad 3 0 := by rw [h7, tg_up_ne _ _ (fun z => absurd z.1 (by decide)), r6]
  refine tg_st (st' := [.ref q7, .ref (ad7 3 0)]) (by rw [r7]) ?_
  refine tg_w (tg_cm _ _ _ (fun z => absurd z.1 (by decide))) ?_
  refine tg_putF (k := 3) (i := 0) (T := TS) (N := 9) (ty := .array (.object "HangGraph$Formula")) hx hb hts inS tyS tyS_ok nmS hown hK (Or.inl (Or.inl (Or.inl (Or.inl hk)))) (tg_up_self _ _ _ _) rfl 6 (by decide) (hts _ wf_S_23) (fun _ z => z) rfl hname rfl (by decide +kernel) rfl rfl (Nat.le_of_ble_eq_true rfl) dS_init_41 ?_
  refine tg_w (tg_uu _ _ _ _ _) ?_
  exact tg_vret hx hb hlocks hr hQ ⟨rfl, q4, q5, q6, q7, by rw [h7, h6, h5, h4], rfl, rfl⟩ dS_init_44
theorem hg_dfF : ∀ j, j < 15 → defaultValue (tyF j) = vp_V ([.int 0, .int 0, .int 0, .int 0, .int 0, .int 0, .null, .int 0, .int 0, .int 0, .int 0, .int 0, .int 0, .int 0, .int 0] : List Value) j := by
  intro j hj
  have h : j = 0 ∨ j = 1 ∨ j = 2 ∨ j = 3 ∨ j = 4 ∨ j = 5 ∨ j = 6 ∨ j = 7 ∨ j = 8 ∨ j = 9 ∨ j = 10 ∨ j = 11 ∨ j = 12 ∨ j = 13 ∨ j = 14 := by omega
  rcases h with z | z | z | z | z | z | z | z | z | z | z | z | z | z | z <;> subst z <;> rfl
theorem hg_dfS : ∀ j, j < 9 → defaultValue (tyS j) = vp_V ([.null, .int 0, .null, .int 0, .null, .int 0, .null, .int 0, .int 0] : List Value) j := by
  intro j hj
  have h : j = 0 ∨ j = 1 ∨ j = 2 ∨ j = 3 ∨ j = 4 ∨ j = 5 ∨ j = 6 ∨ j = 7 ∨ j = 8 := by omega
  rcases h with z | z | z | z | z | z | z | z | z <;> subst z <;> rfl
theorem hg_dfH : ∀ j, j < 4 → defaultValue (tyH j) = vp_V ([.null, .null, .null, .int 0] : List Value) j := by
  intro j hj
  have h : j = 0 ∨ j = 1 ∨ j = 2 ∨ j = 3 := by omega
  rcases h with z | z | z | z <;> subst z <;> rfl
theorem hg_w_mu {k i : Nat} (h : 10 ≤ k) : hg_w ad cF cI G a dr N bc sp μ k i = μ k i := by
  unfold hg_w
  split <;> first | rfl | (exfalso; omega)
set_option maxRecDepth 100000 in
set_option maxHeartbeats 4000000 in
/-- a graph is made -/
theorem c_Hinit (hk : ok 0 0) (hw0 : ∀ k i, 10 ≤ k → w k i = μ k i) : tg_Met l yH_init wsH_init ({ frames := 2, cells := 7, slots := 2029, locals := 90 }) D vwCl (hg_tys cI cF cZ cJ cA cB) F (hg_N F) ad ok (tg_up w 0 0 (.inr (0, [.null, .null, .null, .int 0]))) [.ref (ad 0 0)] (fun r1 ad1 ok1 w1 => r1 = none ∧ (∀ k i, 8 ≤ k ∨ k = 0 → ad1 k i = ad k i) ∧ (∀ k i, ok1 k i ↔ ok k i ∨ (1 ≤ k ∧ k < 8 ∧ i = 0)) ∧ ∀ k i, (k < 8 ∧ i = 0) ∨ 10 ≤ k → w1 k i = hg_w ad1 cF cI (fun _ => 0) (fun _ _ => none) (fun _ => nI 0) N bc sp μ k i) := by
  refine tg_start (cc := cH_init) (maxL := 1) (ret := none) (by decide) rfl (Nat.le_of_ble_eq_true rfl) ?_
  intro p e R s m args below meth c Q hx hb hml hr hlocks hown hname hts hK hN hR hQ
  have hown : s.vm.findClass "HangGraph" = some m.cls := hown
  have hts : ∀ w ∈ lw_g, w.before args s = true := fun w z => hts w (List.mem_cons_of_mem _ z)
  have hMv := hg_Mv F
  refine tg_aload_n hx hb dH_init_0 rfl rfl ?_
  refine tg_oinit hx hb hml hown (hts _ wm_H_3) (hts _ wi_java_lang_Object_init_0) (hts _ wc_oi) dH_init_1 (by rw [hR]; exact Nat.le_of_ble_eq_true rfl) (by rw [hR]; exact Nat.le_of_ble_eq_true rfl) ?_
  refine tg_aload_n hx hb dH_init_4 rfl rfl ?_
  refine tg_sipush (v := nI 400) hx hb dH_init_5 (by decide +kernel) ?_
  refine tg_anew hx hb 1 0 (C := "HangGraph$Formula") (t0 := 1) hown (hts _ wk_H_9) (va_AO.use hN.2.1.1) hK rfl (n := nI 400) (N' := 400) (by decide +kernel) (by decide +kernel) (by decide) (by rw [hR]; exact Nat.le_of_ble_eq_true rfl) (by rw [hR]; exact Nat.le_of_ble_eq_true rfl) dH_init_8 (fun q1 => ?_)
  obtain ⟨ad1, h1⟩ : ∃ z, z = tg_up ad 1 0 q1 := ⟨_, rfl⟩
  rw [← h1]
  have r1 : ad1 0 0 = ad 0 0 := by rw [h1, tg_up_ne _ _ (fun z => absurd z.1 (by decide))]
  refine tg_st (st' := [.ref q1, .ref (ad1 0 0)]) (by rw [r1]) ?_
  refine tg_w (tg_cm _ _ _ (fun z => absurd z.1 (by decide))) ?_
  refine tg_putF (k := 0) (i := 0) (T := TH) (N := 4) (ty := .array (.object "HangGraph$Formula")) hx hb hts inH tyH tyH_ok nmH hown hK (Or.inl hk) (tg_up_self _ _ _ _) rfl 0 (by decide) (hts _ wf_H_11) (fun _ z => z) rfl hname rfl (by decide +kernel) rfl rfl (Nat.le_of_ble_eq_true rfl) dH_init_11 ?_
  refine tg_w (tg_uu _ _ _ _ _) ?_
  refine tg_aload_n hx hb dH_init_14 rfl rfl ?_
  refine tg_bipush (v := nI 20) hx hb dH_init_15 (by decide +kernel) ?_
  refine tg_newa hx hb 2 0 (atype := .int) (hts _ wa_int) rfl (cA := cI) (hK.2 0 _ rfl).2 (n := nI 20) (N' := 20) (a0 := (20, .inl fun _ => nI 0)) (fun cA => by rw [vp_cell_i, nI_0]; rfl) (by decide +kernel) (by decide +kernel) (by decide) (by rw [hR]; exact Nat.le_of_ble_eq_true rfl) (by rw [hR]; exact Nat.le_of_ble_eq_true rfl) dH_init_17 (fun q2 => ?_)
  obtain ⟨ad2, h2⟩ : ∃ z, z = tg_up ad1 2 0 q2 := ⟨_, rfl⟩
  rw [← h2]
  have r2 : ad2 0 0 = ad 0 0 := by rw [h2, tg_up_ne _ _ (fun z => absurd z.1 (by decide)), r1]
  refine tg_st (st' := [.ref q2, .ref (ad2 0 0)]) (by rw [r2]) ?_
  refine tg_w (tg_cm _ _ _ (fun z => absurd z.1 (by decide))) ?_
  refine tg_putF (k := 0) (i := 0) (T := TH) (N := 4) (ty := .array .int) hx hb hts inH tyH tyH_ok nmH hown hK (Or.inl (Or.inl hk)) (tg_up_self _ _ _ _) rfl 1 (by decide) (hts _ wf_H_15) (fun _ z => z) rfl hname rfl (by decide +kernel) rfl rfl (Nat.le_of_ble_eq_true rfl) dH_init_19 ?_
  refine tg_w (tg_uu _ _ _ _ _) ?_
  refine tg_aload_n hx hb dH_init_22 rfl rfl ?_
  refine tg_new (C := "HangGraph$Sweep") (T := TS) (N := 9) (ci := 2) (fs := [.null, .int 0, .null, .int 0, .null, .int 0, .null, .int 0, .int 0]) hx hb 3 0 hts inS tyS tyS_ok hown (hts _ wk_H_19) (hts _ wz_S) (hts _ wn_S) hK rfl hg_dfS (by rw [hR]; exact Nat.le_of_ble_eq_true rfl) (by rw [hR]; exact Nat.le_of_ble_eq_true rfl) dH_init_23 (fun q3 => ?_)
  obtain ⟨ad3, h3⟩ : ∃ z, z = tg_up ad2 3 0 q3 := ⟨_, rfl⟩
  rw [← h3]
  have r3 : ad3 0 0 = ad 0 0 := by rw [h3, tg_up_ne _ _ (fun z => absurd z.1 (by decide)), r2]
  have e3 : q3 = ad3 3 0 := by rw [h3, tg_up_self]
  refine tg_st (st' := [.ref (ad3 3 0), .ref (ad 0 0)]) (by rw [e3]) ?_
  refine tg_dup hx hb dH_init_26 rfl ?_
  refine tg_callI (As := []) (rest := [.ref (ad3 3 0), .ref (ad 0 0)]) ⟨hx, hb, hml, hown, hts⟩ hK hN hMv (c_Sinit (Or.inr ⟨rfl, rfl⟩)) (cwI 0 hts (lg_N wc_S_init) rfl rfl rfl (hts _ wn_S) (hts _ wm_H_21) (hts _ wi_S_init) rfl ⟨by decide, by decide, rfl⟩ ⟨by rw [hR]; exact Nat.le_of_ble_eq_true rfl, by rw [hR]; exact Nat.le_of_ble_eq_true rfl⟩) rfl (Nat.le_of_ble_eq_true rfl) ⟨by rw [hR]; exact Nat.le_of_ble_eq_true rfl, by rw [hR]; exact Nat.le_of_ble_eq_true rfl⟩ rfl dH_init_27 ?_
  intro r1 ad8 ok8 w8 ⟨hr8, q4, q5, q6, q7, ha8, ho8, hw8⟩
  subst hr8
  subst ho8
  subst hw8
  have r8 : ad8 0 0 = ad 0 0 := by rw [ha8, tg_up_ne _ _ (fun z => absurd z.1 (by decide)), tg_up_ne _ _ (fun z => absurd z.1 (by decide)), tg_up_ne _ _ (fun z => absurd z.1 (by decide)), tg_up_ne _ _ (fun z => absurd z.1 (by decide)), r3]
  refine tg_st (st' := [.ref (ad3 3 0), .ref (ad8 0 0)]) (by rw [r8]; rfl) ?_
  refine tg_putF (k := 0) (i := 0) (T := TH) (N := 4) (ty := .object "HangGraph$Sweep") hx hb hts inH tyH tyH_ok nmH hown hK (Or.inl (Or.inl (Or.inl (Or.inl (Or.inl (Or.inl (Or.inl hk))))))) (ci := 0) (fs := [.ref q1, .ref q2, .null, .int 0]) (by simp [tg_up]) rfl 2 (by decide) (hts _ wf_H_22) (fun _ z => z) rfl hname rfl (by decide +kernel) rfl rfl (Nat.le_of_ble_eq_true rfl) dH_init_30 ?_
  refine tg_aload_n hx hb dH_init_33 rfl rfl ?_
  refine tg_iconst (v := nI 0) hx hb dH_init_34 (by decide +kernel) ?_
  refine tg_st (st' := [.int (nI 0), .ref (ad8 0 0)]) (by rw [r8]) ?_
  refine tg_put (k := 0) (i := 0) (T := TH) (N := 4) (ty := .int) hx hb hts inH tyH tyH_ok nmH hown hK (Or.inl (Or.inl (Or.inl (Or.inl (Or.inl (Or.inl (Or.inl hk))))))) (tg_up_self _ _ _ _) rfl 3 (by decide) (hts _ wf_H_26) (fun _ z => z) rfl (by decide +kernel) rfl rfl (Nat.le_of_ble_eq_true rfl) dH_init_35 ?_
  refine tg_w (tg_uu _ _ _ _ _) ?_
  subst h1
  subst h2
  subst h3
  subst ha8
  refine tg_vret hx hb hlocks hr hQ ⟨rfl, fun k i hki => ?_, fun k i => ?_, fun k i hki => ?_⟩ dH_init_38
  · simp only [tg_up]
    repeat rw [if_neg (by omega)]
  · dsimp only
    constructor
    · intro z
      rcases z with ((((((z | z) | z) | z) | z) | z) | z) | z <;> first | exact Or.inl z | exact Or.inr (by omega)
    · intro z
      rcases z with z | z
      · exact Or.inl (Or.inl (Or.inl (Or.inl (Or.inl (Or.inl (Or.inl z))))))
      · have h : k = 1 ∨ k = 2 ∨ k = 3 ∨ k = 4 ∨ k = 5 ∨ k = 6 ∨ k = 7 := by omega
        rcases h with h | h | h | h | h | h | h <;> simp [h, z.2.2]
  · rcases hki with ⟨z, z2⟩ | z
    · subst z2
      have h : k = 0 ∨ k = 1 ∨ k = 2 ∨ k = 3 ∨ k = 4 ∨ k = 5 ∨ k = 6 ∨ k = 7 := by omega
      rcases h with h | h | h | h | h | h | h | h <;> subst h <;> simp [tg_up, hg_w, nI_0]
    · rw [hg_w_mu z, ← hw0 k i z]
      simp only [tg_up]
      repeat rw [if_neg (by omega)]
end HGK
