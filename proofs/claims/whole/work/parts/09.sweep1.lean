/-! the sweep's small writers -/
section HGS
variable {l : Launch} {D : va_G} {F : Nat → Prop} {Nn : State → Heap → Prop} {ad : Nat → Nat → Nat} {ok : Nat → Nat → Prop} {cF cI cZ cJ cA cB : ClassId} {G : Nat → Nat} {a : Nat → Nat → Option Nat} {dr : Nat → Int32} {N : Nat → Nat → Nat} {bc : Nat → Int32} {sp : Nat → Nat → Int32} {μ : Nat → Nat → va_E} {T : Nat → Prop}
set_option maxRecDepth 100000 in
set_option maxHeartbeats 4000000 in
/-- one more is hit -/
theorem c_addHit (hO : hg_ok ok) (hT : ∀ f, T f → ok 8 f ∧ ok 9 f) (f : Nat) (hf : T f) (hc : G 2 < 400) : tg_Met l yS_addHit wsS_addHit ({ frames := 0, cells := 0, slots := 0, locals := 0 }) D vwCl (hg_tys cI cF cZ cJ cA cB) F Nn ad ok (hg_w ad cF cI G a dr N bc sp μ) [.ref (ad 3 0), .ref (ad 8 f)] (tg_po ad ok fun r w1 => r = none ∧ w1 = hg_w ad cF cI (va_up G 2 (G 2 + 1)) (va_up a 2 (va_up (a 2) (G 2) (some (ad 8 f)))) dr (tg_up N 8 f 1) bc sp μ) := by
  refine tg_start (cc := cS_addHit) (maxL := 2) (ret := none) (by decide) rfl (Nat.le_of_ble_eq_true rfl) ?_
  intro p e R s m args below meth c Q hx hb hml hr hlocks hown hname hts hK hN hR hQ
  have hown : s.vm.findClass "HangGraph$Sweep" = some m.cls := hown
  have hts : ∀ w ∈ lw_g, w.before args s = true := fun w z => hts w (List.mem_cons_of_mem _ z)
  refine tg_aload_n hx hb dS_addHit_0 rfl rfl ?_
  refine tg_iconst (v := nI 1) hx hb dS_addHit_1 (by decide +kernel) ?_
  refine tg_put (T := TF) (N := 15) (ty := .boolean) hx hb hts inF tyF tyF_ok nmF hown hK (hT f hf).1 rfl rfl 8 (by decide) (hts _ wf_S_62) (fun _ z => z) rfl (by decide +kernel) (by decide +kernel) (by decide +kernel) (Nat.le_of_ble_eq_true rfl) dS_addHit_2 ?_
  refine tg_w (hg_w_N8 f 1) ?_
  refine tg_aload_n hx hb dS_addHit_5 rfl rfl ?_
  refine tg_get (T := TS) (N := 9) hx hb hts inS hown hK (hO.1 3 (by decide)) rfl rfl 2 (by decide) (hts _ wf_S_17) (fun _ z => z) rfl dS_addHit_6 ?_
  refine tg_aload_n hx hb dS_addHit_9 rfl rfl ?_
  refine tg_get (T := TS) (N := 9) hx hb hts inS hown hK (hO.1 3 (by decide)) rfl rfl 3 (by decide) (hts _ wf_S_30) (fun _ z => z) rfl dS_addHit_10 ?_
  refine tg_aload_n hx hb dS_addHit_13 rfl rfl ?_
  refine tg_aast (t0 := 1) hx hb hK (hO.1 5 (by decide)) rfl rfl (hT f hf).1 rfl rfl (x := G 2) (by decide) (by omega) dS_addHit_14 ?_
  refine tg_wp (hg_w_a2 hO (G 2) (some (ad 8 f))) ?_
  refine tg_aload_n hx hb dS_addHit_15 rfl rfl ?_
  refine tg_dup hx hb dS_addHit_16 rfl ?_
  refine tg_get (T := TS) (N := 9) hx hb hts inS hown hK (hO.1 3 (by decide)) rfl rfl 3 (by decide) (hts _ wf_S_30) (fun _ z => z) rfl dS_addHit_17 ?_
  refine tg_iconst (v := nI 1) hx hb dS_addHit_20 (by decide +kernel) ?_
  refine tg_iadd hx hb dS_addHit_21 ?_
  refine tg_top (y := nI ((G 2) + (1))) (nI_add _ _) ?_
  refine tg_put (T := TS) (N := 9) (ty := .int) hx hb hts inS tyS tyS_ok nmS hown hK (hO.1 3 (by decide)) rfl rfl 3 (by decide) (hts _ wf_S_30) (fun _ z => z) rfl (by decide +kernel) rfl rfl (Nat.le_of_ble_eq_true rfl) dS_addHit_22 ?_
  refine tg_wp (hg_w_G2 hO ((G 2) + (1))) ?_
  exact tg_vret hx hb hlocks hr hQ ⟨rfl, rfl, rfl, rfl⟩ dS_addHit_25
set_option maxRecDepth 100000 in
set_option maxHeartbeats 4000000 in
/-- the walk comes to f -/
theorem c_enter (hO : hg_ok ok) (hT : ∀ f, T f → ok 8 f ∧ ok 9 f) (f : Nat) (hf : T f) (hp : G 3 < 400) (ho : G 4 < 400) : tg_Met l yS_enter wsS_enter ({ frames := 0, cells := 0, slots := 0, locals := 0 }) D vwCl (hg_tys cI cF cZ cJ cA cB) F Nn ad ok (hg_w ad cF cI G a dr N bc sp μ) [.ref (ad 3 0), .ref (ad 8 f)] (tg_po ad ok fun r w1 => r = none ∧ w1 = hg_w ad cF cI (va_up (va_up (va_up G 5 (G 5 + 1)) 3 (G 3 + 1)) 4 (G 4 + 1)) (va_up (va_up a 3 (va_up (a 3) (G 3) (some (ad 8 f)))) 4 (va_up (a 4) (G 4) (some (ad 8 f)))) dr (tg_up (tg_up N 11 f (G 5 + 1)) 12 f (G 5 + 1)) bc sp μ) := by
  refine tg_start (cc := cS_enter) (maxL := 2) (ret := none) (by decide) rfl (Nat.le_of_ble_eq_true rfl) ?_
  intro p e R s m args below meth c Q hx hb hml hr hlocks hown hname hts hK hN hR hQ
  have hown : s.vm.findClass "HangGraph$Sweep" = some m.cls := hown
  have hts : ∀ w ∈ lw_g, w.before args s = true := fun w z => hts w (List.mem_cons_of_mem _ z)
  refine tg_aload_n hx hb dS_enter_0 rfl rfl ?_
  refine tg_dup hx hb dS_enter_1 rfl ?_
  refine tg_get (T := TS) (N := 9) hx hb hts inS hown hK (hO.1 3 (by decide)) rfl rfl 8 (by decide) (hts _ wf_S_39) (fun _ z => z) rfl dS_enter_2 ?_
  refine tg_iconst (v := nI 1) hx hb dS_enter_5 (by decide +kernel) ?_
  refine tg_iadd hx hb dS_enter_6 ?_
  refine tg_top (y := nI ((G 5) + (1))) (nI_add _ _) ?_
  refine tg_put (T := TS) (N := 9) (ty := .int) hx hb hts inS tyS tyS_ok nmS hown hK (hO.1 3 (by decide)) rfl rfl 8 (by decide) (hts _ wf_S_39) (fun _ z => z) rfl (by decide +kernel) rfl rfl (Nat.le_of_ble_eq_true rfl) dS_enter_7 ?_
  refine tg_wp (hg_w_G5 hO ((G 5) + (1))) ?_
  refine tg_aload_n hx hb dS_enter_10 rfl rfl ?_
  refine tg_aload_n hx hb dS_enter_11 rfl rfl ?_
  refine tg_get (T := TS) (N := 9) hx hb hts inS hown hK (hO.1 3 (by decide)) rfl rfl 8 (by decide) (hts _ wf_S_39) (fun _ z => z) rfl dS_enter_12 ?_
  refine tg_top (y := nI ((G 5) + (1))) (by simp [va_up]) ?_
  refine tg_put (T := TF) (N := 15) (ty := .int) hx hb hts inF tyF tyF_ok nmF hown hK (hT f hf).1 rfl rfl 11 (by decide) (hts _ wf_S_86) (fun _ z => z) rfl (by decide +kernel) rfl rfl (Nat.le_of_ble_eq_true rfl) dS_enter_15 ?_
  refine tg_w (hg_w_N11 f ((G 5) + (1))) ?_
  refine tg_aload_n hx hb dS_enter_18 rfl rfl ?_
  refine tg_aload_n hx hb dS_enter_19 rfl rfl ?_
  refine tg_get (T := TS) (N := 9) hx hb hts inS hown hK (hO.1 3 (by decide)) rfl rfl 8 (by decide) (hts _ wf_S_39) (fun _ z => z) rfl dS_enter_20 ?_
  refine tg_top (y := nI ((G 5) + (1))) (by simp [va_up]) ?_
  refine tg_put (T := TF) (N := 15) (ty := .int) hx hb hts inF tyF tyF_ok nmF hown hK (hT f hf).1 rfl rfl 12 (by decide) (hts _ wf_S_89) (fun _ z => z) rfl (by decide +kernel) rfl rfl (Nat.le_of_ble_eq_true rfl) dS_enter_23 ?_
  refine tg_w (hg_w_N12 f ((G 5) + (1))) ?_
  refine tg_aload_n hx hb dS_enter_26 rfl rfl ?_
  refine tg_get (T := TS) (N := 9) hx hb hts inS hown hK (hO.1 3 (by decide)) rfl rfl 4 (by decide) (hts _ wf_S_20) (fun _ z => z) rfl dS_enter_27 ?_
  refine tg_aload_n hx hb dS_enter_30 rfl rfl ?_
  refine tg_get (T := TS) (N := 9) hx hb hts inS hown hK (hO.1 3 (by decide)) rfl rfl 5 (by decide) (hts _ wf_S_33) (fun _ z => z) rfl dS_enter_31 ?_
  refine tg_top (y := nI (G 3)) (by simp [va_up]) ?_
  refine tg_aload_n hx hb dS_enter_34 rfl rfl ?_
  refine tg_aast (t0 := 1) hx hb hK (hO.1 6 (by decide)) rfl rfl (hT f hf).1 rfl rfl (x := G 3) (by decide) (by omega) dS_enter_35 ?_
  refine tg_wp (hg_w_a3 hO (G 3) (some (ad 8 f))) ?_
  refine tg_aload_n hx hb dS_enter_36 rfl rfl ?_
  refine tg_dup hx hb dS_enter_37 rfl ?_
  refine tg_get (T := TS) (N := 9) hx hb hts inS hown hK (hO.1 3 (by decide)) rfl rfl 5 (by decide) (hts _ wf_S_33) (fun _ z => z) rfl dS_enter_38 ?_
  refine tg_top (y := nI (G 3)) (by simp [va_up]) ?_
  refine tg_iconst (v := nI 1) hx hb dS_enter_41 (by decide +kernel) ?_
  refine tg_iadd hx hb dS_enter_42 ?_
  refine tg_top (y := nI ((G 3) + (1))) (nI_add _ _) ?_
  refine tg_put (T := TS) (N := 9) (ty := .int) hx hb hts inS tyS tyS_ok nmS hown hK (hO.1 3 (by decide)) rfl rfl 5 (by decide) (hts _ wf_S_33) (fun _ z => z) rfl (by decide +kernel) rfl rfl (Nat.le_of_ble_eq_true rfl) dS_enter_43 ?_
  refine tg_wp (hg_w_G3 hO ((G 3) + (1))) ?_
  refine tg_aload_n hx hb dS_enter_46 rfl rfl ?_
  refine tg_get (T := TS) (N := 9) hx hb hts inS hown hK (hO.1 3 (by decide)) rfl rfl 6 (by decide) (hts _ wf_S_23) (fun _ z => z) rfl dS_enter_47 ?_
  refine tg_aload_n hx hb dS_enter_50 rfl rfl ?_
  refine tg_get (T := TS) (N := 9) hx hb hts inS hown hK (hO.1 3 (by decide)) rfl rfl 7 (by decide) (hts _ wf_S_36) (fun _ z => z) rfl dS_enter_51 ?_
  refine tg_top (y := nI (G 4)) (by simp [va_up]) ?_
  refine tg_aload_n hx hb dS_enter_54 rfl rfl ?_
  refine tg_aast (t0 := 1) hx hb hK (hO.1 7 (by decide)) rfl rfl (hT f hf).1 rfl rfl (x := G 4) (by decide) (by omega) dS_enter_55 ?_
  refine tg_wp (hg_w_a4 hO (G 4) (some (ad 8 f))) ?_
  refine tg_aload_n hx hb dS_enter_56 rfl rfl ?_
  refine tg_dup hx hb dS_enter_57 rfl ?_
  refine tg_get (T := TS) (N := 9) hx hb hts inS hown hK (hO.1 3 (by decide)) rfl rfl 7 (by decide) (hts _ wf_S_36) (fun _ z => z) rfl dS_enter_58 ?_
  refine tg_top (y := nI (G 4)) (by simp [va_up]) ?_
  refine tg_iconst (v := nI 1) hx hb dS_enter_61 (by decide +kernel) ?_
  refine tg_iadd hx hb dS_enter_62 ?_
  refine tg_top (y := nI ((G 4) + (1))) (nI_add _ _) ?_
  refine tg_put (T := TS) (N := 9) (ty := .int) hx hb hts inS tyS tyS_ok nmS hown hK (hO.1 3 (by decide)) rfl rfl 7 (by decide) (hts _ wf_S_36) (fun _ z => z) rfl (by decide +kernel) rfl rfl (Nat.le_of_ble_eq_true rfl) dS_enter_63 ?_
  refine tg_wp (hg_w_G4 hO ((G 4) + (1))) ?_
  exact tg_vret hx hb hlocks hr hQ ⟨rfl, rfl, rfl, rfl⟩ dS_enter_66
end HGS
