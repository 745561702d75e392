/-! the face -/
def hg_tv (N : Nat → Nat → Nat) (f q : Nat) : Nat := if q = 0 then (if N 8 f = 0 then 0 else 1) else if q = 1 then (if N 9 f = 0 then 0 else 1) else N 10 f
section HGC
variable {l : Launch} {D : va_G} {F : Nat → Prop} {Nn : State → Heap → Prop} {ad : Nat → Nat → Nat} {ok : Nat → Nat → Prop} {cF cI cZ cJ cA cB : ClassId} {G : Nat → Nat} {a : Nat → Nat → Option Nat} {dr : Nat → Int32} {N : Nat → Nat → Nat} {bc : Nat → Int32} {sp : Nat → Nat → Int32} {μ : Nat → Nat → va_E} {T : Nat → Prop} {w : Nat → Nat → va_E}
set_option maxRecDepth 100000 in
set_option maxHeartbeats 4000000 in
/-- the formula of this name -/
theorem c_formulaNamed (hO : hg_ok ok) (hT : ∀ f, T f → ok 8 f ∧ ok 9 f) (hMv : tg_Mv F Nn) (hB : ∀ j u, N j u < 1000000) (x y : Nat) (hx9 : x < 20) (hy9 : y < 20) (f : Nat) (hf : T f) (ho : a 0 (20 * x + y) = some (ad 8 f)) (h0 : N 0 f = 20 * x + y) : tg_Met l yH_formulaNamed wsH_formulaNamed ({ frames := 1, cells := 0, slots := 0, locals := 40 }) D vwCl (hg_tys cI cF cZ cJ cA cB) F Nn ad ok (hg_w ad cF cI G a dr N bc sp μ) [.ref (ad 0 0), .int (nI (x)), .int (nI (y))] (tg_po ad ok fun r w1 => r = some (.ref (ad 8 f)) ∧ w1 = (hg_w ad cF cI G a dr N bc sp μ)) := by
  refine tg_start (cc := cH_formulaNamed) (maxL := 5) (ret := some (.object "HangGraph$Formula")) (by decide) rfl (Nat.le_of_ble_eq_true rfl) ?_
  intro p e R s m args below meth c Q hx hb hml hr hlocks hown hname hts hK hN hR hQ
  have hown : s.vm.findClass "HangGraph" = some m.cls := hown
  have hts : ∀ w ∈ lw_g, w.before args s = true := fun w z => hts w (List.mem_cons_of_mem _ z)
  refine tg_iload_n hx hb dH_formulaNamed_0 rfl rfl ?_
  refine tg_iload_n hx hb dH_formulaNamed_1 rfl rfl ?_
  refine tg_callS (As := [.int (nI (x)), .int (nI (y))]) (rest := []) ⟨hx, hb, hml, hown, hts⟩ hK hN hMv (c_cellAt x y) (va_cwS 2 hts (lg_S wm_H_106 wt_H_cellAt wn_H wc_H_cellAt) rfl rfl rfl ⟨by decide, by decide, rfl⟩ ⟨by rw [hR]; exact Nat.le_of_ble_eq_true rfl, by rw [hR]; exact Nat.le_of_ble_eq_true rfl⟩) rfl (Nat.le_of_ble_eq_true rfl) ⟨by rw [hR]; exact Nat.le_of_ble_eq_true rfl, by rw [hR]; exact Nat.le_of_ble_eq_true rfl⟩ rfl dH_formulaNamed_2 (tg_kv rfl rfl ?_)
  refine tg_istore_n (L' := [(0, .ref (ad 0 0)), (1, .int (nI (x))), (2, .int (nI (y))), (3, .int (nI (20 * x + y)))]) hx hb dH_formulaNamed_5 rfl (by decide) rfl rfl ?_
  refine tg_aload_n hx hb dH_formulaNamed_6 rfl rfl ?_
  refine tg_get (T := TH) (N := 4) hx hb hts inH hown hK (hO.1 0 (by decide)) rfl rfl 0 (by decide) (hts _ wf_H_11) (fun _ z => z) rfl dH_formulaNamed_7 ?_
  refine tg_iload_n hx hb dH_formulaNamed_10 rfl rfl ?_
  refine tg_aald (t0 := 1) hx hb hK (hO.1 1 (by decide)) rfl rfl (x := 20 * x + y) (by decide) (by omega) dH_formulaNamed_11 ?_
  refine tg_st (st' := .ref (ad 8 f) :: []) (by rw [ho]; rfl) ?_
  refine tg_astore (L' := [(0, .ref (ad 0 0)), (1, .int (nI (x))), (2, .int (nI (y))), (3, .int (nI (20 * x + y))), (4, .ref (ad 8 f))]) hx hb dH_formulaNamed_12 (by decide) rfl rfl ?_
  refine tg_aload hx hb dH_formulaNamed_14 rfl ?_
  refine tg_ifnull hx hb dH_formulaNamed_16 ?_
  refine tg_aload hx hb dH_formulaNamed_19 rfl ?_
  refine tg_get (T := TF) (N := 15) hx hb hts inF hown hK (hT f hf).1 rfl rfl 0 (by decide) (hts _ wf_H_109) (fun _ z => z) rfl dH_formulaNamed_21 ?_
  have hb_1 := hB 0 f
  refine tg_iload_n hx hb dH_formulaNamed_24 rfl rfl ?_
  refine tg_icmp_eq (tgt := 38) hx hb dH_formulaNamed_25 (by decide) (fun q_2 => ?_) (fun q_2 => ?_)
  · have q_2' := q_2
    have h_3 : N 0 f = 20 * x + y := (nI_eq (by omega) (by omega)).mp q_2
    refine tg_aload hx hb dH_formulaNamed_38 rfl ?_
    exact tg_aret hx hb hlocks hr hQ (Or.inr ⟨_, rfl⟩) ⟨rfl, rfl, rfl, rfl⟩ dH_formulaNamed_40
  · have q_2' := q_2
    have h_4 : N 0 f ≠ 20 * x + y := fun z => q_2 ((nI_eq (by omega) (by omega)).mpr z)
    omega
/-- no formula has the first cell k -/
def hg_un (T : Nat → Prop) (ad : Nat → Nat → Nat) (a : Nat → Nat → Option Nat) (N : Nat → Nat → Nat) (k : Nat) : Prop := a 0 k = none ∨ ∃ f, T f ∧ a 0 k = some (ad 8 f) ∧ N 0 f ≠ k
set_option maxRecDepth 100000 in
set_option maxHeartbeats 4000000 in
/-- no formula of this name -/
theorem t_formulaNamed (hl9 : l.stackTraces = false) (hO : hg_ok ok) (hT : ∀ f, T f → ok 8 f ∧ ok 9 f) (hB : ∀ j u, N j u < 1000000) (x y : Nat) (hx9 : x < 20) (hy9 : y < 20) (hbad : hg_un T ad a N (20 * x + y)) : tg_MetT l yH_formulaNamed wsH_formulaNamed ({ frames := 6, cells := 1, slots := 6, locals := 90 }) D vwCl (hg_tys cI cF cZ cJ cA cB) F (hg_N F) ad ok (hg_w ad cF cI G a dr N bc sp μ) [.ref (ad 0 0), .int (nI (x)), .int (nI (y))] "java/util/NoSuchElementException" := by
  refine tg_startT (cc := cH_formulaNamed) (maxL := 5) (ret := some (.object "HangGraph$Formula")) (by decide) rfl (Nat.le_of_ble_eq_true rfl) ?_
  intro p e R s m args below meth c Q hx hb hml hr hlocks hown hts hK hN hnt hR hQ
  have hown : s.vm.findClass "HangGraph" = some m.cls := hown
  have hts : ∀ w ∈ lw_g, w.before args s = true := fun w z => hts w (List.mem_cons_of_mem _ z)
  have hMv := hg_Mv F
  refine tg_iload_n hx hb dH_formulaNamed_0 rfl rfl ?_
  refine tg_iload_n hx hb dH_formulaNamed_1 rfl rfl ?_
  refine tg_callS (As := [.int (nI (x)), .int (nI (y))]) (rest := []) ⟨hx, hb, hml, hown, hts⟩ hK hN hMv (c_cellAt x y) (va_cwS 2 hts (lg_S wm_H_106 wt_H_cellAt wn_H wc_H_cellAt) rfl rfl rfl ⟨by decide, by decide, rfl⟩ ⟨by rw [hR]; exact Nat.le_of_ble_eq_true rfl, by rw [hR]; exact Nat.le_of_ble_eq_true rfl⟩) rfl (Nat.le_of_ble_eq_true rfl) ⟨by rw [hR]; exact Nat.le_of_ble_eq_true rfl, by rw [hR]; exact Nat.le_of_ble_eq_true rfl⟩ rfl dH_formulaNamed_2 (tg_kv rfl rfl ?_)
  refine tg_istore_n (L' := [(0, .ref (ad 0 0)), (1, .int (nI (x))), (2, .int (nI (y))), (3, .int (nI (20 * x + y)))]) hx hb dH_formulaNamed_5 rfl (by decide) rfl rfl ?_
  refine tg_aload_n hx hb dH_formulaNamed_6 rfl rfl ?_
  refine tg_get (T := TH) (N := 4) hx hb hts inH hown hK (hO.1 0 (by decide)) rfl rfl 0 (by decide) (hts _ wf_H_11) (fun _ z => z) rfl dH_formulaNamed_7 ?_
  refine tg_iload_n hx hb dH_formulaNamed_10 rfl rfl ?_
  refine tg_aald (t0 := 1) hx hb hK (hO.1 1 (by decide)) rfl rfl (x := 20 * x + y) (by decide) (by omega) dH_formulaNamed_11 ?_
  rcases hbad with ho1 | ⟨f, hfT, ho1, hne⟩
  · refine tg_st (st' := [.null]) (by rw [ho1]; rfl) ?_
    refine tg_astoreN (L' := [(0, .ref (ad 0 0)), (1, .int (nI (x))), (2, .int (nI (y))), (3, .int (nI (20 * x + y))), (4, .null)]) hx hb dH_formulaNamed_12 (by decide) rfl rfl ?_
    refine tg_aloadN hx hb dH_formulaNamed_14 rfl ?_
    refine tg_ifnullN (tgt := 28) hx hb dH_formulaNamed_16 (by decide) ?_
    exact tg_throwN hx hb hml hl9 hown hts hN wk_H_123 wn_java_util_NoSuchElementException (show ((125, "no formula has this first cell") : Nat × String) ∈ hg_strs by decide) hnt hlocks hQ dH_formulaNamed_28 dH_formulaNamed_31 dH_formulaNamed_32 dH_formulaNamed_34 dH_formulaNamed_37 (by rw [hR]; exact Nat.le_of_ble_eq_true rfl) (by rw [hR]; exact Nat.le_of_ble_eq_true rfl) (by rw [hR]; exact Nat.le_of_ble_eq_true rfl) (by rw [hR]; exact Nat.le_of_ble_eq_true rfl) (Nat.le_of_ble_eq_true rfl) (Nat.le_of_ble_eq_true rfl)
  · refine tg_st (st' := [.ref (ad 8 f)]) (by rw [ho1]; rfl) ?_
    refine tg_astore (L' := [(0, .ref (ad 0 0)), (1, .int (nI (x))), (2, .int (nI (y))), (3, .int (nI (20 * x + y))), (4, .ref (ad 8 f))]) hx hb dH_formulaNamed_12 (by decide) rfl rfl ?_
    refine tg_aload hx hb dH_formulaNamed_14 rfl ?_
    refine tg_ifnull hx hb dH_formulaNamed_16 ?_
    refine tg_aload hx hb dH_formulaNamed_19 rfl ?_
    refine tg_get (T := TF) (N := 15) hx hb hts inF hown hK (hT f hfT).1 rfl rfl 0 (by decide) (hts _ wf_H_109) (fun _ z => z) rfl dH_formulaNamed_21 ?_
    have hb_1 := hB 0 f
    refine tg_iload_n hx hb dH_formulaNamed_24 rfl rfl ?_
    refine tg_icmp_eq (tgt := 38) hx hb dH_formulaNamed_25 (by decide) (fun q_2 => ?_) (fun q_2 => ?_)
    · have q_2' := q_2
      have h_3 : N 0 f = 20 * x + y := (nI_eq (by omega) (by omega)).mp q_2
      omega
    · have q_2' := q_2
      have h_4 : N 0 f ≠ 20 * x + y := fun z => q_2 ((nI_eq (by omega) (by omega)).mpr z)
      exact tg_throwN hx hb hml hl9 hown hts hN wk_H_123 wn_java_util_NoSuchElementException (show ((125, "no formula has this first cell") : Nat × String) ∈ hg_strs by decide) hnt hlocks hQ dH_formulaNamed_28 dH_formulaNamed_31 dH_formulaNamed_32 dH_formulaNamed_34 dH_formulaNamed_37 (by rw [hR]; exact Nat.le_of_ble_eq_true rfl) (by rw [hR]; exact Nat.le_of_ble_eq_true rfl) (by rw [hR]; exact Nat.le_of_ble_eq_true rfl) (by rw [hR]; exact Nat.le_of_ble_eq_true rfl) (Nat.le_of_ble_eq_true rfl) (Nat.le_of_ble_eq_true rfl)
set_option maxRecDepth 100000 in
set_option maxHeartbeats 4000000 in
/-- one more cell is dirty -/
theorem c_touch (hO : hg_ok ok) (hMv : tg_Mv F Nn) (x y : Nat) (hx9 : x < 20) (hy9 : y < 20) : tg_Met l yH_touch wsH_touch ({ frames := 1, cells := 0, slots := 0, locals := 40 }) D vwCl (hg_tys cI cF cZ cJ cA cB) F Nn ad ok (hg_w ad cF cI G a dr N bc sp μ) [.ref (ad 0 0), .int (nI (x)), .int (nI (y))] (tg_po ad ok fun r w1 => r = none ∧ w1 = (hg_w ad cF cI G a (upd dr x ((dr x) ||| (hg_cb y y))) N bc sp μ)) := by
  refine tg_start (cc := cH_touch) (maxL := 3) (ret := none) (by decide) rfl (Nat.le_of_ble_eq_true rfl) ?_
  intro p e R s m args below meth c Q hx hb hml hr hlocks hown hname hts hK hN hR hQ
  have hown : s.vm.findClass "HangGraph" = some m.cls := hown
  have hts : ∀ w ∈ lw_g, w.before args s = true := fun w z => hts w (List.mem_cons_of_mem _ z)
  refine tg_iload_n hx hb dH_touch_0 rfl rfl ?_
  refine tg_iload_n hx hb dH_touch_1 rfl rfl ?_
  refine tg_callS (As := [.int (nI (x)), .int (nI (y))]) (rest := []) ⟨hx, hb, hml, hown, hts⟩ hK hN hMv (c_requireCell x y hx9 hy9) (va_cwS 2 hts (lg_S wm_H_30 wt_H_requireCell wn_H wc_H_requireCell) rfl rfl rfl ⟨by decide, by decide, rfl⟩ ⟨by rw [hR]; exact Nat.le_of_ble_eq_true rfl, by rw [hR]; exact Nat.le_of_ble_eq_true rfl⟩) rfl (Nat.le_of_ble_eq_true rfl) ⟨by rw [hR]; exact Nat.le_of_ble_eq_true rfl, by rw [hR]; exact Nat.le_of_ble_eq_true rfl⟩ rfl dH_touch_2 (tg_kn rfl rfl ?_)
  refine tg_aload_n hx hb dH_touch_5 rfl rfl ?_
  refine tg_get (T := TH) (N := 4) hx hb hts inH hown hK (hO.1 0 (by decide)) rfl rfl 1 (by decide) (hts _ wf_H_15) (fun _ z => z) rfl dH_touch_6 ?_
  refine tg_iload_n hx hb dH_touch_9 rfl rfl ?_
  refine tg_dup2 hx hb dH_touch_10 rfl rfl ?_
  refine tg_iald (t0 := 0) hx hb hK (hO.1 2 (by decide)) rfl rfl (x := x) (by decide) (by omega) dH_touch_11 ?_
  refine tg_iload_n hx hb dH_touch_12 rfl rfl ?_
  refine tg_iload_n hx hb dH_touch_13 rfl rfl ?_
  refine tg_callS (As := [.int (nI (y)), .int (nI (y))]) (rest := [.int (dr (x)), .int (nI (x)), .ref (ad 2 0)]) ⟨hx, hb, hml, hown, hts⟩ hK hN hMv (c_columnBits y y (Nat.le_refl _) hy9) (va_cwS 2 hts (lg_S wm_H_67 wt_H_columnBits wn_H wc_H_columnBits) rfl rfl rfl ⟨by decide, by decide, rfl⟩ ⟨by rw [hR]; exact Nat.le_of_ble_eq_true rfl, by rw [hR]; exact Nat.le_of_ble_eq_true rfl⟩) rfl (Nat.le_of_ble_eq_true rfl) ⟨by rw [hR]; exact Nat.le_of_ble_eq_true rfl, by rw [hR]; exact Nat.le_of_ble_eq_true rfl⟩ rfl dH_touch_14 (tg_kv rfl rfl ?_)
  refine tg_ior hx hb dH_touch_17 ?_
  refine tg_iast (t0 := 0) hx hb hK (hO.1 2 (by decide)) rfl rfl (x := x) (v := (dr (x)) ||| (hg_cb y y)) (by decide) (by omega) dH_touch_18 ?_
  refine tg_wp (hg_w_dr hO x ((dr (x)) ||| (hg_cb y y))) ?_
  exact tg_vret hx hb hlocks hr hQ ⟨rfl, rfl, rfl, rfl⟩ dH_touch_19
set_option maxRecDepth 100000 in
set_option maxHeartbeats 4000000 in
/-- a cell of no block -/
theorem c_owner0 (hO : hg_ok ok) (hMv : tg_Mv F Nn) (x y : Nat) (hx9 : x < 20) (hy9 : y < 20) (ho : a 0 (20 * x + y) = none) : tg_Met l yH_owner wsH_owner ({ frames := 1, cells := 0, slots := 0, locals := 40 }) D vwCl (hg_tys cI cF cZ cJ cA cB) F Nn ad ok (hg_w ad cF cI G a dr N bc sp μ) [.ref (ad 0 0), .int (nI (x)), .int (nI (y))] (tg_po ad ok fun r w1 => r = some (.int (-1)) ∧ w1 = (hg_w ad cF cI G a dr N bc sp μ)) := by
  refine tg_start (cc := cH_owner) (maxL := 4) (ret := some .int) (by decide) rfl (Nat.le_of_ble_eq_true rfl) ?_
  intro p e R s m args below meth c Q hx hb hml hr hlocks hown hname hts hK hN hR hQ
  have hown : s.vm.findClass "HangGraph" = some m.cls := hown
  have hts : ∀ w ∈ lw_g, w.before args s = true := fun w z => hts w (List.mem_cons_of_mem _ z)
  refine tg_iload_n hx hb dH_owner_0 rfl rfl ?_
  refine tg_iload_n hx hb dH_owner_1 rfl rfl ?_
  refine tg_callS (As := [.int (nI (x)), .int (nI (y))]) (rest := []) ⟨hx, hb, hml, hown, hts⟩ hK hN hMv (c_requireCell x y hx9 hy9) (va_cwS 2 hts (lg_S wm_H_30 wt_H_requireCell wn_H wc_H_requireCell) rfl rfl rfl ⟨by decide, by decide, rfl⟩ ⟨by rw [hR]; exact Nat.le_of_ble_eq_true rfl, by rw [hR]; exact Nat.le_of_ble_eq_true rfl⟩) rfl (Nat.le_of_ble_eq_true rfl) ⟨by rw [hR]; exact Nat.le_of_ble_eq_true rfl, by rw [hR]; exact Nat.le_of_ble_eq_true rfl⟩ rfl dH_owner_2 (tg_kn rfl rfl ?_)
  refine tg_aload_n hx hb dH_owner_5 rfl rfl ?_
  refine tg_get (T := TH) (N := 4) hx hb hts inH hown hK (hO.1 0 (by decide)) rfl rfl 0 (by decide) (hts _ wf_H_11) (fun _ z => z) rfl dH_owner_6 ?_
  refine tg_iload_n hx hb dH_owner_9 rfl rfl ?_
  refine tg_iload_n hx hb dH_owner_10 rfl rfl ?_
  refine tg_callS (As := [.int (nI (x)), .int (nI (y))]) (rest := [.ref (ad 1 0)]) ⟨hx, hb, hml, hown, hts⟩ hK hN hMv (c_cellAt x y) (va_cwS 2 hts (lg_S wm_H_106 wt_H_cellAt wn_H wc_H_cellAt) rfl rfl rfl ⟨by decide, by decide, rfl⟩ ⟨by rw [hR]; exact Nat.le_of_ble_eq_true rfl, by rw [hR]; exact Nat.le_of_ble_eq_true rfl⟩) rfl (Nat.le_of_ble_eq_true rfl) ⟨by rw [hR]; exact Nat.le_of_ble_eq_true rfl, by rw [hR]; exact Nat.le_of_ble_eq_true rfl⟩ rfl dH_owner_11 (tg_kv rfl rfl ?_)
  refine tg_aald (t0 := 1) hx hb hK (hO.1 1 (by decide)) rfl rfl (x := 20 * x + y) (by decide) (by omega) dH_owner_14 ?_
  refine tg_st (st' := .null :: []) (by rw [ho]; rfl) ?_
  refine tg_astore_nN (L' := [(0, .ref (ad 0 0)), (1, .int (nI (x))), (2, .int (nI (y))), (3, .null)]) hx hb dH_owner_15 rfl (by decide) rfl rfl ?_
  refine tg_aload_nN hx hb dH_owner_16 rfl rfl ?_
  refine tg_ifnonnullN hx hb dH_owner_17 ?_
  refine tg_iconst (v := (-1 : Int32)) hx hb dH_owner_20 (by decide +kernel) ?_
  refine tg_goto (tgt := 28) hx hb dH_owner_21 (by decide) ?_
  exact tg_iret hx hb hlocks hr hQ ⟨rfl, rfl, rfl, rfl⟩ dH_owner_28
set_option maxRecDepth 100000 in
set_option maxHeartbeats 4000000 in
/-- a cell of f's block -/
theorem c_owner1 (hO : hg_ok ok) (hT : ∀ f, T f → ok 8 f ∧ ok 9 f) (hMv : tg_Mv F Nn) (x y : Nat) (hx9 : x < 20) (hy9 : y < 20) (f : Nat) (hf : T f) (ho : a 0 (20 * x + y) = some (ad 8 f)) : tg_Met l yH_owner wsH_owner ({ frames := 1, cells := 0, slots := 0, locals := 40 }) D vwCl (hg_tys cI cF cZ cJ cA cB) F Nn ad ok (hg_w ad cF cI G a dr N bc sp μ) [.ref (ad 0 0), .int (nI (x)), .int (nI (y))] (tg_po ad ok fun r w1 => r = some (.int (nI (N 0 f))) ∧ w1 = (hg_w ad cF cI G a dr N bc sp μ)) := by
  refine tg_start (cc := cH_owner) (maxL := 4) (ret := some .int) (by decide) rfl (Nat.le_of_ble_eq_true rfl) ?_
  intro p e R s m args below meth c Q hx hb hml hr hlocks hown hname hts hK hN hR hQ
  have hown : s.vm.findClass "HangGraph" = some m.cls := hown
  have hts : ∀ w ∈ lw_g, w.before args s = true := fun w z => hts w (List.mem_cons_of_mem _ z)
  refine tg_iload_n hx hb dH_owner_0 rfl rfl ?_
  refine tg_iload_n hx hb dH_owner_1 rfl rfl ?_
  refine tg_callS (As := [.int (nI (x)), .int (nI (y))]) (rest := []) ⟨hx, hb, hml, hown, hts⟩ hK hN hMv (c_requireCell x y hx9 hy9) (va_cwS 2 hts (lg_S wm_H_30 wt_H_requireCell wn_H wc_H_requireCell) rfl rfl rfl ⟨by decide, by decide, rfl⟩ ⟨by rw [hR]; exact Nat.le_of_ble_eq_true rfl, by rw [hR]; exact Nat.le_of_ble_eq_true rfl⟩) rfl (Nat.le_of_ble_eq_true rfl) ⟨by rw [hR]; exact Nat.le_of_ble_eq_true rfl, by rw [hR]; exact Nat.le_of_ble_eq_true rfl⟩ rfl dH_owner_2 (tg_kn rfl rfl ?_)
  refine tg_aload_n hx hb dH_owner_5 rfl rfl ?_
  refine tg_get (T := TH) (N := 4) hx hb hts inH hown hK (hO.1 0 (by decide)) rfl rfl 0 (by decide) (hts _ wf_H_11) (fun _ z => z) rfl dH_owner_6 ?_
  refine tg_iload_n hx hb dH_owner_9 rfl rfl ?_
  refine tg_iload_n hx hb dH_owner_10 rfl rfl ?_
  refine tg_callS (As := [.int (nI (x)), .int (nI (y))]) (rest := [.ref (ad 1 0)]) ⟨hx, hb, hml, hown, hts⟩ hK hN hMv (c_cellAt x y) (va_cwS 2 hts (lg_S wm_H_106 wt_H_cellAt wn_H wc_H_cellAt) rfl rfl rfl ⟨by decide, by decide, rfl⟩ ⟨by rw [hR]; exact Nat.le_of_ble_eq_true rfl, by rw [hR]; exact Nat.le_of_ble_eq_true rfl⟩) rfl (Nat.le_of_ble_eq_true rfl) ⟨by rw [hR]; exact Nat.le_of_ble_eq_true rfl, by rw [hR]; exact Nat.le_of_ble_eq_true rfl⟩ rfl dH_owner_11 (tg_kv rfl rfl ?_)
  refine tg_aald (t0 := 1) hx hb hK (hO.1 1 (by decide)) rfl rfl (x := 20 * x + y) (by decide) (by omega) dH_owner_14 ?_
  refine tg_st (st' := .ref (ad 8 f) :: []) (by rw [ho]; rfl) ?_
  refine tg_astore_n (L' := [(0, .ref (ad 0 0)), (1, .int (nI (x))), (2, .int (nI (y))), (3, .ref (ad 8 f))]) hx hb dH_owner_15 rfl (by decide) rfl rfl ?_
  refine tg_aload_n hx hb dH_owner_16 rfl rfl ?_
  refine tg_ifnonnull (tgt := 24) hx hb dH_owner_17 (by decide) ?_
  refine tg_aload_n hx hb dH_owner_24 rfl rfl ?_
  refine tg_get (T := TF) (N := 15) hx hb hts inF hown hK (hT f hf).1 rfl rfl 0 (by decide) (hts _ wf_H_109) (fun _ z => z) rfl dH_owner_25 ?_
  exact tg_iret hx hb hlocks hr hQ ⟨rfl, rfl, rfl, rfl⟩ dH_owner_28
set_option maxRecDepth 100000 in
set_option maxHeartbeats 4000000 in
/-- what is told of f -/
theorem c_told (hO : hg_ok ok) (hT : ∀ f, T f → ok 8 f ∧ ok 9 f) (hMv : tg_Mv F Nn) (hB : ∀ j u, N j u < 1000000) (x y : Nat) (hx9 : x < 20) (hy9 : y < 20) (f : Nat) (hf : T f) (ho : a 0 (20 * x + y) = some (ad 8 f)) (h0 : N 0 f = 20 * x + y) (q : Nat) (hq : q ≤ 2) : tg_Met l yH_told wsH_told ({ frames := 2, cells := 0, slots := 0, locals := 90 }) D vwCl (hg_tys cI cF cZ cJ cA cB) F Nn ad ok (hg_w ad cF cI G a dr N bc sp μ) [.ref (ad 0 0), .int (nI (x)), .int (nI (y)), .int (nI (q))] (tg_po ad ok fun r w1 => r = some (.int (nI (hg_tv N f q))) ∧ w1 = (hg_w ad cF cI G a dr N bc sp μ)) := by
  refine tg_start (cc := cH_told) (maxL := 5) (ret := some .int) (by decide) rfl (Nat.le_of_ble_eq_true rfl) ?_
  intro p e R s m args below meth c Q hx hb hml hr hlocks hown hname hts hK hN hR hQ
  have hown : s.vm.findClass "HangGraph" = some m.cls := hown
  have hts : ∀ w ∈ lw_g, w.before args s = true := fun w z => hts w (List.mem_cons_of_mem _ z)
  refine tg_iload_n hx hb dH_told_0 rfl rfl ?_
  refine tg_iload_n hx hb dH_told_1 rfl rfl ?_
  refine tg_callS (As := [.int (nI (x)), .int (nI (y))]) (rest := []) ⟨hx, hb, hml, hown, hts⟩ hK hN hMv (c_requireCell x y hx9 hy9) (va_cwS 2 hts (lg_S wm_H_30 wt_H_requireCell wn_H wc_H_requireCell) rfl rfl rfl ⟨by decide, by decide, rfl⟩ ⟨by rw [hR]; exact Nat.le_of_ble_eq_true rfl, by rw [hR]; exact Nat.le_of_ble_eq_true rfl⟩) rfl (Nat.le_of_ble_eq_true rfl) ⟨by rw [hR]; exact Nat.le_of_ble_eq_true rfl, by rw [hR]; exact Nat.le_of_ble_eq_true rfl⟩ rfl dH_told_2 (tg_kn rfl rfl ?_)
  refine tg_iload_n hx hb dH_told_5 rfl rfl ?_
  refine tg_if_lt (tgt := 14) hx hb dH_told_6 (by decide) (fun q_1 => ?_) (fun q_1 => ?_)
  · have q_1' := q_1
    rw [← nI_0] at q_1
    have h_2 : q < 0 := (nI_ltI (by omega) (by omega)).mp q_1
    omega
  · have q_1' := q_1
    rw [← nI_0] at q_1
    have h_3 : 0 ≤ q := Nat.le_of_not_lt fun z => q_1 ((nI_ltI (by omega) (by omega)).mpr z)
    refine tg_iload_n hx hb dH_told_9 rfl rfl ?_
    refine tg_iconst (v := nI 2) hx hb dH_told_10 (by decide +kernel) ?_
    refine tg_icmp_le (tgt := 24) hx hb dH_told_11 (by decide) (fun q_4 => ?_) (fun q_4 => ?_)
    · have q_4' := q_4
      have h_5 : q ≤ 2 := (nI_leI (by omega) (by omega)).mp q_4
      refine tg_aload_n hx hb dH_told_24 rfl rfl ?_
      refine tg_iload_n hx hb dH_told_25 rfl rfl ?_
      refine tg_iload_n hx hb dH_told_26 rfl rfl ?_
      refine tg_callV (C := "HangGraph") (As := [.int (nI (x)), .int (nI (y))]) (rest := []) ⟨hx, hb, hml, hown, hts⟩ hK hN hMv (hO.1 0 (by decide)) rfl rfl rfl (c_formulaNamed hO hT hMv hB x y hx9 hy9 f hf ho h0) (cwV 2 hts (lg_V wm_H_47 wi_H_formulaNamed we_H_formulaNamed wn_H wc_H_formulaNamed) rfl rfl rfl ⟨rfl, by decide, by decide, rfl⟩ ⟨by rw [hR]; exact Nat.le_of_ble_eq_true rfl, by rw [hR]; exact Nat.le_of_ble_eq_true rfl⟩) rfl (Nat.le_of_ble_eq_true rfl) ⟨by rw [hR]; exact Nat.le_of_ble_eq_true rfl, by rw [hR]; exact Nat.le_of_ble_eq_true rfl⟩ rfl dH_told_27 (tg_kv rfl rfl ?_)
      refine tg_astore (L' := [(0, .ref (ad 0 0)), (1, .int (nI (x))), (2, .int (nI (y))), (3, .int (nI (q))), (4, .ref (ad 8 f))]) hx hb dH_told_30 (by decide) rfl rfl ?_
      refine tg_iload_n hx hb dH_told_32 rfl rfl ?_
      refine tg_if_ne (tgt := 50) hx hb dH_told_33 (by decide) (fun q_6 => ?_) (fun q_6 => ?_)
      · have q_6' := q_6
        rw [← nI_0] at q_6
        have h_7 : q ≠ 0 := fun z => q_6 ((nI_eq (by omega) (by omega)).mpr z)
        refine tg_iload_n hx hb dH_told_50 rfl rfl ?_
        refine tg_iconst (v := nI 1) hx hb dH_told_51 (by decide +kernel) ?_
        refine tg_icmp_ne (tgt := 69) hx hb dH_told_52 (by decide) (fun q_8 => ?_) (fun q_8 => ?_)
        · have q_8' := q_8
          have h_9 : q ≠ 1 := fun z => q_8 ((nI_eq (by omega) (by omega)).mpr z)
          refine tg_aload hx hb dH_told_69 rfl ?_
          refine tg_get (T := TF) (N := 15) hx hb hts inF hown hK (hT f hf).1 rfl rfl 10 (by decide) (hts _ wf_H_103) (fun _ z => z) rfl dH_told_71 ?_
          have hb_10 := hB 10 f
          have e9 : hg_tv N f q = N 10 f := by
            have z : q = 2 := by omega
            subst z
            rfl
          exact tg_iret hx hb hlocks hr hQ ⟨rfl, rfl, by rw [e9], rfl⟩ dH_told_74
        · have q_8' := q_8
          have h_11 : q = 1 := (nI_eq (by omega) (by omega)).mp q_8
          refine tg_aload hx hb dH_told_55 rfl ?_
          refine tg_get (T := TF) (N := 15) hx hb hts inF hown hK (hT f hf).1 rfl rfl 9 (by decide) (hts _ wf_H_100) (fun _ z => z) rfl dH_told_57 ?_
          have hb_12 := hB 9 f
          refine tg_if_eq (tgt := 67) hx hb dH_told_60 (by decide) (fun q_13 => ?_) (fun q_13 => ?_)
          · have q_13' := q_13
            rw [← nI_0] at q_13
            have h_14 : N 9 f = 0 := (nI_eq (by omega) (by omega)).mp q_13
            refine tg_iconst (v := nI 0) hx hb dH_told_67 (by decide +kernel) ?_
            have e9 : hg_tv N f q = 0 := by
              have z : q = 1 := by omega
              subst z
              show (if N 9 f = 0 then 0 else 1) = 0
              first | exact if_pos (by omega) | exact if_neg (by omega)
            exact tg_iret hx hb hlocks hr hQ ⟨rfl, rfl, by rw [e9], rfl⟩ dH_told_68
          · have q_13' := q_13
            rw [← nI_0] at q_13
            have h_15 : N 9 f ≠ 0 := fun z => q_13 ((nI_eq (by omega) (by omega)).mpr z)
            refine tg_iconst (v := nI 1) hx hb dH_told_63 (by decide +kernel) ?_
            refine tg_goto (tgt := 68) hx hb dH_told_64 (by decide) ?_
            have e9 : hg_tv N f q = 1 := by
              have z : q = 1 := by omega
              subst z
              show (if N 9 f = 0 then 0 else 1) = 1
              first | exact if_pos (by omega) | exact if_neg (by omega)
            exact tg_iret hx hb hlocks hr hQ ⟨rfl, rfl, by rw [e9], rfl⟩ dH_told_68
      · have q_6' := q_6
        rw [← nI_0] at q_6
        have h_16 : q = 0 := (nI_eq (by omega) (by omega)).mp q_6
        refine tg_aload hx hb dH_told_36 rfl ?_
        refine tg_get (T := TF) (N := 15) hx hb hts inF hown hK (hT f hf).1 rfl rfl 8 (by decide) (hts _ wf_H_96) (fun _ z => z) rfl dH_told_38 ?_
        have hb_17 := hB 8 f
        refine tg_if_eq (tgt := 48) hx hb dH_told_41 (by decide) (fun q_18 => ?_) (fun q_18 => ?_)
        · have q_18' := q_18
          rw [← nI_0] at q_18
          have h_19 : N 8 f = 0 := (nI_eq (by omega) (by omega)).mp q_18
          refine tg_iconst (v := nI 0) hx hb dH_told_48 (by decide +kernel) ?_
          have e9 : hg_tv N f q = 0 := by
            have z : q = 0 := by omega
            subst z
            show (if N 8 f = 0 then 0 else 1) = 0
            first | exact if_pos (by omega) | exact if_neg (by omega)
          exact tg_iret hx hb hlocks hr hQ ⟨rfl, rfl, by rw [e9], rfl⟩ dH_told_49
        · have q_18' := q_18
          rw [← nI_0] at q_18
          have h_20 : N 8 f ≠ 0 := fun z => q_18 ((nI_eq (by omega) (by omega)).mpr z)
          refine tg_iconst (v := nI 1) hx hb dH_told_44 (by decide +kernel) ?_
          refine tg_goto (tgt := 49) hx hb dH_told_45 (by decide) ?_
          have e9 : hg_tv N f q = 1 := by
            have z : q = 0 := by omega
            subst z
            show (if N 8 f = 0 then 0 else 1) = 1
            first | exact if_pos (by omega) | exact if_neg (by omega)
          exact tg_iret hx hb hlocks hr hQ ⟨rfl, rfl, by rw [e9], rfl⟩ dH_told_49
    · have q_4' := q_4
      have h_21 : 2 < q := Nat.lt_of_not_le fun z => q_4 ((nI_leI (by omega) (by omega)).mpr z)
      omega
set_option maxRecDepth 100000 in
set_option maxHeartbeats 4000000 in
/-- f speaks of one more rectangle -/
theorem c_speak (hO : hg_ok ok) (hT : ∀ f, T f → ok 8 f ∧ ok 9 f) (hB : ∀ j u, N j u < 1000000) (x y : Nat) (hx9 : x < 20) (hy9 : y < 20) (f : Nat) (hf : T f) (ho : a 0 (20 * x + y) = some (ad 8 f)) (h0 : N 0 f = 20 * x + y) (t0 l0 b0 r0 : Nat) (ht0 : t0 ≤ b0) (hb0 : b0 < 20) (hl0 : l0 ≤ r0) (hr0 : r0 < 20) (h7 : N 7 f < 20) : tg_Met l yH_speak wsH_speak ({ frames := 2, cells := 0, slots := 0, locals := 90 }) D vwCl (hg_tys cI cF cZ cJ cA cB) F (hg_N F) ad ok (hg_w ad cF cI G a dr N bc sp μ) [.ref (ad 0 0), .int (nI (x)), .int (nI (y)), .int (nI (t0)), .int (nI (l0)), .int (nI (b0)), .int (nI (r0))] (tg_po ad ok fun r w1 => r = some (.int (nI (N 7 f + 1))) ∧ w1 = hg_w ad cF cI G a dr (tg_up N 7 f (N 7 f + 1)) bc (va_up sp f (hg_or (sp f) t0 (b0 + 1) (hg_cb l0 r0))) μ) := by
  refine tg_start (cc := cH_speak) (maxL := 8) (ret := some .int) (by decide) rfl (Nat.le_of_ble_eq_true rfl) ?_
  intro p e R s m args below meth c Q hx hb hml hr hlocks hown hname hts hK hN hR hQ
  have hown : s.vm.findClass "HangGraph" = some m.cls := hown
  have hts : ∀ w ∈ lw_g, w.before args s = true := fun w z => hts w (List.mem_cons_of_mem _ z)
  have hMv := hg_Mv F
  refine tg_iload_n hx hb dH_speak_0 rfl rfl ?_
  refine tg_iload_n hx hb dH_speak_1 rfl rfl ?_
  refine tg_callS (As := [.int (nI (x)), .int (nI (y))]) (rest := []) ⟨hx, hb, hml, hown, hts⟩ hK hN hMv (c_requireCell x y hx9 hy9) (va_cwS 2 hts (lg_S wm_H_30 wt_H_requireCell wn_H wc_H_requireCell) rfl rfl rfl ⟨by decide, by decide, rfl⟩ ⟨by rw [hR]; exact Nat.le_of_ble_eq_true rfl, by rw [hR]; exact Nat.le_of_ble_eq_true rfl⟩) rfl (Nat.le_of_ble_eq_true rfl) ⟨by rw [hR]; exact Nat.le_of_ble_eq_true rfl, by rw [hR]; exact Nat.le_of_ble_eq_true rfl⟩ rfl dH_speak_2 (tg_kn rfl rfl ?_)
  refine tg_iload_n hx hb dH_speak_5 rfl rfl ?_
  refine tg_iload hx hb dH_speak_6 rfl ?_
  refine tg_callS (As := [.int (nI (t0)), .int (nI (b0))]) (rest := []) ⟨hx, hb, hml, hown, hts⟩ hK hN hMv (c_requireSpan t0 b0 ht0 hb0) (va_cwS 2 hts (lg_S wm_H_51 wt_H_requireSpan wn_H wc_H_requireSpan) rfl rfl rfl ⟨by decide, by decide, rfl⟩ ⟨by rw [hR]; exact Nat.le_of_ble_eq_true rfl, by rw [hR]; exact Nat.le_of_ble_eq_true rfl⟩) rfl (Nat.le_of_ble_eq_true rfl) ⟨by rw [hR]; exact Nat.le_of_ble_eq_true rfl, by rw [hR]; exact Nat.le_of_ble_eq_true rfl⟩ rfl dH_speak_8 (tg_kn rfl rfl ?_)
  refine tg_iload hx hb dH_speak_11 rfl ?_
  refine tg_iload hx hb dH_speak_13 rfl ?_
  refine tg_callS (As := [.int (nI (l0)), .int (nI (r0))]) (rest := []) ⟨hx, hb, hml, hown, hts⟩ hK hN hMv (c_requireSpan l0 r0 hl0 hr0) (va_cwS 2 hts (lg_S wm_H_51 wt_H_requireSpan wn_H wc_H_requireSpan) rfl rfl rfl ⟨by decide, by decide, rfl⟩ ⟨by rw [hR]; exact Nat.le_of_ble_eq_true rfl, by rw [hR]; exact Nat.le_of_ble_eq_true rfl⟩) rfl (Nat.le_of_ble_eq_true rfl) ⟨by rw [hR]; exact Nat.le_of_ble_eq_true rfl, by rw [hR]; exact Nat.le_of_ble_eq_true rfl⟩ rfl dH_speak_15 (tg_kn rfl rfl ?_)
  refine tg_aload_n hx hb dH_speak_18 rfl rfl ?_
  refine tg_iload_n hx hb dH_speak_19 rfl rfl ?_
  refine tg_iload_n hx hb dH_speak_20 rfl rfl ?_
  refine tg_callV (C := "HangGraph") (As := [.int (nI (x)), .int (nI (y))]) (rest := []) ⟨hx, hb, hml, hown, hts⟩ hK hN hMv (hO.1 0 (by decide)) rfl rfl rfl (c_formulaNamed hO hT hMv hB x y hx9 hy9 f hf ho h0) (cwV 2 hts (lg_V wm_H_47 wi_H_formulaNamed we_H_formulaNamed wn_H wc_H_formulaNamed) rfl rfl rfl ⟨rfl, by decide, by decide, rfl⟩ ⟨by rw [hR]; exact Nat.le_of_ble_eq_true rfl, by rw [hR]; exact Nat.le_of_ble_eq_true rfl⟩) rfl (Nat.le_of_ble_eq_true rfl) ⟨by rw [hR]; exact Nat.le_of_ble_eq_true rfl, by rw [hR]; exact Nat.le_of_ble_eq_true rfl⟩ rfl dH_speak_21 (tg_kv rfl rfl ?_)
  refine tg_astore (L' := [(0, .ref (ad 0 0)), (1, .int (nI (x))), (2, .int (nI (y))), (3, .int (nI (t0))), (4, .int (nI (l0))), (5, .int (nI (b0))), (6, .int (nI (r0))), (7, .ref (ad 8 f))]) hx hb dH_speak_24 (by decide) rfl rfl ?_
  refine tg_aload hx hb dH_speak_26 rfl ?_
  refine tg_get (T := TF) (N := 15) hx hb hts inF hown hK (hT f hf).1 rfl rfl 7 (by decide) (hts _ wf_H_54) (fun _ z => z) rfl dH_speak_28 ?_
  have hb_1 := hB 7 f
  refine tg_bipush (v := nI 20) hx hb dH_speak_31 (by decide +kernel) ?_
  refine tg_icmp_lt (tgt := 46) hx hb dH_speak_33 (by decide) (fun q_2 => ?_) (fun q_2 => ?_)
  · have q_2' := q_2
    have h_3 : N 7 f < 20 := (nI_ltI (by omega) (by omega)).mp q_2
    refine tg_aload hx hb dH_speak_46 rfl ?_
    refine tg_iload_n hx hb dH_speak_48 rfl rfl ?_
    refine tg_iload hx hb dH_speak_49 rfl ?_
    refine tg_iload hx hb dH_speak_51 rfl ?_
    refine tg_iload hx hb dH_speak_53 rfl ?_
    refine tg_callV (C := "HangGraph$Formula") (As := [.int (nI (t0)), .int (nI (l0)), .int (nI (b0)), .int (nI (r0))]) (rest := []) ⟨hx, hb, hml, hown, hts⟩ hK hN hMv (hT f hf).1 rfl rfl rfl (c_addRectangle hO hT hB f hf t0 l0 b0 r0 ht0 hb0 hl0 hr0) (cwV 4 hts (lg_V wm_H_64 wi_F_addRectangle we_F_addRectangle wn_F wc_F_addRectangle) rfl rfl rfl ⟨rfl, by decide, by decide, rfl⟩ ⟨by rw [hR]; exact Nat.le_of_ble_eq_true rfl, by rw [hR]; exact Nat.le_of_ble_eq_true rfl⟩) rfl (Nat.le_of_ble_eq_true rfl) ⟨by rw [hR]; exact Nat.le_of_ble_eq_true rfl, by rw [hR]; exact Nat.le_of_ble_eq_true rfl⟩ rfl dH_speak_55 (tg_kn rfl rfl ?_)
    refine tg_aload hx hb dH_speak_58 rfl ?_
    refine tg_get (T := TF) (N := 15) hx hb hts inF hown hK (hT f hf).1 rfl rfl 7 (by decide) (hts _ wf_H_54) (fun _ z => z) rfl dH_speak_60 ?_
    refine tg_top (y := nI (N 7 f + 1)) (by simp [tg_up]) ?_
    exact tg_iret hx hb hlocks hr hQ ⟨rfl, rfl, rfl, rfl⟩ dH_speak_63
  · have q_2' := q_2
    have h_4 : 20 ≤ N 7 f := Nat.le_of_not_lt fun z => q_2 ((nI_ltI (by omega) (by omega)).mpr z)
    omega
set_option maxRecDepth 100000 in
set_option maxHeartbeats 4000000 in
/-- f is taken out -/
theorem c_out (hO : hg_ok ok) (hT : ∀ f, T f → ok 8 f ∧ ok 9 f) (hMv : tg_Mv F Nn) (hB : ∀ j u, N j u < 1000000) (x y : Nat) (hx9 : x < 20) (hy9 : y < 20) (f : Nat) (hf : T f) (ho : a 0 (20 * x + y) = some (ad 8 f)) (h0 : N 0 f = 20 * x + y) (hN1 : N 1 f ≤ N 3 f) (hN3 : N 3 f < 20) (hN2 : N 2 f ≤ N 4 f) (hN4 : N 4 f < 20) (hG0 : 1 ≤ G 0) : tg_Met l yH_out wsH_out ({ frames := 2, cells := 0, slots := 0, locals := 90 }) D vwCl (hg_tys cI cF cZ cJ cA cB) F Nn ad ok (hg_w ad cF cI G a dr N bc sp μ) [.ref (ad 0 0), .int (nI (x)), .int (nI (y))] (tg_po ad ok fun r w1 => r = some (.int (nI (G 0 - 1))) ∧ w1 = hg_w ad cF cI (va_up G 0 (G 0 - 1)) (va_up a 0 (hg_cp (a 0) (N 1 f) (N 2 f) (N 4 f) (N 3 f + 1) (N 2 f) none)) dr N bc sp μ) := by
  refine tg_start (cc := cH_out) (maxL := 4) (ret := some .int) (by decide) rfl (Nat.le_of_ble_eq_true rfl) ?_
  intro p e R s m args below meth c Q hx hb hml hr hlocks hown hname hts hK hN hR hQ
  have hown : s.vm.findClass "HangGraph" = some m.cls := hown
  have hts : ∀ w ∈ lw_g, w.before args s = true := fun w z => hts w (List.mem_cons_of_mem _ z)
  refine tg_iload_n hx hb dH_out_0 rfl rfl ?_
  refine tg_iload_n hx hb dH_out_1 rfl rfl ?_
  refine tg_callS (As := [.int (nI (x)), .int (nI (y))]) (rest := []) ⟨hx, hb, hml, hown, hts⟩ hK hN hMv (c_requireCell x y hx9 hy9) (va_cwS 2 hts (lg_S wm_H_30 wt_H_requireCell wn_H wc_H_requireCell) rfl rfl rfl ⟨by decide, by decide, rfl⟩ ⟨by rw [hR]; exact Nat.le_of_ble_eq_true rfl, by rw [hR]; exact Nat.le_of_ble_eq_true rfl⟩) rfl (Nat.le_of_ble_eq_true rfl) ⟨by rw [hR]; exact Nat.le_of_ble_eq_true rfl, by rw [hR]; exact Nat.le_of_ble_eq_true rfl⟩ rfl dH_out_2 (tg_kn rfl rfl ?_)
  refine tg_aload_n hx hb dH_out_5 rfl rfl ?_
  refine tg_iload_n hx hb dH_out_6 rfl rfl ?_
  refine tg_iload_n hx hb dH_out_7 rfl rfl ?_
  refine tg_callV (C := "HangGraph") (As := [.int (nI (x)), .int (nI (y))]) (rest := []) ⟨hx, hb, hml, hown, hts⟩ hK hN hMv (hO.1 0 (by decide)) rfl rfl rfl (c_formulaNamed hO hT hMv hB x y hx9 hy9 f hf ho h0) (cwV 2 hts (lg_V wm_H_47 wi_H_formulaNamed we_H_formulaNamed wn_H wc_H_formulaNamed) rfl rfl rfl ⟨rfl, by decide, by decide, rfl⟩ ⟨by rw [hR]; exact Nat.le_of_ble_eq_true rfl, by rw [hR]; exact Nat.le_of_ble_eq_true rfl⟩) rfl (Nat.le_of_ble_eq_true rfl) ⟨by rw [hR]; exact Nat.le_of_ble_eq_true rfl, by rw [hR]; exact Nat.le_of_ble_eq_true rfl⟩ rfl dH_out_8 (tg_kv rfl rfl ?_)
  refine tg_astore_n (L' := [(0, .ref (ad 0 0)), (1, .int (nI (x))), (2, .int (nI (y))), (3, .ref (ad 8 f))]) hx hb dH_out_11 rfl (by decide) rfl rfl ?_
  refine tg_aload_n hx hb dH_out_12 rfl rfl ?_
  refine tg_aload_n hx hb dH_out_13 rfl rfl ?_
  refine tg_null hx hb dH_out_14 ?_
  refine tg_callV (C := "HangGraph") (As := [.ref (ad 8 f), .null]) (rest := []) ⟨hx, hb, hml, hown, hts⟩ hK hN hMv (hO.1 0 (by decide)) rfl rfl rfl (c_uncover hO hT hMv f hf hN1 hN3 hN2 hN4) (cwV 2 hts (lg_V wm_H_43 wi_H_cover we_H_cover wn_H wc_H_cover) rfl rfl rfl ⟨rfl, by decide, by decide, rfl⟩ ⟨by rw [hR]; exact Nat.le_of_ble_eq_true rfl, by rw [hR]; exact Nat.le_of_ble_eq_true rfl⟩) rfl (Nat.le_of_ble_eq_true rfl) ⟨by rw [hR]; exact Nat.le_of_ble_eq_true rfl, by rw [hR]; exact Nat.le_of_ble_eq_true rfl⟩ rfl dH_out_15 (tg_kn rfl rfl ?_)
  refine tg_aload_n hx hb dH_out_18 rfl rfl ?_
  refine tg_dup hx hb dH_out_19 rfl ?_
  refine tg_get (T := TH) (N := 4) hx hb hts inH hown hK (hO.1 0 (by decide)) rfl rfl 3 (by decide) (hts _ wf_H_26) (fun _ z => z) rfl dH_out_20 ?_
  refine tg_iconst (v := nI 1) hx hb dH_out_23 (by decide +kernel) ?_
  refine tg_isub hx hb dH_out_24 ?_
  refine tg_top (y := nI ((G 0) - (1))) (pk_sub (by omega)) ?_
  refine tg_put (T := TH) (N := 4) (ty := .int) hx hb hts inH tyH tyH_ok nmH hown hK (hO.1 0 (by decide)) rfl rfl 3 (by decide) (hts _ wf_H_26) (fun _ z => z) rfl (by decide +kernel) rfl rfl (Nat.le_of_ble_eq_true rfl) dH_out_25 ?_
  refine tg_wp (hg_w_G0 hO ((G 0) - (1))) ?_
  refine tg_aload_n hx hb dH_out_28 rfl rfl ?_
  refine tg_get (T := TH) (N := 4) hx hb hts inH hown hK (hO.1 0 (by decide)) rfl rfl 3 (by decide) (hts _ wf_H_26) (fun _ z => z) rfl dH_out_29 ?_
  refine tg_top (y := nI ((G 0) - (1))) (by simp [va_up]) ?_
  exact tg_iret hx hb hlocks hr hQ ⟨rfl, rfl, rfl, rfl⟩ dH_out_32
set_option maxRecDepth 100000 in
set_option maxHeartbeats 4000000 in
/-- no such cell -/
theorem t_touch1 (hl9 : l.stackTraces = false) (p9 q9 : Int32) (hbad : hg_bC p9 q9) : tg_MetT l yH_touch wsH_touch ({ frames := 7, cells := 1, slots := 6, locals := 140 }) D vwCl (hg_tys cI cF cZ cJ cA cB) F (hg_N F) ad ok w [.ref (ad 0 0), .int (p9), .int (q9)] "java/lang/IllegalArgumentException" := by
  refine tg_startT (cc := cH_touch) (maxL := 3) (ret := none) (by decide) rfl (Nat.le_of_ble_eq_true rfl) ?_
  intro p e R s m args below meth c Q hx hb hml hr hlocks hown hts hK hN hnt hR hQ
  have hown : s.vm.findClass "HangGraph" = some m.cls := hown
  have hts : ∀ w ∈ lw_g, w.before args s = true := fun w z => hts w (List.mem_cons_of_mem _ z)
  have hMv := hg_Mv F
  refine tg_iload_n hx hb dH_touch_0 rfl rfl ?_
  refine tg_iload_n hx hb dH_touch_1 rfl rfl ?_
  exact tg_passT (tg_runST (As := [.int (p9), .int (q9)]) (rest := []) ⟨hx, hb, hml, hown, hts⟩ hK hN hMv (t_requireCell hl9 p9 q9 hbad) (va_cwS 2 hts (lg_S wm_H_30 wt_H_requireCell wn_H wc_H_requireCell) rfl rfl rfl ⟨by decide, by decide, rfl⟩ ⟨by rw [hR]; exact Nat.le_of_ble_eq_true rfl, by rw [hR]; exact Nat.le_of_ble_eq_true rfl⟩) rfl (Nat.le_of_ble_eq_true rfl) ⟨by rw [hR]; exact Nat.le_of_ble_eq_true rfl, by rw [hR]; exact Nat.le_of_ble_eq_true rfl⟩ rfl dH_touch_2) hnt hlocks hQ (Nat.le_of_ble_eq_true rfl) (Nat.le_of_ble_eq_true rfl)
set_option maxRecDepth 100000 in
set_option maxHeartbeats 4000000 in
/-- no such cell -/
theorem t_owner1 (hl9 : l.stackTraces = false) (p9 q9 : Int32) (hbad : hg_bC p9 q9) : tg_MetT l yH_owner wsH_owner ({ frames := 7, cells := 1, slots := 6, locals := 140 }) D vwCl (hg_tys cI cF cZ cJ cA cB) F (hg_N F) ad ok w [.ref (ad 0 0), .int (p9), .int (q9)] "java/lang/IllegalArgumentException" := by
  refine tg_startT (cc := cH_owner) (maxL := 4) (ret := some .int) (by decide) rfl (Nat.le_of_ble_eq_true rfl) ?_
  intro p e R s m args below meth c Q hx hb hml hr hlocks hown hts hK hN hnt hR hQ
  have hown : s.vm.findClass "HangGraph" = some m.cls := hown
  have hts : ∀ w ∈ lw_g, w.before args s = true := fun w z => hts w (List.mem_cons_of_mem _ z)
  have hMv := hg_Mv F
  refine tg_iload_n hx hb dH_owner_0 rfl rfl ?_
  refine tg_iload_n hx hb dH_owner_1 rfl rfl ?_
  exact tg_passT (tg_runST (As := [.int (p9), .int (q9)]) (rest := []) ⟨hx, hb, hml, hown, hts⟩ hK hN hMv (t_requireCell hl9 p9 q9 hbad) (va_cwS 2 hts (lg_S wm_H_30 wt_H_requireCell wn_H wc_H_requireCell) rfl rfl rfl ⟨by decide, by decide, rfl⟩ ⟨by rw [hR]; exact Nat.le_of_ble_eq_true rfl, by rw [hR]; exact Nat.le_of_ble_eq_true rfl⟩) rfl (Nat.le_of_ble_eq_true rfl) ⟨by rw [hR]; exact Nat.le_of_ble_eq_true rfl, by rw [hR]; exact Nat.le_of_ble_eq_true rfl⟩ rfl dH_owner_2) hnt hlocks hQ (Nat.le_of_ble_eq_true rfl) (Nat.le_of_ble_eq_true rfl)
set_option maxRecDepth 100000 in
set_option maxHeartbeats 4000000 in
/-- no such cell -/
theorem t_out1 (hl9 : l.stackTraces = false) (p9 q9 : Int32) (hbad : hg_bC p9 q9) : tg_MetT l yH_out wsH_out ({ frames := 7, cells := 1, slots := 6, locals := 140 }) D vwCl (hg_tys cI cF cZ cJ cA cB) F (hg_N F) ad ok w [.ref (ad 0 0), .int (p9), .int (q9)] "java/lang/IllegalArgumentException" := by
  refine tg_startT (cc := cH_out) (maxL := 4) (ret := some .int) (by decide) rfl (Nat.le_of_ble_eq_true rfl) ?_
  intro p e R s m args below meth c Q hx hb hml hr hlocks hown hts hK hN hnt hR hQ
  have hown : s.vm.findClass "HangGraph" = some m.cls := hown
  have hts : ∀ w ∈ lw_g, w.before args s = true := fun w z => hts w (List.mem_cons_of_mem _ z)
  have hMv := hg_Mv F
  refine tg_iload_n hx hb dH_out_0 rfl rfl ?_
  refine tg_iload_n hx hb dH_out_1 rfl rfl ?_
  exact tg_passT (tg_runST (As := [.int (p9), .int (q9)]) (rest := []) ⟨hx, hb, hml, hown, hts⟩ hK hN hMv (t_requireCell hl9 p9 q9 hbad) (va_cwS 2 hts (lg_S wm_H_30 wt_H_requireCell wn_H wc_H_requireCell) rfl rfl rfl ⟨by decide, by decide, rfl⟩ ⟨by rw [hR]; exact Nat.le_of_ble_eq_true rfl, by rw [hR]; exact Nat.le_of_ble_eq_true rfl⟩) rfl (Nat.le_of_ble_eq_true rfl) ⟨by rw [hR]; exact Nat.le_of_ble_eq_true rfl, by rw [hR]; exact Nat.le_of_ble_eq_true rfl⟩ rfl dH_out_2) hnt hlocks hQ (Nat.le_of_ble_eq_true rfl) (Nat.le_of_ble_eq_true rfl)
set_option maxRecDepth 100000 in
set_option maxHeartbeats 4000000 in
/-- no such cell -/
theorem t_told1 (hl9 : l.stackTraces = false) (p9 q9 : Int32) (hbad : hg_bC p9 q9) (k1 : Int32) : tg_MetT l yH_told wsH_told ({ frames := 7, cells := 1, slots := 6, locals := 140 }) D vwCl (hg_tys cI cF cZ cJ cA cB) F (hg_N F) ad ok w [.ref (ad 0 0), .int (p9), .int (q9), .int (k1)] "java/lang/IllegalArgumentException" := by
  refine tg_startT (cc := cH_told) (maxL := 5) (ret := some .int) (by decide) rfl (Nat.le_of_ble_eq_true rfl) ?_
  intro p e R s m args below meth c Q hx hb hml hr hlocks hown hts hK hN hnt hR hQ
  have hown : s.vm.findClass "HangGraph" = some m.cls := hown
  have hts : ∀ w ∈ lw_g, w.before args s = true := fun w z => hts w (List.mem_cons_of_mem _ z)
  have hMv := hg_Mv F
  refine tg_iload_n hx hb dH_told_0 rfl rfl ?_
  refine tg_iload_n hx hb dH_told_1 rfl rfl ?_
  exact tg_passT (tg_runST (As := [.int (p9), .int (q9)]) (rest := []) ⟨hx, hb, hml, hown, hts⟩ hK hN hMv (t_requireCell hl9 p9 q9 hbad) (va_cwS 2 hts (lg_S wm_H_30 wt_H_requireCell wn_H wc_H_requireCell) rfl rfl rfl ⟨by decide, by decide, rfl⟩ ⟨by rw [hR]; exact Nat.le_of_ble_eq_true rfl, by rw [hR]; exact Nat.le_of_ble_eq_true rfl⟩) rfl (Nat.le_of_ble_eq_true rfl) ⟨by rw [hR]; exact Nat.le_of_ble_eq_true rfl, by rw [hR]; exact Nat.le_of_ble_eq_true rfl⟩ rfl dH_told_2) hnt hlocks hQ (Nat.le_of_ble_eq_true rfl) (Nat.le_of_ble_eq_true rfl)
set_option maxRecDepth 100000 in
set_option maxHeartbeats 4000000 in
/-- no such cell -/
theorem t_speak1 (hl9 : l.stackTraces = false) (p9 q9 : Int32) (hbad : hg_bC p9 q9) (k1 k2 k3 k4 : Int32) : tg_MetT l yH_speak wsH_speak ({ frames := 7, cells := 1, slots := 6, locals := 140 }) D vwCl (hg_tys cI cF cZ cJ cA cB) F (hg_N F) ad ok w [.ref (ad 0 0), .int (p9), .int (q9), .int (k1), .int (k2), .int (k3), .int (k4)] "java/lang/IllegalArgumentException" := by
  refine tg_startT (cc := cH_speak) (maxL := 8) (ret := some .int) (by decide) rfl (Nat.le_of_ble_eq_true rfl) ?_
  intro p e R s m args below meth c Q hx hb hml hr hlocks hown hts hK hN hnt hR hQ
  have hown : s.vm.findClass "HangGraph" = some m.cls := hown
  have hts : ∀ w ∈ lw_g, w.before args s = true := fun w z => hts w (List.mem_cons_of_mem _ z)
  have hMv := hg_Mv F
  refine tg_iload_n hx hb dH_speak_0 rfl rfl ?_
  refine tg_iload_n hx hb dH_speak_1 rfl rfl ?_
  exact tg_passT (tg_runST (As := [.int (p9), .int (q9)]) (rest := []) ⟨hx, hb, hml, hown, hts⟩ hK hN hMv (t_requireCell hl9 p9 q9 hbad) (va_cwS 2 hts (lg_S wm_H_30 wt_H_requireCell wn_H wc_H_requireCell) rfl rfl rfl ⟨by decide, by decide, rfl⟩ ⟨by rw [hR]; exact Nat.le_of_ble_eq_true rfl, by rw [hR]; exact Nat.le_of_ble_eq_true rfl⟩) rfl (Nat.le_of_ble_eq_true rfl) ⟨by rw [hR]; exact Nat.le_of_ble_eq_true rfl, by rw [hR]; exact Nat.le_of_ble_eq_true rfl⟩ rfl dH_speak_2) hnt hlocks hQ (Nat.le_of_ble_eq_true rfl) (Nat.le_of_ble_eq_true rfl)
set_option maxRecDepth 100000 in
set_option maxHeartbeats 4000000 in
/-- no such cell -/
theorem t_put1 (hl9 : l.stackTraces = false) (p9 q9 : Int32) (hbad : hg_bC p9 q9) (k1 k2 : Int32) : tg_MetT l yH_put wsH_put ({ frames := 7, cells := 1, slots := 6, locals := 140 }) D vwCl (hg_tys cI cF cZ cJ cA cB) F (hg_N F) ad ok w [.ref (ad 0 0), .int (p9), .int (q9), .int (k1), .int (k2)] "java/lang/IllegalArgumentException" := by
  refine tg_startT (cc := cH_put) (maxL := 8) (ret := some .int) (by decide) rfl (Nat.le_of_ble_eq_true rfl) ?_
  intro p e R s m args below meth c Q hx hb hml hr hlocks hown hts hK hN hnt hR hQ
  have hown : s.vm.findClass "HangGraph" = some m.cls := hown
  have hts : ∀ w ∈ lw_g, w.before args s = true := fun w z => hts w (List.mem_cons_of_mem _ z)
  have hMv := hg_Mv F
  refine tg_iload_n hx hb dH_put_0 rfl rfl ?_
  refine tg_iload_n hx hb dH_put_1 rfl rfl ?_
  exact tg_passT (tg_runST (As := [.int (p9), .int (q9)]) (rest := []) ⟨hx, hb, hml, hown, hts⟩ hK hN hMv (t_requireCell hl9 p9 q9 hbad) (va_cwS 2 hts (lg_S wm_H_30 wt_H_requireCell wn_H wc_H_requireCell) rfl rfl rfl ⟨by decide, by decide, rfl⟩ ⟨by rw [hR]; exact Nat.le_of_ble_eq_true rfl, by rw [hR]; exact Nat.le_of_ble_eq_true rfl⟩) rfl (Nat.le_of_ble_eq_true rfl) ⟨by rw [hR]; exact Nat.le_of_ble_eq_true rfl, by rw [hR]; exact Nat.le_of_ble_eq_true rfl⟩ rfl dH_put_2) hnt hlocks hQ (Nat.le_of_ble_eq_true rfl) (Nat.le_of_ble_eq_true rfl)
set_option maxRecDepth 100000 in
set_option maxHeartbeats 4000000 in
/-- what is not 0, 1 or 2 -/
theorem t_told2 (hl9 : l.stackTraces = false) (x y : Nat) (hx9 : x < 20) (hy9 : y < 20) (k1 : Int32) (hbad : k1 < 0 ∨ ¬ k1 ≤ nI 2) : tg_MetT l yH_told wsH_told ({ frames := 7, cells := 1, slots := 6, locals := 140 }) D vwCl (hg_tys cI cF cZ cJ cA cB) F (hg_N F) ad ok w [.ref (ad 0 0), .int (nI (x)), .int (nI (y)), .int (k1)] "java/lang/IllegalArgumentException" := by
  refine tg_startT (cc := cH_told) (maxL := 5) (ret := some .int) (by decide) rfl (Nat.le_of_ble_eq_true rfl) ?_
  intro p e R s m args below meth c Q hx hb hml hr hlocks hown hts hK hN hnt hR hQ
  have hown : s.vm.findClass "HangGraph" = some m.cls := hown
  have hts : ∀ w ∈ lw_g, w.before args s = true := fun w z => hts w (List.mem_cons_of_mem _ z)
  have hMv := hg_Mv F
  refine tg_iload_n hx hb dH_told_0 rfl rfl ?_
  refine tg_iload_n hx hb dH_told_1 rfl rfl ?_
  refine tg_callS (As := [.int (nI (x)), .int (nI (y))]) (rest := []) ⟨hx, hb, hml, hown, hts⟩ hK hN hMv (c_requireCell x y hx9 hy9) (va_cwS 2 hts (lg_S wm_H_30 wt_H_requireCell wn_H wc_H_requireCell) rfl rfl rfl ⟨by decide, by decide, rfl⟩ ⟨by rw [hR]; exact Nat.le_of_ble_eq_true rfl, by rw [hR]; exact Nat.le_of_ble_eq_true rfl⟩) rfl (Nat.le_of_ble_eq_true rfl) ⟨by rw [hR]; exact Nat.le_of_ble_eq_true rfl, by rw [hR]; exact Nat.le_of_ble_eq_true rfl⟩ rfl dH_told_2 (tg_kn rfl rfl ?_)
  refine tg_iload_n hx hb dH_told_5 rfl rfl ?_
  refine tg_if_lt (tgt := 14) hx hb dH_told_6 (by decide) (fun q_1 => ?_) (fun q_1 => ?_)
  · have q_1' := q_1
    exact tg_throw hx hb hml hl9 hown hts hN (by decide) (by decide +kernel) wk_H_91 wn_java_lang_IllegalArgumentException (show ((93, "what is not 0, 1 or 2") : Nat × String) ∈ hg_strs by decide) hg_at_IAE1 hg_at_IAE2 hg_ot_IAE hnt hlocks hQ dH_told_14 dH_told_17 dH_told_18 dH_told_20 dH_told_23 (by rw [hR]; exact Nat.le_of_ble_eq_true rfl) (by rw [hR]; exact Nat.le_of_ble_eq_true rfl) (by rw [hR]; exact Nat.le_of_ble_eq_true rfl) (by rw [hR]; exact Nat.le_of_ble_eq_true rfl) (Nat.le_of_ble_eq_true rfl) (Nat.le_of_ble_eq_true rfl)
  · have q_1' := q_1
    refine tg_iload_n hx hb dH_told_9 rfl rfl ?_
    refine tg_iconst (v := nI 2) hx hb dH_told_10 (by decide +kernel) ?_
    refine tg_icmp_le (tgt := 24) hx hb dH_told_11 (by decide) (fun q_2 => ?_) (fun q_2 => ?_)
    · have q_2' := q_2
      exact absurd hbad (not_or.mpr ⟨q_1, fun z => z q_2⟩)
    · have q_2' := q_2
      exact tg_throw hx hb hml hl9 hown hts hN (by decide) (by decide +kernel) wk_H_91 wn_java_lang_IllegalArgumentException (show ((93, "what is not 0, 1 or 2") : Nat × String) ∈ hg_strs by decide) hg_at_IAE1 hg_at_IAE2 hg_ot_IAE hnt hlocks hQ dH_told_14 dH_told_17 dH_told_18 dH_told_20 dH_told_23 (by rw [hR]; exact Nat.le_of_ble_eq_true rfl) (by rw [hR]; exact Nat.le_of_ble_eq_true rfl) (by rw [hR]; exact Nat.le_of_ble_eq_true rfl) (by rw [hR]; exact Nat.le_of_ble_eq_true rfl) (Nat.le_of_ble_eq_true rfl) (Nat.le_of_ble_eq_true rfl)
set_option maxRecDepth 100000 in
set_option maxHeartbeats 4000000 in
/-- no such formula -/
theorem t_told3 (hl9 : l.stackTraces = false) (hO : hg_ok ok) (hT : ∀ f, T f → ok 8 f ∧ ok 9 f) (hB : ∀ j u, N j u < 1000000) (x y : Nat) (hx9 : x < 20) (hy9 : y < 20) (hbad : hg_un T ad a N (20 * x + y)) (q : Nat) (hq : q ≤ 2) : tg_MetT l yH_told wsH_told ({ frames := 7, cells := 1, slots := 6, locals := 140 }) D vwCl (hg_tys cI cF cZ cJ cA cB) F (hg_N F) ad ok (hg_w ad cF cI G a dr N bc sp μ) [.ref (ad 0 0), .int (nI (x)), .int (nI (y)), .int (nI (q))] "java/util/NoSuchElementException" := by
  refine tg_startT (cc := cH_told) (maxL := 5) (ret := some .int) (by decide) rfl (Nat.le_of_ble_eq_true rfl) ?_
  intro p e R s m args below meth c Q hx hb hml hr hlocks hown hts hK hN hnt hR hQ
  have hown : s.vm.findClass "HangGraph" = some m.cls := hown
  have hts : ∀ w ∈ lw_g, w.before args s = true := fun w z => hts w (List.mem_cons_of_mem _ z)
  have hMv := hg_Mv F
  refine tg_iload_n hx hb dH_told_0 rfl rfl ?_
  refine tg_iload_n hx hb dH_told_1 rfl rfl ?_
  refine tg_callS (As := [.int (nI (x)), .int (nI (y))]) (rest := []) ⟨hx, hb, hml, hown, hts⟩ hK hN hMv (c_requireCell x y hx9 hy9) (va_cwS 2 hts (lg_S wm_H_30 wt_H_requireCell wn_H wc_H_requireCell) rfl rfl rfl ⟨by decide, by decide, rfl⟩ ⟨by rw [hR]; exact Nat.le_of_ble_eq_true rfl, by rw [hR]; exact Nat.le_of_ble_eq_true rfl⟩) rfl (Nat.le_of_ble_eq_true rfl) ⟨by rw [hR]; exact Nat.le_of_ble_eq_true rfl, by rw [hR]; exact Nat.le_of_ble_eq_true rfl⟩ rfl dH_told_2 (tg_kn rfl rfl ?_)
  refine tg_iload_n hx hb dH_told_5 rfl rfl ?_
  refine tg_if_lt (tgt := 14) hx hb dH_told_6 (by decide) (fun q_1 => ?_) (fun q_1 => ?_)
  · have q_1' := q_1
    rw [← nI_0] at q_1
    have h_2 : q < 0 := (nI_ltI (by omega) (by omega)).mp q_1
    omega
  · have q_1' := q_1
    rw [← nI_0] at q_1
    have h_3 : 0 ≤ q := Nat.le_of_not_lt fun z => q_1 ((nI_ltI (by omega) (by omega)).mpr z)
    refine tg_iload_n hx hb dH_told_9 rfl rfl ?_
    refine tg_iconst (v := nI 2) hx hb dH_told_10 (by decide +kernel) ?_
    refine tg_icmp_le (tgt := 24) hx hb dH_told_11 (by decide) (fun q_4 => ?_) (fun q_4 => ?_)
    · have q_4' := q_4
      have h_5 : q ≤ 2 := (nI_leI (by omega) (by omega)).mp q_4
      refine tg_aload_n hx hb dH_told_24 rfl rfl ?_
      refine tg_iload_n hx hb dH_told_25 rfl rfl ?_
      refine tg_iload_n hx hb dH_told_26 rfl rfl ?_
      exact tg_passT (tg_runVT (C := "HangGraph") (As := [.int (nI (x)), .int (nI (y))]) (rest := []) ⟨hx, hb, hml, hown, hts⟩ hK hN hMv (hO.1 0 (by decide)) rfl rfl rfl (t_formulaNamed hl9 hO hT hB x y hx9 hy9 hbad) (cwV 2 hts (lg_V wm_H_47 wi_H_formulaNamed we_H_formulaNamed wn_H wc_H_formulaNamed) rfl rfl rfl ⟨rfl, by decide, by decide, rfl⟩ ⟨by rw [hR]; exact Nat.le_of_ble_eq_true rfl, by rw [hR]; exact Nat.le_of_ble_eq_true rfl⟩) rfl (Nat.le_of_ble_eq_true rfl) ⟨by rw [hR]; exact Nat.le_of_ble_eq_true rfl, by rw [hR]; exact Nat.le_of_ble_eq_true rfl⟩ rfl dH_told_27) hnt hlocks hQ (Nat.le_of_ble_eq_true rfl) (Nat.le_of_ble_eq_true rfl)
    · have q_4' := q_4
      have h_6 : 2 < q := Nat.lt_of_not_le fun z => q_4 ((nI_leI (by omega) (by omega)).mpr z)
      omega
set_option maxRecDepth 100000 in
set_option maxHeartbeats 4000000 in
/-- no such formula -/
theorem t_out2 (hl9 : l.stackTraces = false) (hO : hg_ok ok) (hT : ∀ f, T f → ok 8 f ∧ ok 9 f) (hB : ∀ j u, N j u < 1000000) (x y : Nat) (hx9 : x < 20) (hy9 : y < 20) (hbad : hg_un T ad a N (20 * x + y)) : tg_MetT l yH_out wsH_out ({ frames := 7, cells := 1, slots := 6, locals := 140 }) D vwCl (hg_tys cI cF cZ cJ cA cB) F (hg_N F) ad ok (hg_w ad cF cI G a dr N bc sp μ) [.ref (ad 0 0), .int (nI (x)), .int (nI (y))] "java/util/NoSuchElementException" := by
  refine tg_startT (cc := cH_out) (maxL := 4) (ret := some .int) (by decide) rfl (Nat.le_of_ble_eq_true rfl) ?_
  intro p e R s m args below meth c Q hx hb hml hr hlocks hown hts hK hN hnt hR hQ
  have hown : s.vm.findClass "HangGraph" = some m.cls := hown
  have hts : ∀ w ∈ lw_g, w.before args s = true := fun w z => hts w (List.mem_cons_of_mem _ z)
  have hMv := hg_Mv F
  refine tg_iload_n hx hb dH_out_0 rfl rfl ?_
  refine tg_iload_n hx hb dH_out_1 rfl rfl ?_
  refine tg_callS (As := [.int (nI (x)), .int (nI (y))]) (rest := []) ⟨hx, hb, hml, hown, hts⟩ hK hN hMv (c_requireCell x y hx9 hy9) (va_cwS 2 hts (lg_S wm_H_30 wt_H_requireCell wn_H wc_H_requireCell) rfl rfl rfl ⟨by decide, by decide, rfl⟩ ⟨by rw [hR]; exact Nat.le_of_ble_eq_true rfl, by rw [hR]; exact Nat.le_of_ble_eq_true rfl⟩) rfl (Nat.le_of_ble_eq_true rfl) ⟨by rw [hR]; exact Nat.le_of_ble_eq_true rfl, by rw [hR]; exact Nat.le_of_ble_eq_true rfl⟩ rfl dH_out_2 (tg_kn rfl rfl ?_)
  refine tg_aload_n hx hb dH_out_5 rfl rfl ?_
  refine tg_iload_n hx hb dH_out_6 rfl rfl ?_
  refine tg_iload_n hx hb dH_out_7 rfl rfl ?_
  exact tg_passT (tg_runVT (C := "HangGraph") (As := [.int (nI (x)), .int (nI (y))]) (rest := []) ⟨hx, hb, hml, hown, hts⟩ hK hN hMv (hO.1 0 (by decide)) rfl rfl rfl (t_formulaNamed hl9 hO hT hB x y hx9 hy9 hbad) (cwV 2 hts (lg_V wm_H_47 wi_H_formulaNamed we_H_formulaNamed wn_H wc_H_formulaNamed) rfl rfl rfl ⟨rfl, by decide, by decide, rfl⟩ ⟨by rw [hR]; exact Nat.le_of_ble_eq_true rfl, by rw [hR]; exact Nat.le_of_ble_eq_true rfl⟩) rfl (Nat.le_of_ble_eq_true rfl) ⟨by rw [hR]; exact Nat.le_of_ble_eq_true rfl, by rw [hR]; exact Nat.le_of_ble_eq_true rfl⟩ rfl dH_out_8) hnt hlocks hQ (Nat.le_of_ble_eq_true rfl) (Nat.le_of_ble_eq_true rfl)
set_option maxRecDepth 100000 in
set_option maxHeartbeats 4000000 in
/-- rows beyond the grid -/
theorem t_speak2 (hl9 : l.stackTraces = false) (x y : Nat) (hx9 : x < 20) (hy9 : y < 20) (p9 q9 : Int32) (hbad : hg_bS p9 q9) (k1 k2 : Int32) : tg_MetT l yH_speak wsH_speak ({ frames := 7, cells := 1, slots := 6, locals := 140 }) D vwCl (hg_tys cI cF cZ cJ cA cB) F (hg_N F) ad ok w [.ref (ad 0 0), .int (nI (x)), .int (nI (y)), .int (p9), .int (k1), .int (q9), .int (k2)] "java/lang/IllegalArgumentException" := by
  refine tg_startT (cc := cH_speak) (maxL := 8) (ret := some .int) (by decide) rfl (Nat.le_of_ble_eq_true rfl) ?_
  intro p e R s m args below meth c Q hx hb hml hr hlocks hown hts hK hN hnt hR hQ
  have hown : s.vm.findClass "HangGraph" = some m.cls := hown
  have hts : ∀ w ∈ lw_g, w.before args s = true := fun w z => hts w (List.mem_cons_of_mem _ z)
  have hMv := hg_Mv F
  refine tg_iload_n hx hb dH_speak_0 rfl rfl ?_
  refine tg_iload_n hx hb dH_speak_1 rfl rfl ?_
  refine tg_callS (As := [.int (nI (x)), .int (nI (y))]) (rest := []) ⟨hx, hb, hml, hown, hts⟩ hK hN hMv (c_requireCell x y hx9 hy9) (va_cwS 2 hts (lg_S wm_H_30 wt_H_requireCell wn_H wc_H_requireCell) rfl rfl rfl ⟨by decide, by decide, rfl⟩ ⟨by rw [hR]; exact Nat.le_of_ble_eq_true rfl, by rw [hR]; exact Nat.le_of_ble_eq_true rfl⟩) rfl (Nat.le_of_ble_eq_true rfl) ⟨by rw [hR]; exact Nat.le_of_ble_eq_true rfl, by rw [hR]; exact Nat.le_of_ble_eq_true rfl⟩ rfl dH_speak_2 (tg_kn rfl rfl ?_)
  refine tg_iload_n hx hb dH_speak_5 rfl rfl ?_
  refine tg_iload hx hb dH_speak_6 rfl ?_
  exact tg_passT (tg_runST (As := [.int (p9), .int (q9)]) (rest := []) ⟨hx, hb, hml, hown, hts⟩ hK hN hMv (t_requireSpan hl9 p9 q9 hbad) (va_cwS 2 hts (lg_S wm_H_51 wt_H_requireSpan wn_H wc_H_requireSpan) rfl rfl rfl ⟨by decide, by decide, rfl⟩ ⟨by rw [hR]; exact Nat.le_of_ble_eq_true rfl, by rw [hR]; exact Nat.le_of_ble_eq_true rfl⟩) rfl (Nat.le_of_ble_eq_true rfl) ⟨by rw [hR]; exact Nat.le_of_ble_eq_true rfl, by rw [hR]; exact Nat.le_of_ble_eq_true rfl⟩ rfl dH_speak_8) hnt hlocks hQ (Nat.le_of_ble_eq_true rfl) (Nat.le_of_ble_eq_true rfl)
set_option maxRecDepth 100000 in
set_option maxHeartbeats 4000000 in
/-- columns beyond the grid -/
theorem t_speak3 (hl9 : l.stackTraces = false) (x y : Nat) (hx9 : x < 20) (hy9 : y < 20) (t0 b0 : Nat) (ht0 : t0 ≤ b0) (hb0 : b0 < 20) (p9 q9 : Int32) (hbad : hg_bS p9 q9) : tg_MetT l yH_speak wsH_speak ({ frames := 7, cells := 1, slots := 6, locals := 140 }) D vwCl (hg_tys cI cF cZ cJ cA cB) F (hg_N F) ad ok w [.ref (ad 0 0), .int (nI (x)), .int (nI (y)), .int (nI (t0)), .int (p9), .int (nI (b0)), .int (q9)] "java/lang/IllegalArgumentException" := by
  refine tg_startT (cc := cH_speak) (maxL := 8) (ret := some .int) (by decide) rfl (Nat.le_of_ble_eq_true rfl) ?_
  intro p e R s m args below meth c Q hx hb hml hr hlocks hown hts hK hN hnt hR hQ
  have hown : s.vm.findClass "HangGraph" = some m.cls := hown
  have hts : ∀ w ∈ lw_g, w.before args s = true := fun w z => hts w (List.mem_cons_of_mem _ z)
  have hMv := hg_Mv F
  refine tg_iload_n hx hb dH_speak_0 rfl rfl ?_
  refine tg_iload_n hx hb dH_speak_1 rfl rfl ?_
  refine tg_callS (As := [.int (nI (x)), .int (nI (y))]) (rest := []) ⟨hx, hb, hml, hown, hts⟩ hK hN hMv (c_requireCell x y hx9 hy9) (va_cwS 2 hts (lg_S wm_H_30 wt_H_requireCell wn_H wc_H_requireCell) rfl rfl rfl ⟨by decide, by decide, rfl⟩ ⟨by rw [hR]; exact Nat.le_of_ble_eq_true rfl, by rw [hR]; exact Nat.le_of_ble_eq_true rfl⟩) rfl (Nat.le_of_ble_eq_true rfl) ⟨by rw [hR]; exact Nat.le_of_ble_eq_true rfl, by rw [hR]; exact Nat.le_of_ble_eq_true rfl⟩ rfl dH_speak_2 (tg_kn rfl rfl ?_)
  refine tg_iload_n hx hb dH_speak_5 rfl rfl ?_
  refine tg_iload hx hb dH_speak_6 rfl ?_
  refine tg_callS (As := [.int (nI (t0)), .int (nI (b0))]) (rest := []) ⟨hx, hb, hml, hown, hts⟩ hK hN hMv (c_requireSpan t0 b0 ht0 hb0) (va_cwS 2 hts (lg_S wm_H_51 wt_H_requireSpan wn_H wc_H_requireSpan) rfl rfl rfl ⟨by decide, by decide, rfl⟩ ⟨by rw [hR]; exact Nat.le_of_ble_eq_true rfl, by rw [hR]; exact Nat.le_of_ble_eq_true rfl⟩) rfl (Nat.le_of_ble_eq_true rfl) ⟨by rw [hR]; exact Nat.le_of_ble_eq_true rfl, by rw [hR]; exact Nat.le_of_ble_eq_true rfl⟩ rfl dH_speak_8 (tg_kn rfl rfl ?_)
  refine tg_iload hx hb dH_speak_11 rfl ?_
  refine tg_iload hx hb dH_speak_13 rfl ?_
  exact tg_passT (tg_runST (As := [.int (p9), .int (q9)]) (rest := []) ⟨hx, hb, hml, hown, hts⟩ hK hN hMv (t_requireSpan hl9 p9 q9 hbad) (va_cwS 2 hts (lg_S wm_H_51 wt_H_requireSpan wn_H wc_H_requireSpan) rfl rfl rfl ⟨by decide, by decide, rfl⟩ ⟨by rw [hR]; exact Nat.le_of_ble_eq_true rfl, by rw [hR]; exact Nat.le_of_ble_eq_true rfl⟩) rfl (Nat.le_of_ble_eq_true rfl) ⟨by rw [hR]; exact Nat.le_of_ble_eq_true rfl, by rw [hR]; exact Nat.le_of_ble_eq_true rfl⟩ rfl dH_speak_15) hnt hlocks hQ (Nat.le_of_ble_eq_true rfl) (Nat.le_of_ble_eq_true rfl)
set_option maxRecDepth 100000 in
set_option maxHeartbeats 4000000 in
/-- no such formula -/
theorem t_speak4 (hl9 : l.stackTraces = false) (hO : hg_ok ok) (hT : ∀ f, T f → ok 8 f ∧ ok 9 f) (hB : ∀ j u, N j u < 1000000) (x y : Nat) (hx9 : x < 20) (hy9 : y < 20) (hbad : hg_un T ad a N (20 * x + y)) (t0 l0 b0 r0 : Nat) (ht0 : t0 ≤ b0) (hb0 : b0 < 20) (hl0 : l0 ≤ r0) (hr0 : r0 < 20) : tg_MetT l yH_speak wsH_speak ({ frames := 7, cells := 1, slots := 6, locals := 140 }) D vwCl (hg_tys cI cF cZ cJ cA cB) F (hg_N F) ad ok (hg_w ad cF cI G a dr N bc sp μ) [.ref (ad 0 0), .int (nI (x)), .int (nI (y)), .int (nI (t0)), .int (nI (l0)), .int (nI (b0)), .int (nI (r0))] "java/util/NoSuchElementException" := by
  refine tg_startT (cc := cH_speak) (maxL := 8) (ret := some .int) (by decide) rfl (Nat.le_of_ble_eq_true rfl) ?_
  intro p e R s m args below meth c Q hx hb hml hr hlocks hown hts hK hN hnt hR hQ
  have hown : s.vm.findClass "HangGraph" = some m.cls := hown
  have hts : ∀ w ∈ lw_g, w.before args s = true := fun w z => hts w (List.mem_cons_of_mem _ z)
  have hMv := hg_Mv F
  refine tg_iload_n hx hb dH_speak_0 rfl rfl ?_
  refine tg_iload_n hx hb dH_speak_1 rfl rfl ?_
  refine tg_callS (As := [.int (nI (x)), .int (nI (y))]) (rest := []) ⟨hx, hb, hml, hown, hts⟩ hK hN hMv (c_requireCell x y hx9 hy9) (va_cwS 2 hts (lg_S wm_H_30 wt_H_requireCell wn_H wc_H_requireCell) rfl rfl rfl ⟨by decide, by decide, rfl⟩ ⟨by rw [hR]; exact Nat.le_of_ble_eq_true rfl, by rw [hR]; exact Nat.le_of_ble_eq_true rfl⟩) rfl (Nat.le_of_ble_eq_true rfl) ⟨by rw [hR]; exact Nat.le_of_ble_eq_true rfl, by rw [hR]; exact Nat.le_of_ble_eq_true rfl⟩ rfl dH_speak_2 (tg_kn rfl rfl ?_)
  refine tg_iload_n hx hb dH_speak_5 rfl rfl ?_
  refine tg_iload hx hb dH_speak_6 rfl ?_
  refine tg_callS (As := [.int (nI (t0)), .int (nI (b0))]) (rest := []) ⟨hx, hb, hml, hown, hts⟩ hK hN hMv (c_requireSpan t0 b0 ht0 hb0) (va_cwS 2 hts (lg_S wm_H_51 wt_H_requireSpan wn_H wc_H_requireSpan) rfl rfl rfl ⟨by decide, by decide, rfl⟩ ⟨by rw [hR]; exact Nat.le_of_ble_eq_true rfl, by rw [hR]; exact Nat.le_of_ble_eq_true rfl⟩) rfl (Nat.le_of_ble_eq_true rfl) ⟨by rw [hR]; exact Nat.le_of_ble_eq_true rfl, by rw [hR]; exact Nat.le_of_ble_eq_true rfl⟩ rfl dH_speak_8 (tg_kn rfl rfl ?_)
  refine tg_iload hx hb dH_speak_11 rfl ?_
  refine tg_iload hx hb dH_speak_13 rfl ?_
  refine tg_callS (As := [.int (nI (l0)), .int (nI (r0))]) (rest := []) ⟨hx, hb, hml, hown, hts⟩ hK hN hMv (c_requireSpan l0 r0 hl0 hr0) (va_cwS 2 hts (lg_S wm_H_51 wt_H_requireSpan wn_H wc_H_requireSpan) rfl rfl rfl ⟨by decide, by decide, rfl⟩ ⟨by rw [hR]; exact Nat.le_of_ble_eq_true rfl, by rw [hR]; exact Nat.le_of_ble_eq_true rfl⟩) rfl (Nat.le_of_ble_eq_true rfl) ⟨by rw [hR]; exact Nat.le_of_ble_eq_true rfl, by rw [hR]; exact Nat.le_of_ble_eq_true rfl⟩ rfl dH_speak_15 (tg_kn rfl rfl ?_)
  refine tg_aload_n hx hb dH_speak_18 rfl rfl ?_
  refine tg_iload_n hx hb dH_speak_19 rfl rfl ?_
  refine tg_iload_n hx hb dH_speak_20 rfl rfl ?_
  exact tg_passT (tg_runVT (C := "HangGraph") (As := [.int (nI (x)), .int (nI (y))]) (rest := []) ⟨hx, hb, hml, hown, hts⟩ hK hN hMv (hO.1 0 (by decide)) rfl rfl rfl (t_formulaNamed hl9 hO hT hB x y hx9 hy9 hbad) (cwV 2 hts (lg_V wm_H_47 wi_H_formulaNamed we_H_formulaNamed wn_H wc_H_formulaNamed) rfl rfl rfl ⟨rfl, by decide, by decide, rfl⟩ ⟨by rw [hR]; exact Nat.le_of_ble_eq_true rfl, by rw [hR]; exact Nat.le_of_ble_eq_true rfl⟩) rfl (Nat.le_of_ble_eq_true rfl) ⟨by rw [hR]; exact Nat.le_of_ble_eq_true rfl, by rw [hR]; exact Nat.le_of_ble_eq_true rfl⟩ rfl dH_speak_21) hnt hlocks hQ (Nat.le_of_ble_eq_true rfl) (Nat.le_of_ble_eq_true rfl)
set_option maxRecDepth 100000 in
set_option maxHeartbeats 4000000 in
/-- one rectangle too many -/
theorem t_speak5 (hl9 : l.stackTraces = false) (hO : hg_ok ok) (hT : ∀ f, T f → ok 8 f ∧ ok 9 f) (hB : ∀ j u, N j u < 1000000) (x y : Nat) (hx9 : x < 20) (hy9 : y < 20) (f : Nat) (hf : T f) (ho : a 0 (20 * x + y) = some (ad 8 f)) (h0 : N 0 f = 20 * x + y) (t0 l0 b0 r0 : Nat) (ht0 : t0 ≤ b0) (hb0 : b0 < 20) (hl0 : l0 ≤ r0) (hr0 : r0 < 20) (h7 : 20 ≤ N 7 f) : tg_MetT l yH_speak wsH_speak ({ frames := 7, cells := 1, slots := 6, locals := 140 }) D vwCl (hg_tys cI cF cZ cJ cA cB) F (hg_N F) ad ok (hg_w ad cF cI G a dr N bc sp μ) [.ref (ad 0 0), .int (nI (x)), .int (nI (y)), .int (nI (t0)), .int (nI (l0)), .int (nI (b0)), .int (nI (r0))] "java/lang/IndexOutOfBoundsException" := by
  refine tg_startT (cc := cH_speak) (maxL := 8) (ret := some .int) (by decide) rfl (Nat.le_of_ble_eq_true rfl) ?_
  intro p e R s m args below meth c Q hx hb hml hr hlocks hown hts hK hN hnt hR hQ
  have hown : s.vm.findClass "HangGraph" = some m.cls := hown
  have hts : ∀ w ∈ lw_g, w.before args s = true := fun w z => hts w (List.mem_cons_of_mem _ z)
  have hMv := hg_Mv F
  refine tg_iload_n hx hb dH_speak_0 rfl rfl ?_
  refine tg_iload_n hx hb dH_speak_1 rfl rfl ?_
  refine tg_callS (As := [.int (nI (x)), .int (nI (y))]) (rest := []) ⟨hx, hb, hml, hown, hts⟩ hK hN hMv (c_requireCell x y hx9 hy9) (va_cwS 2 hts (lg_S wm_H_30 wt_H_requireCell wn_H wc_H_requireCell) rfl rfl rfl ⟨by decide, by decide, rfl⟩ ⟨by rw [hR]; exact Nat.le_of_ble_eq_true rfl, by rw [hR]; exact Nat.le_of_ble_eq_true rfl⟩) rfl (Nat.le_of_ble_eq_true rfl) ⟨by rw [hR]; exact Nat.le_of_ble_eq_true rfl, by rw [hR]; exact Nat.le_of_ble_eq_true rfl⟩ rfl dH_speak_2 (tg_kn rfl rfl ?_)
  refine tg_iload_n hx hb dH_speak_5 rfl rfl ?_
  refine tg_iload hx hb dH_speak_6 rfl ?_
  refine tg_callS (As := [.int (nI (t0)), .int (nI (b0))]) (rest := []) ⟨hx, hb, hml, hown, hts⟩ hK hN hMv (c_requireSpan t0 b0 ht0 hb0) (va_cwS 2 hts (lg_S wm_H_51 wt_H_requireSpan wn_H wc_H_requireSpan) rfl rfl rfl ⟨by decide, by decide, rfl⟩ ⟨by rw [hR]; exact Nat.le_of_ble_eq_true rfl, by rw [hR]; exact Nat.le_of_ble_eq_true rfl⟩) rfl (Nat.le_of_ble_eq_true rfl) ⟨by rw [hR]; exact Nat.le_of_ble_eq_true rfl, by rw [hR]; exact Nat.le_of_ble_eq_true rfl⟩ rfl dH_speak_8 (tg_kn rfl rfl ?_)
  refine tg_iload hx hb dH_speak_11 rfl ?_
  refine tg_iload hx hb dH_speak_13 rfl ?_
  refine tg_callS (As := [.int (nI (l0)), .int (nI (r0))]) (rest := []) ⟨hx, hb, hml, hown, hts⟩ hK hN hMv (c_requireSpan l0 r0 hl0 hr0) (va_cwS 2 hts (lg_S wm_H_51 wt_H_requireSpan wn_H wc_H_requireSpan) rfl rfl rfl ⟨by decide, by decide, rfl⟩ ⟨by rw [hR]; exact Nat.le_of_ble_eq_true rfl, by rw [hR]; exact Nat.le_of_ble_eq_true rfl⟩) rfl (Nat.le_of_ble_eq_true rfl) ⟨by rw [hR]; exact Nat.le_of_ble_eq_true rfl, by rw [hR]; exact Nat.le_of_ble_eq_true rfl⟩ rfl dH_speak_15 (tg_kn rfl rfl ?_)
  refine tg_aload_n hx hb dH_speak_18 rfl rfl ?_
  refine tg_iload_n hx hb dH_speak_19 rfl rfl ?_
  refine tg_iload_n hx hb dH_speak_20 rfl rfl ?_
  refine tg_callV (C := "HangGraph") (As := [.int (nI (x)), .int (nI (y))]) (rest := []) ⟨hx, hb, hml, hown, hts⟩ hK hN hMv (hO.1 0 (by decide)) rfl rfl rfl (c_formulaNamed hO hT hMv hB x y hx9 hy9 f hf ho h0) (cwV 2 hts (lg_V wm_H_47 wi_H_formulaNamed we_H_formulaNamed wn_H wc_H_formulaNamed) rfl rfl rfl ⟨rfl, by decide, by decide, rfl⟩ ⟨by rw [hR]; exact Nat.le_of_ble_eq_true rfl, by rw [hR]; exact Nat.le_of_ble_eq_true rfl⟩) rfl (Nat.le_of_ble_eq_true rfl) ⟨by rw [hR]; exact Nat.le_of_ble_eq_true rfl, by rw [hR]; exact Nat.le_of_ble_eq_true rfl⟩ rfl dH_speak_21 (tg_kv rfl rfl ?_)
  refine tg_astore (L' := [(0, .ref (ad 0 0)), (1, .int (nI (x))), (2, .int (nI (y))), (3, .int (nI (t0))), (4, .int (nI (l0))), (5, .int (nI (b0))), (6, .int (nI (r0))), (7, .ref (ad 8 f))]) hx hb dH_speak_24 (by decide) rfl rfl ?_
  refine tg_aload hx hb dH_speak_26 rfl ?_
  refine tg_get (T := TF) (N := 15) hx hb hts inF hown hK (hT f hf).1 rfl rfl 7 (by decide) (hts _ wf_H_54) (fun _ z => z) rfl dH_speak_28 ?_
  have hb_1 := hB 7 f
  refine tg_bipush (v := nI 20) hx hb dH_speak_31 (by decide +kernel) ?_
  refine tg_icmp_lt (tgt := 46) hx hb dH_speak_33 (by decide) (fun q_2 => ?_) (fun q_2 => ?_)
  · have q_2' := q_2
    have h_3 : N 7 f < 20 := (nI_ltI (by omega) (by omega)).mp q_2
    omega
  · have q_2' := q_2
    have h_4 : 20 ≤ N 7 f := Nat.le_of_not_lt fun z => q_2 ((nI_ltI (by omega) (by omega)).mpr z)
    exact tg_throw hx hb hml hl9 hown hts hN (by decide) (by decide +kernel) wk_H_57 wn_java_lang_IndexOutOfBoundsException (show ((59, "the formula has 20 rectangles already") : Nat × String) ∈ hg_strs by decide) hg_at_IOE1 hg_at_IOE2 hg_ot_IOE hnt hlocks hQ dH_speak_36 dH_speak_39 dH_speak_40 dH_speak_42 dH_speak_45 (by rw [hR]; exact Nat.le_of_ble_eq_true rfl) (by rw [hR]; exact Nat.le_of_ble_eq_true rfl) (by rw [hR]; exact Nat.le_of_ble_eq_true rfl) (by rw [hR]; exact Nat.le_of_ble_eq_true rfl) (Nat.le_of_ble_eq_true rfl) (Nat.le_of_ble_eq_true rfl)
set_option maxRecDepth 100000 in
set_option maxHeartbeats 4000000 in
/-- a height that doesn't fit -/
theorem t_put2 (hl9 : l.stackTraces = false) (x y : Nat) (hx9 : x < 20) (hy9 : y < 20) (q9 : Int32) (hbad : hg_bF x q9) (k1 : Int32) : tg_MetT l yH_put wsH_put ({ frames := 7, cells := 1, slots := 6, locals := 140 }) D vwCl (hg_tys cI cF cZ cJ cA cB) F (hg_N F) ad ok w [.ref (ad 0 0), .int (nI (x)), .int (nI (y)), .int (q9), .int (k1)] "java/lang/IllegalArgumentException" := by
  refine tg_startT (cc := cH_put) (maxL := 8) (ret := some .int) (by decide) rfl (Nat.le_of_ble_eq_true rfl) ?_
  intro p e R s m args below meth c Q hx hb hml hr hlocks hown hts hK hN hnt hR hQ
  have hown : s.vm.findClass "HangGraph" = some m.cls := hown
  have hts : ∀ w ∈ lw_g, w.before args s = true := fun w z => hts w (List.mem_cons_of_mem _ z)
  have hMv := hg_Mv F
  refine tg_iload_n hx hb dH_put_0 rfl rfl ?_
  refine tg_iload_n hx hb dH_put_1 rfl rfl ?_
  refine tg_callS (As := [.int (nI (x)), .int (nI (y))]) (rest := []) ⟨hx, hb, hml, hown, hts⟩ hK hN hMv (c_requireCell x y hx9 hy9) (va_cwS 2 hts (lg_S wm_H_30 wt_H_requireCell wn_H wc_H_requireCell) rfl rfl rfl ⟨by decide, by decide, rfl⟩ ⟨by rw [hR]; exact Nat.le_of_ble_eq_true rfl, by rw [hR]; exact Nat.le_of_ble_eq_true rfl⟩) rfl (Nat.le_of_ble_eq_true rfl) ⟨by rw [hR]; exact Nat.le_of_ble_eq_true rfl, by rw [hR]; exact Nat.le_of_ble_eq_true rfl⟩ rfl dH_put_2 (tg_kn rfl rfl ?_)
  refine tg_iload_n hx hb dH_put_5 rfl rfl ?_
  refine tg_iload_n hx hb dH_put_6 rfl rfl ?_
  exact tg_passT (tg_runST (As := [.int (nI (x)), .int (q9)]) (rest := []) ⟨hx, hb, hml, hown, hts⟩ hK hN hMv (t_requireFits hl9 x hx9 q9 hbad) (va_cwS 2 hts (lg_S wm_H_34 wt_H_requireFits wn_H wc_H_requireFits) rfl rfl rfl ⟨by decide, by decide, rfl⟩ ⟨by rw [hR]; exact Nat.le_of_ble_eq_true rfl, by rw [hR]; exact Nat.le_of_ble_eq_true rfl⟩) rfl (Nat.le_of_ble_eq_true rfl) ⟨by rw [hR]; exact Nat.le_of_ble_eq_true rfl, by rw [hR]; exact Nat.le_of_ble_eq_true rfl⟩ rfl dH_put_7) hnt hlocks hQ (Nat.le_of_ble_eq_true rfl) (Nat.le_of_ble_eq_true rfl)
set_option maxRecDepth 100000 in
set_option maxHeartbeats 4000000 in
/-- a width that doesn't fit -/
theorem t_put3 (hl9 : l.stackTraces = false) (x y : Nat) (hx9 : x < 20) (hy9 : y < 20) (h : Nat) (hh1 : 1 ≤ h) (hh2 : h ≤ 20 - x) (q9 : Int32) (hbad : hg_bF y q9) : tg_MetT l yH_put wsH_put ({ frames := 7, cells := 1, slots := 6, locals := 140 }) D vwCl (hg_tys cI cF cZ cJ cA cB) F (hg_N F) ad ok w [.ref (ad 0 0), .int (nI (x)), .int (nI (y)), .int (nI (h)), .int (q9)] "java/lang/IllegalArgumentException" := by
  refine tg_startT (cc := cH_put) (maxL := 8) (ret := some .int) (by decide) rfl (Nat.le_of_ble_eq_true rfl) ?_
  intro p e R s m args below meth c Q hx hb hml hr hlocks hown hts hK hN hnt hR hQ
  have hown : s.vm.findClass "HangGraph" = some m.cls := hown
  have hts : ∀ w ∈ lw_g, w.before args s = true := fun w z => hts w (List.mem_cons_of_mem _ z)
  have hMv := hg_Mv F
  refine tg_iload_n hx hb dH_put_0 rfl rfl ?_
  refine tg_iload_n hx hb dH_put_1 rfl rfl ?_
  refine tg_callS (As := [.int (nI (x)), .int (nI (y))]) (rest := []) ⟨hx, hb, hml, hown, hts⟩ hK hN hMv (c_requireCell x y hx9 hy9) (va_cwS 2 hts (lg_S wm_H_30 wt_H_requireCell wn_H wc_H_requireCell) rfl rfl rfl ⟨by decide, by decide, rfl⟩ ⟨by rw [hR]; exact Nat.le_of_ble_eq_true rfl, by rw [hR]; exact Nat.le_of_ble_eq_true rfl⟩) rfl (Nat.le_of_ble_eq_true rfl) ⟨by rw [hR]; exact Nat.le_of_ble_eq_true rfl, by rw [hR]; exact Nat.le_of_ble_eq_true rfl⟩ rfl dH_put_2 (tg_kn rfl rfl ?_)
  refine tg_iload_n hx hb dH_put_5 rfl rfl ?_
  refine tg_iload_n hx hb dH_put_6 rfl rfl ?_
  refine tg_callS (As := [.int (nI (x)), .int (nI (h))]) (rest := []) ⟨hx, hb, hml, hown, hts⟩ hK hN hMv (c_requireFits x h hx9 hh1 hh2) (va_cwS 2 hts (lg_S wm_H_34 wt_H_requireFits wn_H wc_H_requireFits) rfl rfl rfl ⟨by decide, by decide, rfl⟩ ⟨by rw [hR]; exact Nat.le_of_ble_eq_true rfl, by rw [hR]; exact Nat.le_of_ble_eq_true rfl⟩) rfl (Nat.le_of_ble_eq_true rfl) ⟨by rw [hR]; exact Nat.le_of_ble_eq_true rfl, by rw [hR]; exact Nat.le_of_ble_eq_true rfl⟩ rfl dH_put_7 (tg_kn rfl rfl ?_)
  refine tg_iload_n hx hb dH_put_10 rfl rfl ?_
  refine tg_iload hx hb dH_put_11 rfl ?_
  exact tg_passT (tg_runST (As := [.int (nI (y)), .int (q9)]) (rest := []) ⟨hx, hb, hml, hown, hts⟩ hK hN hMv (t_requireFits hl9 y hy9 q9 hbad) (va_cwS 2 hts (lg_S wm_H_34 wt_H_requireFits wn_H wc_H_requireFits) rfl rfl rfl ⟨by decide, by decide, rfl⟩ ⟨by rw [hR]; exact Nat.le_of_ble_eq_true rfl, by rw [hR]; exact Nat.le_of_ble_eq_true rfl⟩) rfl (Nat.le_of_ble_eq_true rfl) ⟨by rw [hR]; exact Nat.le_of_ble_eq_true rfl, by rw [hR]; exact Nat.le_of_ble_eq_true rfl⟩ rfl dH_put_13) hnt hlocks hQ (Nat.le_of_ble_eq_true rfl) (Nat.le_of_ble_eq_true rfl)
set_option maxRecDepth 100000 in
set_option maxHeartbeats 4000000 in
/-- blocks would overlap -/
theorem t_put4 (hl9 : l.stackTraces = false) (hO : hg_ok ok) (hov : ∀ c, c < 400 → a 0 c = none ∨ ∃ f, T f ∧ a 0 c = some (ad 8 f)) (x y : Nat) (hx9 : x < 20) (hy9 : y < 20) (h v : Nat) (hh1 : 1 ≤ h) (hh2 : h ≤ 20 - x) (hv1 : 1 ≤ v) (hv2 : v ≤ 20 - y) (hbad : ∃ i j, (x ≤ i ∧ i ≤ x + h - 1) ∧ (y ≤ j ∧ j ≤ y + v - 1) ∧ a 0 (20 * i + j) ≠ none) : tg_MetT l yH_put wsH_put ({ frames := 7, cells := 1, slots := 6, locals := 140 }) D vwCl (hg_tys cI cF cZ cJ cA cB) F (hg_N F) ad ok (hg_w ad cF cI G a dr N bc sp μ) [.ref (ad 0 0), .int (nI (x)), .int (nI (y)), .int (nI (h)), .int (nI (v))] "java/lang/IllegalStateException" := by
  refine tg_startT (cc := cH_put) (maxL := 8) (ret := some .int) (by decide) rfl (Nat.le_of_ble_eq_true rfl) ?_
  intro p e R s m args below meth c Q hx hb hml hr hlocks hown hts hK hN hnt hR hQ
  have hown : s.vm.findClass "HangGraph" = some m.cls := hown
  have hts : ∀ w ∈ lw_g, w.before args s = true := fun w z => hts w (List.mem_cons_of_mem _ z)
  have hMv := hg_Mv F
  refine tg_iload_n hx hb dH_put_0 rfl rfl ?_
  refine tg_iload_n hx hb dH_put_1 rfl rfl ?_
  refine tg_callS (As := [.int (nI (x)), .int (nI (y))]) (rest := []) ⟨hx, hb, hml, hown, hts⟩ hK hN hMv (c_requireCell x y hx9 hy9) (va_cwS 2 hts (lg_S wm_H_30 wt_H_requireCell wn_H wc_H_requireCell) rfl rfl rfl ⟨by decide, by decide, rfl⟩ ⟨by rw [hR]; exact Nat.le_of_ble_eq_true rfl, by rw [hR]; exact Nat.le_of_ble_eq_true rfl⟩) rfl (Nat.le_of_ble_eq_true rfl) ⟨by rw [hR]; exact Nat.le_of_ble_eq_true rfl, by rw [hR]; exact Nat.le_of_ble_eq_true rfl⟩ rfl dH_put_2 (tg_kn rfl rfl ?_)
  refine tg_iload_n hx hb dH_put_5 rfl rfl ?_
  refine tg_iload_n hx hb dH_put_6 rfl rfl ?_
  refine tg_callS (As := [.int (nI (x)), .int (nI (h))]) (rest := []) ⟨hx, hb, hml, hown, hts⟩ hK hN hMv (c_requireFits x h hx9 hh1 hh2) (va_cwS 2 hts (lg_S wm_H_34 wt_H_requireFits wn_H wc_H_requireFits) rfl rfl rfl ⟨by decide, by decide, rfl⟩ ⟨by rw [hR]; exact Nat.le_of_ble_eq_true rfl, by rw [hR]; exact Nat.le_of_ble_eq_true rfl⟩) rfl (Nat.le_of_ble_eq_true rfl) ⟨by rw [hR]; exact Nat.le_of_ble_eq_true rfl, by rw [hR]; exact Nat.le_of_ble_eq_true rfl⟩ rfl dH_put_7 (tg_kn rfl rfl ?_)
  refine tg_iload_n hx hb dH_put_10 rfl rfl ?_
  refine tg_iload hx hb dH_put_11 rfl ?_
  refine tg_callS (As := [.int (nI (y)), .int (nI (v))]) (rest := []) ⟨hx, hb, hml, hown, hts⟩ hK hN hMv (c_requireFits y v hy9 hv1 hv2) (va_cwS 2 hts (lg_S wm_H_34 wt_H_requireFits wn_H wc_H_requireFits) rfl rfl rfl ⟨by decide, by decide, rfl⟩ ⟨by rw [hR]; exact Nat.le_of_ble_eq_true rfl, by rw [hR]; exact Nat.le_of_ble_eq_true rfl⟩) rfl (Nat.le_of_ble_eq_true rfl) ⟨by rw [hR]; exact Nat.le_of_ble_eq_true rfl, by rw [hR]; exact Nat.le_of_ble_eq_true rfl⟩ rfl dH_put_13 (tg_kn rfl rfl ?_)
  refine tg_iload_n hx hb dH_put_16 rfl rfl ?_
  refine tg_iload_n hx hb dH_put_17 rfl rfl ?_
  refine tg_iadd hx hb dH_put_18 ?_
  refine tg_top (y := nI ((x) + (h))) (nI_add _ _) ?_
  refine tg_iconst (v := nI 1) hx hb dH_put_19 (by decide +kernel) ?_
  refine tg_isub hx hb dH_put_20 ?_
  refine tg_top (y := nI (((x) + (h)) - (1))) (pk_sub (by omega)) ?_
  refine tg_istore (L' := [(0, .ref (ad 0 0)), (1, .int (nI (x))), (2, .int (nI (y))), (3, .int (nI (h))), (4, .int (nI (v))), (5, .int (nI (((x) + (h)) - (1))))]) hx hb dH_put_21 (by decide) rfl rfl ?_
  refine tg_iload_n hx hb dH_put_23 rfl rfl ?_
  refine tg_iload hx hb dH_put_24 rfl ?_
  refine tg_iadd hx hb dH_put_26 ?_
  refine tg_top (y := nI ((y) + (v))) (nI_add _ _) ?_
  refine tg_iconst (v := nI 1) hx hb dH_put_27 (by decide +kernel) ?_
  refine tg_isub hx hb dH_put_28 ?_
  refine tg_top (y := nI (((y) + (v)) - (1))) (pk_sub (by omega)) ?_
  refine tg_istore (L' := [(0, .ref (ad 0 0)), (1, .int (nI (x))), (2, .int (nI (y))), (3, .int (nI (h))), (4, .int (nI (v))), (5, .int (nI (((x) + (h)) - (1)))), (6, .int (nI (((y) + (v)) - (1))))]) hx hb dH_put_29 (by decide) rfl rfl ?_
  refine tg_aload_n hx hb dH_put_31 rfl rfl ?_
  refine tg_iload_n hx hb dH_put_32 rfl rfl ?_
  refine tg_iload_n hx hb dH_put_33 rfl rfl ?_
  refine tg_iload hx hb dH_put_34 rfl ?_
  refine tg_iload hx hb dH_put_36 rfl ?_
  exact tg_passT (tg_runVT (C := "HangGraph") (As := [.int (nI (x)), .int (nI (y)), .int (nI (((x) + (h)) - (1))), .int (nI (((y) + (v)) - (1)))]) (rest := []) ⟨hx, hb, hml, hown, hts⟩ hK hN hMv (hO.1 0 (by decide)) rfl rfl rfl (t_requireFree hl9 hO x y (x + h - 1) (y + v - 1) (by omega) (by omega) (by omega) (by omega) hov hbad) (cwV 4 hts (lg_V wm_H_37 wi_H_requireFree we_H_requireFree wn_H wc_H_requireFree) rfl rfl rfl ⟨rfl, by decide, by decide, rfl⟩ ⟨by rw [hR]; exact Nat.le_of_ble_eq_true rfl, by rw [hR]; exact Nat.le_of_ble_eq_true rfl⟩) rfl (Nat.le_of_ble_eq_true rfl) ⟨by rw [hR]; exact Nat.le_of_ble_eq_true rfl, by rw [hR]; exact Nat.le_of_ble_eq_true rfl⟩ rfl dH_put_38) hnt hlocks hQ (Nat.le_of_ble_eq_true rfl) (Nat.le_of_ble_eq_true rfl)
end HGC
