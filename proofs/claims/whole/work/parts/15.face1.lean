/-! the face's small helpers -/
section HGA
variable {l : Launch} {D : va_G} {F : Nat → Prop} {Nn : State → Heap → Prop} {ad : Nat → Nat → Nat} {ok : Nat → Nat → Prop} {cF cI cZ cJ cA cB : ClassId} {G : Nat → Nat} {a : Nat → Nat → Option Nat} {dr : Nat → Int32} {N : Nat → Nat → Nat} {bc : Nat → Int32} {sp : Nat → Nat → Int32} {μ : Nat → Nat → va_E} {T : Nat → Prop} {w : Nat → Nat → va_E}
set_option maxRecDepth 100000 in
set_option maxHeartbeats 4000000 in
/-- a cell's number -/
theorem c_cellAt (x y : Nat) : tg_Met l yH_cellAt wsH_cellAt ({ frames := 0, cells := 0, slots := 0, locals := 0 }) D vwCl (hg_tys cI cF cZ cJ cA cB) F Nn ad ok w [.int (nI (x)), .int (nI (y))] (tg_po ad ok fun r w1 => r = some (.int (nI (20 * x + y))) ∧ w1 = w) := by
  refine tg_start (cc := cH_cellAt) (maxL := 2) (ret := some .int) (by decide) rfl (Nat.le_of_ble_eq_true rfl) ?_
  intro p e R s m args below meth c Q hx hb hml hr hlocks hown hname hts hK hN hR hQ
  have hown : s.vm.findClass "HangGraph" = some m.cls := hown
  have hts : ∀ w ∈ lw_g, w.before args s = true := fun w z => hts w (List.mem_cons_of_mem _ z)
  refine tg_bipush (v := nI 20) hx hb dH_cellAt_0 (by decide +kernel) ?_
  refine tg_iload_n hx hb dH_cellAt_2 rfl rfl ?_
  refine tg_imul hx hb dH_cellAt_3 ?_
  refine tg_top (y := nI ((20) * (x))) (pk_mul _ _) ?_
  refine tg_iload_n hx hb dH_cellAt_4 rfl rfl ?_
  refine tg_iadd hx hb dH_cellAt_5 ?_
  refine tg_top (y := nI (((20) * (x)) + (y))) (nI_add _ _) ?_
  exact tg_iret hx hb hlocks hr hQ ⟨rfl, rfl, rfl, rfl⟩ dH_cellAt_6
set_option maxRecDepth 100000 in
set_option maxHeartbeats 4000000 in
/-- the bits of columns -/
theorem c_columnBits (x y : Nat) (hxy : x ≤ y) (hy : y < 20) : tg_Met l yH_columnBits wsH_columnBits ({ frames := 0, cells := 0, slots := 0, locals := 0 }) D vwCl (hg_tys cI cF cZ cJ cA cB) F Nn ad ok w [.int (nI (x)), .int (nI (y))] (tg_po ad ok fun r w1 => r = some (.int (hg_cb x y)) ∧ w1 = w) := by
  refine tg_start (cc := cH_columnBits) (maxL := 2) (ret := some .int) (by decide) rfl (Nat.le_of_ble_eq_true rfl) ?_
  intro p e R s m args below meth c Q hx hb hml hr hlocks hown hname hts hK hN hR hQ
  have hown : s.vm.findClass "HangGraph" = some m.cls := hown
  have hts : ∀ w ∈ lw_g, w.before args s = true := fun w z => hts w (List.mem_cons_of_mem _ z)
  refine tg_iconst (v := nI 1) hx hb dH_columnBits_0 (by decide +kernel) ?_
  refine tg_iload_n hx hb dH_columnBits_1 rfl rfl ?_
  refine tg_iload_n hx hb dH_columnBits_2 rfl rfl ?_
  refine tg_isub hx hb dH_columnBits_3 ?_
  refine tg_top (y := nI ((y) - (x))) (pk_sub (by omega)) ?_
  refine tg_iconst (v := nI 1) hx hb dH_columnBits_4 (by decide +kernel) ?_
  refine tg_iadd hx hb dH_columnBits_5 ?_
  refine tg_top (y := nI (((y) - (x)) + (1))) (nI_add _ _) ?_
  refine tg_ishl hx hb dH_columnBits_6 ?_
  refine tg_iconst (v := nI 1) hx hb dH_columnBits_7 (by decide +kernel) ?_
  refine tg_isub hx hb dH_columnBits_8 ?_
  refine tg_iload_n hx hb dH_columnBits_9 rfl rfl ?_
  refine tg_ishl hx hb dH_columnBits_10 ?_
  exact tg_iret hx hb hlocks hr hQ ⟨rfl, rfl, rfl, rfl⟩ dH_columnBits_11
set_option maxRecDepth 100000 in
set_option maxHeartbeats 4000000 in
/-- a cell on the grid -/
theorem c_requireCell (x y : Nat) (hx9 : x < 20) (hy9 : y < 20) : tg_Met l yH_requireCell wsH_requireCell ({ frames := 0, cells := 0, slots := 0, locals := 0 }) D vwCl (hg_tys cI cF cZ cJ cA cB) F Nn ad ok w [.int (nI (x)), .int (nI (y))] (tg_po ad ok fun r w1 => r = none ∧ w1 = w) := by
  refine tg_start (cc := cH_requireCell) (maxL := 2) (ret := none) (by decide) rfl (Nat.le_of_ble_eq_true rfl) ?_
  intro p e R s m args below meth c Q hx hb hml hr hlocks hown hname hts hK hN hR hQ
  have hown : s.vm.findClass "HangGraph" = some m.cls := hown
  have hts : ∀ w ∈ lw_g, w.before args s = true := fun w z => hts w (List.mem_cons_of_mem _ z)
  refine tg_iload_n hx hb dH_requireCell_0 rfl rfl ?_
  refine tg_if_lt (tgt := 20) hx hb dH_requireCell_1 (by decide) (fun q_1 => ?_) (fun q_1 => ?_)
  · have q_1' := q_1
    rw [← nI_0] at q_1
    have h_2 : x < 0 := (nI_ltI (by omega) (by omega)).mp q_1
    omega
  · have q_1' := q_1
    rw [← nI_0] at q_1
    have h_3 : 0 ≤ x := Nat.le_of_not_lt fun z => q_1 ((nI_ltI (by omega) (by omega)).mpr z)
    refine tg_iload_n hx hb dH_requireCell_4 rfl rfl ?_
    refine tg_bipush (v := nI 20) hx hb dH_requireCell_5 (by decide +kernel) ?_
    refine tg_icmp_ge (tgt := 20) hx hb dH_requireCell_7 (by decide) (fun q_4 => ?_) (fun q_4 => ?_)
    · have q_4' := q_4
      have h_5 : 20 ≤ x := (nI_leI (by omega) (by omega)).mp q_4
      omega
    · have q_4' := q_4
      have h_6 : x < 20 := Nat.lt_of_not_le fun z => q_4 ((nI_leI (by omega) (by omega)).mpr z)
      refine tg_iload_n hx hb dH_requireCell_10 rfl rfl ?_
      refine tg_if_lt (tgt := 20) hx hb dH_requireCell_11 (by decide) (fun q_7 => ?_) (fun q_7 => ?_)
      · have q_7' := q_7
        rw [← nI_0] at q_7
        have h_8 : y < 0 := (nI_ltI (by omega) (by omega)).mp q_7
        omega
      · have q_7' := q_7
        rw [← nI_0] at q_7
        have h_9 : 0 ≤ y := Nat.le_of_not_lt fun z => q_7 ((nI_ltI (by omega) (by omega)).mpr z)
        refine tg_iload_n hx hb dH_requireCell_14 rfl rfl ?_
        refine tg_bipush (v := nI 20) hx hb dH_requireCell_15 (by decide +kernel) ?_
        refine tg_icmp_lt (tgt := 30) hx hb dH_requireCell_17 (by decide) (fun q_10 => ?_) (fun q_10 => ?_)
        · have q_10' := q_10
          have h_11 : y < 20 := (nI_ltI (by omega) (by omega)).mp q_10
          exact tg_vret hx hb hlocks hr hQ ⟨rfl, rfl, rfl, rfl⟩ dH_requireCell_30
        · have q_10' := q_10
          have h_12 : 20 ≤ y := Nat.le_of_not_lt fun z => q_10 ((nI_ltI (by omega) (by omega)).mpr z)
          omega
set_option maxRecDepth 100000 in
set_option maxHeartbeats 4000000 in
/-- a block that fits -/
theorem c_requireFits (x y : Nat) (hx9 : x < 20) (hy1 : 1 ≤ y) (hy9 : y ≤ 20 - x) : tg_Met l yH_requireFits wsH_requireFits ({ frames := 0, cells := 0, slots := 0, locals := 0 }) D vwCl (hg_tys cI cF cZ cJ cA cB) F Nn ad ok w [.int (nI (x)), .int (nI (y))] (tg_po ad ok fun r w1 => r = none ∧ w1 = w) := by
  refine tg_start (cc := cH_requireFits) (maxL := 2) (ret := none) (by decide) rfl (Nat.le_of_ble_eq_true rfl) ?_
  intro p e R s m args below meth c Q hx hb hml hr hlocks hown hname hts hK hN hR hQ
  have hown : s.vm.findClass "HangGraph" = some m.cls := hown
  have hts : ∀ w ∈ lw_g, w.before args s = true := fun w z => hts w (List.mem_cons_of_mem _ z)
  refine tg_iload_n hx hb dH_requireFits_0 rfl rfl ?_
  refine tg_iconst (v := nI 1) hx hb dH_requireFits_1 (by decide +kernel) ?_
  refine tg_icmp_lt (tgt := 13) hx hb dH_requireFits_2 (by decide) (fun q_1 => ?_) (fun q_1 => ?_)
  · have q_1' := q_1
    have h_2 : y < 1 := (nI_ltI (by omega) (by omega)).mp q_1
    omega
  · have q_1' := q_1
    have h_3 : 1 ≤ y := Nat.le_of_not_lt fun z => q_1 ((nI_ltI (by omega) (by omega)).mpr z)
    refine tg_iload_n hx hb dH_requireFits_5 rfl rfl ?_
    refine tg_bipush (v := nI 20) hx hb dH_requireFits_6 (by decide +kernel) ?_
    refine tg_iload_n hx hb dH_requireFits_8 rfl rfl ?_
    refine tg_isub hx hb dH_requireFits_9 ?_
    refine tg_top (y := nI ((20) - (x))) (pk_sub (by omega)) ?_
    refine tg_icmp_le (tgt := 23) hx hb dH_requireFits_10 (by decide) (fun q_4 => ?_) (fun q_4 => ?_)
    · have q_4' := q_4
      have h_5 : y ≤ (20) - (x) := (nI_leI (by omega) (by omega)).mp q_4
      exact tg_vret hx hb hlocks hr hQ ⟨rfl, rfl, rfl, rfl⟩ dH_requireFits_23
    · have q_4' := q_4
      have h_6 : (20) - (x) < y := Nat.lt_of_not_le fun z => q_4 ((nI_leI (by omega) (by omega)).mpr z)
      omega
set_option maxRecDepth 100000 in
set_option maxHeartbeats 4000000 in
/-- a span on the grid -/
theorem c_requireSpan (x y : Nat) (hxy : x ≤ y) (hy9 : y < 20) : tg_Met l yH_requireSpan wsH_requireSpan ({ frames := 0, cells := 0, slots := 0, locals := 0 }) D vwCl (hg_tys cI cF cZ cJ cA cB) F Nn ad ok w [.int (nI (x)), .int (nI (y))] (tg_po ad ok fun r w1 => r = none ∧ w1 = w) := by
  refine tg_start (cc := cH_requireSpan) (maxL := 2) (ret := none) (by decide) rfl (Nat.le_of_ble_eq_true rfl) ?_
  intro p e R s m args below meth c Q hx hb hml hr hlocks hown hname hts hK hN hR hQ
  have hown : s.vm.findClass "HangGraph" = some m.cls := hown
  have hts : ∀ w ∈ lw_g, w.before args s = true := fun w z => hts w (List.mem_cons_of_mem _ z)
  refine tg_iload_n hx hb dH_requireSpan_0 rfl rfl ?_
  refine tg_if_lt (tgt := 15) hx hb dH_requireSpan_1 (by decide) (fun q_1 => ?_) (fun q_1 => ?_)
  · have q_1' := q_1
    rw [← nI_0] at q_1
    have h_2 : x < 0 := (nI_ltI (by omega) (by omega)).mp q_1
    omega
  · have q_1' := q_1
    rw [← nI_0] at q_1
    have h_3 : 0 ≤ x := Nat.le_of_not_lt fun z => q_1 ((nI_ltI (by omega) (by omega)).mpr z)
    refine tg_iload_n hx hb dH_requireSpan_4 rfl rfl ?_
    refine tg_iload_n hx hb dH_requireSpan_5 rfl rfl ?_
    refine tg_icmp_gt (tgt := 15) hx hb dH_requireSpan_6 (by decide) (fun q_4 => ?_) (fun q_4 => ?_)
    · have q_4' := q_4
      have h_5 : y < x := (nI_ltI (by omega) (by omega)).mp q_4
      omega
    · have q_4' := q_4
      have h_6 : x ≤ y := Nat.le_of_not_lt fun z => q_4 ((nI_ltI (by omega) (by omega)).mpr z)
      refine tg_iload_n hx hb dH_requireSpan_9 rfl rfl ?_
      refine tg_bipush (v := nI 20) hx hb dH_requireSpan_10 (by decide +kernel) ?_
      refine tg_icmp_lt (tgt := 25) hx hb dH_requireSpan_12 (by decide) (fun q_7 => ?_) (fun q_7 => ?_)
      · have q_7' := q_7
        have h_8 : y < 20 := (nI_ltI (by omega) (by omega)).mp q_7
        exact tg_vret hx hb hlocks hr hQ ⟨rfl, rfl, rfl, rfl⟩ dH_requireSpan_25
      · have q_7' := q_7
        have h_9 : 20 ≤ y := Nat.le_of_not_lt fun z => q_7 ((nI_ltI (by omega) (by omega)).mpr z)
        omega
def hg_bC (p q : Int32) : Prop := p < 0 ∨ nI 20 ≤ p ∨ q < 0 ∨ ¬ q < nI 20
def hg_bF (x : Nat) (p : Int32) : Prop := p < nI 1 ∨ ¬ p ≤ nI (20 - x)
def hg_bS (p q : Int32) : Prop := p < 0 ∨ q < p ∨ ¬ q < nI 20
set_option maxRecDepth 100000 in
set_option maxHeartbeats 4000000 in
/-- no such cell -/
theorem t_requireCell (hl9 : l.stackTraces = false) (p9 q9 : Int32) (hbad : hg_bC p9 q9) : tg_MetT l yH_requireCell wsH_requireCell ({ frames := 6, cells := 1, slots := 6, locals := 90 }) D vwCl (hg_tys cI cF cZ cJ cA cB) F (hg_N F) ad ok w [.int (p9), .int (q9)] "java/lang/IllegalArgumentException" := by
  refine tg_startT (cc := cH_requireCell) (maxL := 2) (ret := none) (by decide) rfl (Nat.le_of_ble_eq_true rfl) ?_
  intro p e R s m args below meth c Q hx hb hml hr hlocks hown hts hK hN hnt hR hQ
  have hown : s.vm.findClass "HangGraph" = some m.cls := hown
  have hts : ∀ w ∈ lw_g, w.before args s = true := fun w z => hts w (List.mem_cons_of_mem _ z)
  have hMv := hg_Mv F
  refine tg_iload_n hx hb dH_requireCell_0 rfl rfl ?_
  refine tg_if_lt (tgt := 20) hx hb dH_requireCell_1 (by decide) (fun q_1 => ?_) (fun q_1 => ?_)
  · have q_1' := q_1
    exact tg_throw hx hb hml hl9 hown hts hN (by decide) (by decide +kernel) wk_H_91 wn_java_lang_IllegalArgumentException (show ((112, "no such cell") : Nat × String) ∈ hg_strs by decide) hg_at_IAE1 hg_at_IAE2 hg_ot_IAE hnt hlocks hQ dH_requireCell_20 dH_requireCell_23 dH_requireCell_24 dH_requireCell_26 dH_requireCell_29 (by rw [hR]; exact Nat.le_of_ble_eq_true rfl) (by rw [hR]; exact Nat.le_of_ble_eq_true rfl) (by rw [hR]; exact Nat.le_of_ble_eq_true rfl) (by rw [hR]; exact Nat.le_of_ble_eq_true rfl) (Nat.le_of_ble_eq_true rfl) (Nat.le_of_ble_eq_true rfl)
  · have q_1' := q_1
    refine tg_iload_n hx hb dH_requireCell_4 rfl rfl ?_
    refine tg_bipush (v := nI 20) hx hb dH_requireCell_5 (by decide +kernel) ?_
    refine tg_icmp_ge (tgt := 20) hx hb dH_requireCell_7 (by decide) (fun q_2 => ?_) (fun q_2 => ?_)
    · have q_2' := q_2
      exact tg_throw hx hb hml hl9 hown hts hN (by decide) (by decide +kernel) wk_H_91 wn_java_lang_IllegalArgumentException (show ((112, "no such cell") : Nat × String) ∈ hg_strs by decide) hg_at_IAE1 hg_at_IAE2 hg_ot_IAE hnt hlocks hQ dH_requireCell_20 dH_requireCell_23 dH_requireCell_24 dH_requireCell_26 dH_requireCell_29 (by rw [hR]; exact Nat.le_of_ble_eq_true rfl) (by rw [hR]; exact Nat.le_of_ble_eq_true rfl) (by rw [hR]; exact Nat.le_of_ble_eq_true rfl) (by rw [hR]; exact Nat.le_of_ble_eq_true rfl) (Nat.le_of_ble_eq_true rfl) (Nat.le_of_ble_eq_true rfl)
    · have q_2' := q_2
      refine tg_iload_n hx hb dH_requireCell_10 rfl rfl ?_
      refine tg_if_lt (tgt := 20) hx hb dH_requireCell_11 (by decide) (fun q_3 => ?_) (fun q_3 => ?_)
      · have q_3' := q_3
        exact tg_throw hx hb hml hl9 hown hts hN (by decide) (by decide +kernel) wk_H_91 wn_java_lang_IllegalArgumentException (show ((112, "no such cell") : Nat × String) ∈ hg_strs by decide) hg_at_IAE1 hg_at_IAE2 hg_ot_IAE hnt hlocks hQ dH_requireCell_20 dH_requireCell_23 dH_requireCell_24 dH_requireCell_26 dH_requireCell_29 (by rw [hR]; exact Nat.le_of_ble_eq_true rfl) (by rw [hR]; exact Nat.le_of_ble_eq_true rfl) (by rw [hR]; exact Nat.le_of_ble_eq_true rfl) (by rw [hR]; exact Nat.le_of_ble_eq_true rfl) (Nat.le_of_ble_eq_true rfl) (Nat.le_of_ble_eq_true rfl)
      · have q_3' := q_3
        refine tg_iload_n hx hb dH_requireCell_14 rfl rfl ?_
        refine tg_bipush (v := nI 20) hx hb dH_requireCell_15 (by decide +kernel) ?_
        refine tg_icmp_lt (tgt := 30) hx hb dH_requireCell_17 (by decide) (fun q_4 => ?_) (fun q_4 => ?_)
        · have q_4' := q_4
          rcases hbad with z | z | z | z
          · exact absurd z q_1'
          · exact absurd z q_2'
          · exact absurd z q_3'
          · exact absurd q_4' z
        · have q_4' := q_4
          exact tg_throw hx hb hml hl9 hown hts hN (by decide) (by decide +kernel) wk_H_91 wn_java_lang_IllegalArgumentException (show ((112, "no such cell") : Nat × String) ∈ hg_strs by decide) hg_at_IAE1 hg_at_IAE2 hg_ot_IAE hnt hlocks hQ dH_requireCell_20 dH_requireCell_23 dH_requireCell_24 dH_requireCell_26 dH_requireCell_29 (by rw [hR]; exact Nat.le_of_ble_eq_true rfl) (by rw [hR]; exact Nat.le_of_ble_eq_true rfl) (by rw [hR]; exact Nat.le_of_ble_eq_true rfl) (by rw [hR]; exact Nat.le_of_ble_eq_true rfl) (Nat.le_of_ble_eq_true rfl) (Nat.le_of_ble_eq_true rfl)
set_option maxRecDepth 100000 in
set_option maxHeartbeats 4000000 in
/-- a block that is empty or doesn't fit -/
theorem t_requireFits (hl9 : l.stackTraces = false) (x : Nat) (hx9 : x < 20) (q9 : Int32) (hbad : hg_bF x q9) : tg_MetT l yH_requireFits wsH_requireFits ({ frames := 6, cells := 1, slots := 6, locals := 90 }) D vwCl (hg_tys cI cF cZ cJ cA cB) F (hg_N F) ad ok w [.int (nI (x)), .int (q9)] "java/lang/IllegalArgumentException" := by
  refine tg_startT (cc := cH_requireFits) (maxL := 2) (ret := none) (by decide) rfl (Nat.le_of_ble_eq_true rfl) ?_
  intro p e R s m args below meth c Q hx hb hml hr hlocks hown hts hK hN hnt hR hQ
  have hown : s.vm.findClass "HangGraph" = some m.cls := hown
  have hts : ∀ w ∈ lw_g, w.before args s = true := fun w z => hts w (List.mem_cons_of_mem _ z)
  have hMv := hg_Mv F
  refine tg_iload_n hx hb dH_requireFits_0 rfl rfl ?_
  refine tg_iconst (v := nI 1) hx hb dH_requireFits_1 (by decide +kernel) ?_
  refine tg_icmp_lt (tgt := 13) hx hb dH_requireFits_2 (by decide) (fun q_1 => ?_) (fun q_1 => ?_)
  · have q_1' := q_1
    exact tg_throw hx hb hml hl9 hown hts hN (by decide) (by decide +kernel) wk_H_91 wn_java_lang_IllegalArgumentException (show ((114, "the block is empty or beyond the grid") : Nat × String) ∈ hg_strs by decide) hg_at_IAE1 hg_at_IAE2 hg_ot_IAE hnt hlocks hQ dH_requireFits_13 dH_requireFits_16 dH_requireFits_17 dH_requireFits_19 dH_requireFits_22 (by rw [hR]; exact Nat.le_of_ble_eq_true rfl) (by rw [hR]; exact Nat.le_of_ble_eq_true rfl) (by rw [hR]; exact Nat.le_of_ble_eq_true rfl) (by rw [hR]; exact Nat.le_of_ble_eq_true rfl) (Nat.le_of_ble_eq_true rfl) (Nat.le_of_ble_eq_true rfl)
  · have q_1' := q_1
    refine tg_iload_n hx hb dH_requireFits_5 rfl rfl ?_
    refine tg_bipush (v := nI 20) hx hb dH_requireFits_6 (by decide +kernel) ?_
    refine tg_iload_n hx hb dH_requireFits_8 rfl rfl ?_
    refine tg_isub hx hb dH_requireFits_9 ?_
    refine tg_top (y := nI ((20) - (x))) (pk_sub (by omega)) ?_
    refine tg_icmp_le (tgt := 23) hx hb dH_requireFits_10 (by decide) (fun q_2 => ?_) (fun q_2 => ?_)
    · have q_2' := q_2
      rcases hbad with z | z
      · exact absurd z q_1'
      · exact absurd q_2' z
    · have q_2' := q_2
      exact tg_throw hx hb hml hl9 hown hts hN (by decide) (by decide +kernel) wk_H_91 wn_java_lang_IllegalArgumentException (show ((114, "the block is empty or beyond the grid") : Nat × String) ∈ hg_strs by decide) hg_at_IAE1 hg_at_IAE2 hg_ot_IAE hnt hlocks hQ dH_requireFits_13 dH_requireFits_16 dH_requireFits_17 dH_requireFits_19 dH_requireFits_22 (by rw [hR]; exact Nat.le_of_ble_eq_true rfl) (by rw [hR]; exact Nat.le_of_ble_eq_true rfl) (by rw [hR]; exact Nat.le_of_ble_eq_true rfl) (by rw [hR]; exact Nat.le_of_ble_eq_true rfl) (Nat.le_of_ble_eq_true rfl) (Nat.le_of_ble_eq_true rfl)
set_option maxRecDepth 100000 in
set_option maxHeartbeats 4000000 in
/-- a span that is empty or beyond the grid -/
theorem t_requireSpan (hl9 : l.stackTraces = false) (p9 q9 : Int32) (hbad : hg_bS p9 q9) : tg_MetT l yH_requireSpan wsH_requireSpan ({ frames := 6, cells := 1, slots := 6, locals := 90 }) D vwCl (hg_tys cI cF cZ cJ cA cB) F (hg_N F) ad ok w [.int (p9), .int (q9)] "java/lang/IllegalArgumentException" := by
  refine tg_startT (cc := cH_requireSpan) (maxL := 2) (ret := none) (by decide) rfl (Nat.le_of_ble_eq_true rfl) ?_
  intro p e R s m args below meth c Q hx hb hml hr hlocks hown hts hK hN hnt hR hQ
  have hown : s.vm.findClass "HangGraph" = some m.cls := hown
  have hts : ∀ w ∈ lw_g, w.before args s = true := fun w z => hts w (List.mem_cons_of_mem _ z)
  have hMv := hg_Mv F
  refine tg_iload_n hx hb dH_requireSpan_0 rfl rfl ?_
  refine tg_if_lt (tgt := 15) hx hb dH_requireSpan_1 (by decide) (fun q_1 => ?_) (fun q_1 => ?_)
  · have q_1' := q_1
    exact tg_throw hx hb hml hl9 hown hts hN (by decide) (by decide +kernel) wk_H_91 wn_java_lang_IllegalArgumentException (show ((116, "the rectangle is empty or beyond the grid") : Nat × String) ∈ hg_strs by decide) hg_at_IAE1 hg_at_IAE2 hg_ot_IAE hnt hlocks hQ dH_requireSpan_15 dH_requireSpan_18 dH_requireSpan_19 dH_requireSpan_21 dH_requireSpan_24 (by rw [hR]; exact Nat.le_of_ble_eq_true rfl) (by rw [hR]; exact Nat.le_of_ble_eq_true rfl) (by rw [hR]; exact Nat.le_of_ble_eq_true rfl) (by rw [hR]; exact Nat.le_of_ble_eq_true rfl) (Nat.le_of_ble_eq_true rfl) (Nat.le_of_ble_eq_true rfl)
  · have q_1' := q_1
    refine tg_iload_n hx hb dH_requireSpan_4 rfl rfl ?_
    refine tg_iload_n hx hb dH_requireSpan_5 rfl rfl ?_
    refine tg_icmp_gt (tgt := 15) hx hb dH_requireSpan_6 (by decide) (fun q_2 => ?_) (fun q_2 => ?_)
    · have q_2' := q_2
      exact tg_throw hx hb hml hl9 hown hts hN (by decide) (by decide +kernel) wk_H_91 wn_java_lang_IllegalArgumentException (show ((116, "the rectangle is empty or beyond the grid") : Nat × String) ∈ hg_strs by decide) hg_at_IAE1 hg_at_IAE2 hg_ot_IAE hnt hlocks hQ dH_requireSpan_15 dH_requireSpan_18 dH_requireSpan_19 dH_requireSpan_21 dH_requireSpan_24 (by rw [hR]; exact Nat.le_of_ble_eq_true rfl) (by rw [hR]; exact Nat.le_of_ble_eq_true rfl) (by rw [hR]; exact Nat.le_of_ble_eq_true rfl) (by rw [hR]; exact Nat.le_of_ble_eq_true rfl) (Nat.le_of_ble_eq_true rfl) (Nat.le_of_ble_eq_true rfl)
    · have q_2' := q_2
      refine tg_iload_n hx hb dH_requireSpan_9 rfl rfl ?_
      refine tg_bipush (v := nI 20) hx hb dH_requireSpan_10 (by decide +kernel) ?_
      refine tg_icmp_lt (tgt := 25) hx hb dH_requireSpan_12 (by decide) (fun q_3 => ?_) (fun q_3 => ?_)
      · have q_3' := q_3
        rcases hbad with z | z | z
        · exact absurd z q_1'
        · exact absurd z q_2'
        · exact absurd q_3' z
      · have q_3' := q_3
        exact tg_throw hx hb hml hl9 hown hts hN (by decide) (by decide +kernel) wk_H_91 wn_java_lang_IllegalArgumentException (show ((116, "the rectangle is empty or beyond the grid") : Nat × String) ∈ hg_strs by decide) hg_at_IAE1 hg_at_IAE2 hg_ot_IAE hnt hlocks hQ dH_requireSpan_15 dH_requireSpan_18 dH_requireSpan_19 dH_requireSpan_21 dH_requireSpan_24 (by rw [hR]; exact Nat.le_of_ble_eq_true rfl) (by rw [hR]; exact Nat.le_of_ble_eq_true rfl) (by rw [hR]; exact Nat.le_of_ble_eq_true rfl) (by rw [hR]; exact Nat.le_of_ble_eq_true rfl) (Nat.le_of_ble_eq_true rfl) (Nat.le_of_ble_eq_true rfl)
end HGA
