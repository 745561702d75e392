/-! the face's loops -/
theorem hg_a00 (a : Nat → Nat → Option Nat) (x : Nat → Option Nat) (k : Nat) (v : Option Nat) : va_up (va_up a 0 x) 0 (va_up (va_up a 0 x 0) k v) = va_up a 0 (va_up x k v) := by
  funext j
  by_cases q : j = 0
  · rw [q, va_up_self, va_up_self, va_up_self]
  · rw [va_up_ne _ _ q, va_up_ne _ _ q, va_up_ne _ _ q]
theorem hg_s00 (sp : Nat → Nat → Int32) (f : Nat) (x : Nat → Int32) (k : Nat) (c : Int32) : va_up (va_up sp f x) f (upd (va_up sp f x f) k ((va_up sp f x f k) ||| c)) = va_up sp f (upd x k ((x k) ||| c)) := by
  funext j
  by_cases q : j = f
  · rw [q, va_up_self, va_up_self, va_up_self]
  · rw [va_up_ne _ _ q, va_up_ne _ _ q, va_up_ne _ _ q]
section HGB
variable {l : Launch} {D : va_G} {F : Nat → Prop} {Nn : State → Heap → Prop} {ad : Nat → Nat → Nat} {ok : Nat → Nat → Prop} {cF cI cZ cJ cA cB : ClassId} {G : Nat → Nat} {a : Nat → Nat → Option Nat} {dr : Nat → Int32} {N : Nat → Nat → Nat} {bc : Nat → Int32} {sp : Nat → Nat → Int32} {μ : Nat → Nat → va_E} {T : Nat → Prop} {w : Nat → Nat → va_E}
set_option maxRecDepth 100000 in
set_option maxHeartbeats 4000000 in
/-- the block is free -/
theorem c_requireFree (hO : hg_ok ok) (hMv : tg_Mv F Nn) (t0 l0 b0 r0 : Nat) (ht0 : t0 ≤ b0) (hb0 : b0 < 20) (hl0 : l0 ≤ r0) (hr0 : r0 < 20) (hfree : ∀ x y, t0 ≤ x → x ≤ b0 → l0 ≤ y → y ≤ r0 → a 0 (20 * x + y) = none) : tg_Met l yH_requireFree wsH_requireFree ({ frames := 1, cells := 0, slots := 0, locals := 40 }) D vwCl (hg_tys cI cF cZ cJ cA cB) F Nn ad ok (hg_w ad cF cI G a dr N bc sp μ) [.ref (ad 0 0), .int (nI (t0)), .int (nI (l0)), .int (nI (b0)), .int (nI (r0))] (tg_po ad ok fun r w1 => r = none ∧ w1 = (hg_w ad cF cI G a dr N bc sp μ)) := by
  refine tg_start (cc := cH_requireFree) (maxL := 7) (ret := none) (by decide) rfl (Nat.le_of_ble_eq_true rfl) ?_
  intro p e R s m args below meth c Q hx hb hml hr hlocks hown hname hts hK hN hR hQ
  have hown : s.vm.findClass "HangGraph" = some m.cls := hown
  have hts : ∀ w ∈ lw_g, w.before args s = true := fun w z => hts w (List.mem_cons_of_mem _ z)
  refine tg_iload_n hx hb dH_requireFree_0 rfl rfl ?_
  refine tg_istore (L' := [(0, .ref (ad 0 0)), (1, .int (nI (t0))), (2, .int (nI (l0))), (3, .int (nI (b0))), (4, .int (nI (r0))), (5, .int (nI (t0)))]) hx hb dH_requireFree_1 (by decide) rfl rfl ?_
  refine tg_loop (fun i : Nat => t0 ≤ i ∧ i ≤ 20) (fun i => 20 - i) (fun i => tg_W p l e R s m args below meth c Q 7 D vwCl F ad ok (hg_w ad cF cI G a dr N bc sp μ) [(0, .ref (ad 0 0)), (1, .int (nI (t0))), (2, .int (nI (l0))), (3, .int (nI (b0))), (4, .int (nI (r0))), (5, .int (nI (i)))] 0 0 3 []) ?_ t0 ⟨Nat.le_refl _, by omega⟩
  intro i ⟨hi1, hi2⟩ ih
  refine tg_iload hx hb dH_requireFree_3 rfl ?_
  refine tg_iload_n hx hb dH_requireFree_5 rfl rfl ?_
  refine tg_icmp_gt (tgt := 56) hx hb dH_requireFree_6 (by decide) (fun q_1 => ?_) (fun q_1 => ?_)
  · have q_1' := q_1
    have h_2 : b0 < i := (nI_ltI (by omega) (by omega)).mp q_1
    exact tg_vret hx hb hlocks hr hQ ⟨rfl, rfl, rfl, rfl⟩ dH_requireFree_56
  · have q_1' := q_1
    have h_3 : i ≤ b0 := Nat.le_of_not_lt fun z => q_1 ((nI_ltI (by omega) (by omega)).mpr z)
    refine tg_iload_n hx hb dH_requireFree_9 rfl rfl ?_
    refine tg_istore (L' := [(0, .ref (ad 0 0)), (1, .int (nI (t0))), (2, .int (nI (l0))), (3, .int (nI (b0))), (4, .int (nI (r0))), (5, .int (nI (i))), (6, .int (nI (l0)))]) hx hb dH_requireFree_10 (by decide) rfl rfl ?_
    refine tg_loop (fun j : Nat => l0 ≤ j ∧ j ≤ 20) (fun j => 20 - j) (fun j => tg_W p l e R s m args below meth c Q 7 D vwCl F ad ok (hg_w ad cF cI G a dr N bc sp μ) [(0, .ref (ad 0 0)), (1, .int (nI (t0))), (2, .int (nI (l0))), (3, .int (nI (b0))), (4, .int (nI (r0))), (5, .int (nI (i))), (6, .int (nI (j)))] 0 0 12 []) ?_ l0 ⟨Nat.le_refl _, by omega⟩
    intro j ⟨hj1, hj2⟩ ih2
    refine tg_iload hx hb dH_requireFree_12 rfl ?_
    refine tg_iload hx hb dH_requireFree_14 rfl ?_
    refine tg_icmp_gt (tgt := 50) hx hb dH_requireFree_16 (by decide) (fun q_4 => ?_) (fun q_4 => ?_)
    · have q_4' := q_4
      have h_5 : r0 < j := (nI_ltI (by omega) (by omega)).mp q_4
      refine tg_iinc (v := nI (i + 1)) (L' := [(0, .ref (ad 0 0)), (1, .int (nI (t0))), (2, .int (nI (l0))), (3, .int (nI (b0))), (4, .int (nI (r0))), (5, .int (nI (i + 1))), (6, .int (nI (j)))]) hx hb dH_requireFree_50 rfl (nI_1 _) (by decide) rfl rfl ?_
      refine tg_goto (tgt := 3) hx hb dH_requireFree_53 (by decide) ?_
      refine tg_sub (L' := [(0, .ref (ad 0 0)), (1, .int (nI (t0))), (2, .int (nI (l0))), (3, .int (nI (b0))), (4, .int (nI (r0))), (5, .int (nI (i + 1)))]) (fun q hq => (List.mem_append_left [(6, .int (nI (j)))] hq : q ∈ [(0, .ref (ad 0 0)), (1, .int (nI (t0))), (2, .int (nI (l0))), (3, .int (nI (b0))), (4, .int (nI (r0))), (5, .int (nI (i + 1)))] ++ [(6, .int (nI (j)))])) ?_
      exact ih (i + 1) ⟨by omega, by omega⟩ (by omega)
    · have q_4' := q_4
      have h_6 : j ≤ r0 := Nat.le_of_not_lt fun z => q_4 ((nI_ltI (by omega) (by omega)).mpr z)
      refine tg_aload_n hx hb dH_requireFree_19 rfl rfl ?_
      refine tg_get (T := TH) (N := 4) hx hb hts inH hown hK (hO.1 0 (by decide)) rfl rfl 0 (by decide) (hts _ wf_H_11) (fun _ z => z) rfl dH_requireFree_20 ?_
      refine tg_iload hx hb dH_requireFree_23 rfl ?_
      refine tg_iload hx hb dH_requireFree_25 rfl ?_
      refine tg_callS (As := [.int (nI (i)), .int (nI (j))]) (rest := [.ref (ad 1 0)]) ⟨hx, hb, hml, hown, hts⟩ hK hN hMv (c_cellAt i j) (va_cwS 2 hts (lg_S wm_H_106 wt_H_cellAt wn_H wc_H_cellAt) rfl rfl rfl ⟨by decide, by decide, rfl⟩ ⟨by rw [hR]; exact Nat.le_of_ble_eq_true rfl, by rw [hR]; exact Nat.le_of_ble_eq_true rfl⟩) rfl (Nat.le_of_ble_eq_true rfl) ⟨by rw [hR]; exact Nat.le_of_ble_eq_true rfl, by rw [hR]; exact Nat.le_of_ble_eq_true rfl⟩ rfl dH_requireFree_27 (tg_kv rfl rfl ?_)
      refine tg_aald (t0 := 1) hx hb hK (hO.1 1 (by decide)) rfl rfl (x := 20 * i + j) (by decide) (by omega) dH_requireFree_30 ?_
      refine tg_st (st' := .null :: []) (by rw [hfree i j (by omega) (by omega) (by omega) (by omega)]; rfl) ?_
      refine tg_ifnullN (tgt := 44) hx hb dH_requireFree_31 (by decide) ?_
      refine tg_iinc (v := nI (j + 1)) (L' := [(0, .ref (ad 0 0)), (1, .int (nI (t0))), (2, .int (nI (l0))), (3, .int (nI (b0))), (4, .int (nI (r0))), (5, .int (nI (i))), (6, .int (nI (j + 1)))]) hx hb dH_requireFree_44 rfl (nI_1 _) (by decide) rfl rfl ?_
      refine tg_goto (tgt := 12) hx hb dH_requireFree_47 (by decide) ?_
      exact ih2 (j + 1) ⟨by omega, by omega⟩ (by omega)
set_option maxRecDepth 100000 in
set_option maxHeartbeats 4000000 in
/-- the block is not free -/
theorem t_requireFree (hl9 : l.stackTraces = false) (hO : hg_ok ok) (t0 l0 b0 r0 : Nat) (ht0 : t0 ≤ b0) (hb0 : b0 < 20) (hl0 : l0 ≤ r0) (hr0 : r0 < 20) (hov : ∀ c, c < 400 → a 0 c = none ∨ ∃ f, T f ∧ a 0 c = some (ad 8 f)) (hbad : ∃ x y, (t0 ≤ x ∧ x ≤ b0) ∧ (l0 ≤ y ∧ y ≤ r0) ∧ a 0 (20 * x + y) ≠ none) : tg_MetT l yH_requireFree wsH_requireFree ({ frames := 6, cells := 1, slots := 6, locals := 90 }) D vwCl (hg_tys cI cF cZ cJ cA cB) F (hg_N F) ad ok (hg_w ad cF cI G a dr N bc sp μ) [.ref (ad 0 0), .int (nI (t0)), .int (nI (l0)), .int (nI (b0)), .int (nI (r0))] "java/lang/IllegalStateException" := by
  refine tg_startT (cc := cH_requireFree) (maxL := 7) (ret := none) (by decide) rfl (Nat.le_of_ble_eq_true rfl) ?_
  intro p e R s m args below meth c Q hx hb hml hr hlocks hown hts hK hN hnt hR hQ
  have hown : s.vm.findClass "HangGraph" = some m.cls := hown
  have hts : ∀ w ∈ lw_g, w.before args s = true := fun w z => hts w (List.mem_cons_of_mem _ z)
  have hMv := hg_Mv F
  refine tg_iload_n hx hb dH_requireFree_0 rfl rfl ?_
  refine tg_istore (L' := [(0, .ref (ad 0 0)), (1, .int (nI (t0))), (2, .int (nI (l0))), (3, .int (nI (b0))), (4, .int (nI (r0))), (5, .int (nI (t0)))]) hx hb dH_requireFree_1 (by decide) rfl rfl ?_
  refine tg_loop (fun i : Nat => (t0 ≤ i ∧ i ≤ 20) ∧ ∀ x y, t0 ≤ x → x < i → l0 ≤ y → y ≤ r0 → a 0 (20 * x + y) = none) (fun i => 20 - i) (fun i => tg_W p l e R s m args below meth c Q 7 D vwCl F ad ok (hg_w ad cF cI G a dr N bc sp μ) [(0, .ref (ad 0 0)), (1, .int (nI (t0))), (2, .int (nI (l0))), (3, .int (nI (b0))), (4, .int (nI (r0))), (5, .int (nI (i)))] 0 0 3 []) ?_ t0 ⟨⟨Nat.le_refl _, by omega⟩, fun x y z1 z2 => by omega⟩
  intro i ⟨⟨hi1, hi2⟩, hi3⟩ ih
  refine tg_iload hx hb dH_requireFree_3 rfl ?_
  refine tg_iload_n hx hb dH_requireFree_5 rfl rfl ?_
  refine tg_icmp_gt (tgt := 56) hx hb dH_requireFree_6 (by decide) (fun q_1 => ?_) (fun q_1 => ?_)
  · have q_1' := q_1
    have h_2 : b0 < i := (nI_ltI (by omega) (by omega)).mp q_1
    obtain ⟨x, y, z1, z2, z3⟩ := hbad
    exact absurd (hi3 x y z1.1 (by omega) z2.1 z2.2) z3
  · have q_1' := q_1
    have h_3 : i ≤ b0 := Nat.le_of_not_lt fun z => q_1 ((nI_ltI (by omega) (by omega)).mpr z)
    refine tg_iload_n hx hb dH_requireFree_9 rfl rfl ?_
    refine tg_istore (L' := [(0, .ref (ad 0 0)), (1, .int (nI (t0))), (2, .int (nI (l0))), (3, .int (nI (b0))), (4, .int (nI (r0))), (5, .int (nI (i))), (6, .int (nI (l0)))]) hx hb dH_requireFree_10 (by decide) rfl rfl ?_
    refine tg_loop (fun j : Nat => (l0 ≤ j ∧ j ≤ 20) ∧ ∀ y, l0 ≤ y → y < j → a 0 (20 * i + y) = none) (fun j => 20 - j) (fun j => tg_W p l e R s m args below meth c Q 7 D vwCl F ad ok (hg_w ad cF cI G a dr N bc sp μ) [(0, .ref (ad 0 0)), (1, .int (nI (t0))), (2, .int (nI (l0))), (3, .int (nI (b0))), (4, .int (nI (r0))), (5, .int (nI (i))), (6, .int (nI (j)))] 0 0 12 []) ?_ l0 ⟨⟨Nat.le_refl _, by omega⟩, fun y z1 z2 => by omega⟩
    intro j ⟨⟨hj1, hj2⟩, hj3⟩ ih2
    refine tg_iload hx hb dH_requireFree_12 rfl ?_
    refine tg_iload hx hb dH_requireFree_14 rfl ?_
    refine tg_icmp_gt (tgt := 50) hx hb dH_requireFree_16 (by decide) (fun q_4 => ?_) (fun q_4 => ?_)
    · have q_4' := q_4
      have h_5 : r0 < j := (nI_ltI (by omega) (by omega)).mp q_4
      refine tg_iinc (v := nI (i + 1)) (L' := [(0, .ref (ad 0 0)), (1, .int (nI (t0))), (2, .int (nI (l0))), (3, .int (nI (b0))), (4, .int (nI (r0))), (5, .int (nI (i + 1))), (6, .int (nI (j)))]) hx hb dH_requireFree_50 rfl (nI_1 _) (by decide) rfl rfl ?_
      refine tg_goto (tgt := 3) hx hb dH_requireFree_53 (by decide) ?_
      refine tg_sub (L' := [(0, .ref (ad 0 0)), (1, .int (nI (t0))), (2, .int (nI (l0))), (3, .int (nI (b0))), (4, .int (nI (r0))), (5, .int (nI (i + 1)))]) (fun q hq => (List.mem_append_left [(6, .int (nI (j)))] hq : q ∈ [(0, .ref (ad 0 0)), (1, .int (nI (t0))), (2, .int (nI (l0))), (3, .int (nI (b0))), (4, .int (nI (r0))), (5, .int (nI (i + 1)))] ++ [(6, .int (nI (j)))])) ?_
      refine ih (i + 1) ⟨⟨by omega, by omega⟩, fun x y z1 z2 z3 z4 => ?_⟩ (by omega)
      by_cases z : x = i
      · rw [z]; exact hj3 y z3 (by omega)
      · exact hi3 x y z1 (by omega) z3 z4
    · have q_4' := q_4
      have h_6 : j ≤ r0 := Nat.le_of_not_lt fun z => q_4 ((nI_ltI (by omega) (by omega)).mpr z)
      refine tg_aload_n hx hb dH_requireFree_19 rfl rfl ?_
      refine tg_get (T := TH) (N := 4) hx hb hts inH hown hK (hO.1 0 (by decide)) rfl rfl 0 (by decide) (hts _ wf_H_11) (fun _ z => z) rfl dH_requireFree_20 ?_
      refine tg_iload hx hb dH_requireFree_23 rfl ?_
      refine tg_iload hx hb dH_requireFree_25 rfl ?_
      refine tg_callS (As := [.int (nI (i)), .int (nI (j))]) (rest := [.ref (ad 1 0)]) ⟨hx, hb, hml, hown, hts⟩ hK hN hMv (c_cellAt i j) (va_cwS 2 hts (lg_S wm_H_106 wt_H_cellAt wn_H wc_H_cellAt) rfl rfl rfl ⟨by decide, by decide, rfl⟩ ⟨by rw [hR]; exact Nat.le_of_ble_eq_true rfl, by rw [hR]; exact Nat.le_of_ble_eq_true rfl⟩) rfl (Nat.le_of_ble_eq_true rfl) ⟨by rw [hR]; exact Nat.le_of_ble_eq_true rfl, by rw [hR]; exact Nat.le_of_ble_eq_true rfl⟩ rfl dH_requireFree_27 (tg_kv rfl rfl ?_)
      refine tg_aald (t0 := 1) hx hb hK (hO.1 1 (by decide)) rfl rfl (x := 20 * i + j) (by decide) (by omega) dH_requireFree_30 ?_
      rcases hov (20 * i + j) (by omega) with ho1 | ⟨f, hfT, ho1⟩
      · refine tg_st (st' := [.null]) (by rw [ho1]; rfl) ?_
        refine tg_ifnullN (tgt := 44) hx hb dH_requireFree_31 (by decide) ?_
        refine tg_iinc (v := nI (j + 1)) (L' := [(0, .ref (ad 0 0)), (1, .int (nI (t0))), (2, .int (nI (l0))), (3, .int (nI (b0))), (4, .int (nI (r0))), (5, .int (nI (i))), (6, .int (nI (j + 1)))]) hx hb dH_requireFree_44 rfl (nI_1 _) (by decide) rfl rfl ?_
        refine tg_goto (tgt := 12) hx hb dH_requireFree_47 (by decide) ?_
        refine ih2 (j + 1) ⟨⟨by omega, by omega⟩, fun y z1 z2 => ?_⟩ (by omega)
        by_cases z : y = j
        · rw [z]; exact ho1
        · exact hj3 y z1 (by omega)
      · refine tg_st (st' := [.ref (ad 8 f)]) (by rw [ho1]; rfl) ?_
        refine tg_ifnull hx hb dH_requireFree_31 ?_
        exact tg_throw hx hb hml hl9 hown hts hN (by decide) (by decide +kernel) wk_H_118 wn_java_lang_IllegalStateException (show ((120, "blocks would overlap") : Nat × String) ∈ hg_strs by decide) hg_at_ISE1 hg_at_ISE2 hg_ot_ISE hnt hlocks hQ dH_requireFree_34 dH_requireFree_37 dH_requireFree_38 dH_requireFree_40 dH_requireFree_43 (by rw [hR]; exact Nat.le_of_ble_eq_true rfl) (by rw [hR]; exact Nat.le_of_ble_eq_true rfl) (by rw [hR]; exact Nat.le_of_ble_eq_true rfl) (by rw [hR]; exact Nat.le_of_ble_eq_true rfl) (Nat.le_of_ble_eq_true rfl) (Nat.le_of_ble_eq_true rfl)
set_option maxRecDepth 100000 in
set_option maxHeartbeats 4000000 in
/-- f is over its block from now -/
theorem c_cover (hO : hg_ok ok) (hT : ∀ f, T f → ok 8 f ∧ ok 9 f) (hMv : tg_Mv F Nn) (f : Nat) (hf : T f) (hN1 : N 1 f ≤ N 3 f) (hN3 : N 3 f < 20) (hN2 : N 2 f ≤ N 4 f) (hN4 : N 4 f < 20) : tg_Met l yH_cover wsH_cover ({ frames := 1, cells := 0, slots := 0, locals := 40 }) D vwCl (hg_tys cI cF cZ cJ cA cB) F Nn ad ok (hg_w ad cF cI G a dr N bc sp μ) [.ref (ad 0 0), .ref (ad 8 f), .ref (ad 8 f)] (tg_po ad ok fun r w1 => r = none ∧ w1 = (hg_w ad cF cI G (va_up a 0 (hg_cp (a 0) (N 1 f) (N 2 f) (N 4 f) (N 3 f + 1) (N 2 f) (some (ad 8 f)))) dr N bc sp μ)) := by
  refine tg_start (cc := cH_cover) (maxL := 5) (ret := none) (by decide) rfl (Nat.le_of_ble_eq_true rfl) ?_
  intro p e R s m args below meth c Q hx hb hml hr hlocks hown hname hts hK hN hR hQ
  have hown : s.vm.findClass "HangGraph" = some m.cls := hown
  have hts : ∀ w ∈ lw_g, w.before args s = true := fun w z => hts w (List.mem_cons_of_mem _ z)
  refine tg_w (w' := (hg_w ad cF cI G (va_up a 0 (hg_cp (a 0) (N 1 f) (N 2 f) (N 4 f) (N 1 f) (N 2 f) (some (ad 8 f)))) dr N bc sp μ)) (by rw [hg_cp_0, hg_aup rfl]) ?_
  refine tg_aload_n hx hb dH_cover_0 rfl rfl ?_
  refine tg_get (T := TF) (N := 15) hx hb hts inF hown hK (hT f hf).1 rfl rfl 1 (by decide) (hts _ wf_H_128) (fun _ z => z) rfl dH_cover_1 ?_
  refine tg_istore_n (L' := [(0, .ref (ad 0 0)), (1, .ref (ad 8 f)), (2, .ref (ad 8 f)), (3, .int (nI (N 1 f)))]) hx hb dH_cover_4 rfl (by decide) rfl rfl ?_
  refine tg_loop (fun i : Nat => N 1 f ≤ i ∧ i ≤ N 3 f + 1) (fun i => 20 - i) (fun i => tg_W p l e R s m args below meth c Q 5 D vwCl F ad ok (hg_w ad cF cI G (va_up a 0 (hg_cp (a 0) (N 1 f) (N 2 f) (N 4 f) (i) (N 2 f) (some (ad 8 f)))) dr N bc sp μ) [(0, .ref (ad 0 0)), (1, .ref (ad 8 f)), (2, .ref (ad 8 f)), (3, .int (nI (i)))] 0 0 5 []) ?_ (N 1 f) ⟨Nat.le_refl _, by omega⟩
  intro i ⟨hi1, hi2⟩ ih
  refine tg_iload_n hx hb dH_cover_5 rfl rfl ?_
  refine tg_aload_n hx hb dH_cover_6 rfl rfl ?_
  refine tg_get (T := TF) (N := 15) hx hb hts inF hown hK (hT f hf).1 rfl rfl 3 (by decide) (hts _ wf_H_131) (fun _ z => z) rfl dH_cover_7 ?_
  refine tg_icmp_gt (tgt := 52) hx hb dH_cover_10 (by decide) (fun q_1 => ?_) (fun q_1 => ?_)
  · have q_1' := q_1
    have h_2 : N 3 f < i := (nI_ltI (by omega) (by omega)).mp q_1
    have ei : i = N 3 f + 1 := by omega
    subst ei
    exact tg_vret hx hb hlocks hr hQ ⟨rfl, rfl, rfl, rfl⟩ dH_cover_52
  · have q_1' := q_1
    have h_3 : i ≤ N 3 f := Nat.le_of_not_lt fun z => q_1 ((nI_ltI (by omega) (by omega)).mpr z)
    refine tg_aload_n hx hb dH_cover_13 rfl rfl ?_
    refine tg_get (T := TF) (N := 15) hx hb hts inF hown hK (hT f hf).1 rfl rfl 2 (by decide) (hts _ wf_H_134) (fun _ z => z) rfl dH_cover_14 ?_
    refine tg_istore (L' := [(0, .ref (ad 0 0)), (1, .ref (ad 8 f)), (2, .ref (ad 8 f)), (3, .int (nI (i))), (4, .int (nI (N 2 f)))]) hx hb dH_cover_17 (by decide) rfl rfl ?_
    refine tg_loop (fun j : Nat => N 2 f ≤ j ∧ j ≤ 20) (fun j => 20 - j) (fun j => tg_W p l e R s m args below meth c Q 5 D vwCl F ad ok (hg_w ad cF cI G (va_up a 0 (hg_cp (a 0) (N 1 f) (N 2 f) (N 4 f) (i) (j) (some (ad 8 f)))) dr N bc sp μ) [(0, .ref (ad 0 0)), (1, .ref (ad 8 f)), (2, .ref (ad 8 f)), (3, .int (nI (i))), (4, .int (nI (j)))] 0 0 19 []) ?_ (N 2 f) ⟨Nat.le_refl _, by omega⟩
    intro j ⟨hj1, hj2⟩ ih2
    refine tg_iload hx hb dH_cover_19 rfl ?_
    refine tg_aload_n hx hb dH_cover_21 rfl rfl ?_
    refine tg_get (T := TF) (N := 15) hx hb hts inF hown hK (hT f hf).1 rfl rfl 4 (by decide) (hts _ wf_H_137) (fun _ z => z) rfl dH_cover_22 ?_
    refine tg_icmp_gt (tgt := 46) hx hb dH_cover_25 (by decide) (fun q_4 => ?_) (fun q_4 => ?_)
    · have q_4' := q_4
      have h_5 : N 4 f < j := (nI_ltI (by omega) (by omega)).mp q_4
      refine tg_iinc (v := nI (i + 1)) (L' := [(0, .ref (ad 0 0)), (1, .ref (ad 8 f)), (2, .ref (ad 8 f)), (3, .int (nI (i + 1))), (4, .int (nI (j)))]) hx hb dH_cover_46 rfl (nI_1 _) (by decide) rfl rfl ?_
      refine tg_goto (tgt := 5) hx hb dH_cover_49 (by decide) ?_
      refine tg_sub (L' := [(0, .ref (ad 0 0)), (1, .ref (ad 8 f)), (2, .ref (ad 8 f)), (3, .int (nI (i + 1)))]) (fun q hq => (List.mem_append_left [(4, .int (nI (j)))] hq : q ∈ [(0, .ref (ad 0 0)), (1, .ref (ad 8 f)), (2, .ref (ad 8 f)), (3, .int (nI (i + 1)))] ++ [(4, .int (nI (j)))])) ?_
      rw [hg_cp_row _ _ _ _ _ _ _ (show N 4 f < j by omega)]
      exact ih (i + 1) ⟨by omega, by omega⟩ (by omega)
    · have q_4' := q_4
      have h_6 : j ≤ N 4 f := Nat.le_of_not_lt fun z => q_4 ((nI_ltI (by omega) (by omega)).mpr z)
      refine tg_aload_n hx hb dH_cover_28 rfl rfl ?_
      refine tg_get (T := TH) (N := 4) hx hb hts inH hown hK (hO.1 0 (by decide)) rfl rfl 0 (by decide) (hts _ wf_H_11) (fun _ z => z) rfl dH_cover_29 ?_
      refine tg_iload_n hx hb dH_cover_32 rfl rfl ?_
      refine tg_iload hx hb dH_cover_33 rfl ?_
      refine tg_callS (As := [.int (nI (i)), .int (nI (j))]) (rest := [.ref (ad 1 0)]) ⟨hx, hb, hml, hown, hts⟩ hK hN hMv (c_cellAt i j) (va_cwS 2 hts (lg_S wm_H_106 wt_H_cellAt wn_H wc_H_cellAt) rfl rfl rfl ⟨by decide, by decide, rfl⟩ ⟨by rw [hR]; exact Nat.le_of_ble_eq_true rfl, by rw [hR]; exact Nat.le_of_ble_eq_true rfl⟩) rfl (Nat.le_of_ble_eq_true rfl) ⟨by rw [hR]; exact Nat.le_of_ble_eq_true rfl, by rw [hR]; exact Nat.le_of_ble_eq_true rfl⟩ rfl dH_cover_35 (tg_kv rfl rfl ?_)
      refine tg_aload_n hx hb dH_cover_38 rfl rfl ?_
      refine tg_aast (t0 := 1) hx hb hK (hO.1 1 (by decide)) rfl rfl (hT f hf).1 rfl rfl (x := 20 * i + j) (by decide) (by omega) dH_cover_39 ?_
      refine tg_wp (hg_w_a0 hO (20 * i + j) (some (ad 8 f))) ?_
      refine tg_iinc (v := nI (j + 1)) (L' := [(0, .ref (ad 0 0)), (1, .ref (ad 8 f)), (2, .ref (ad 8 f)), (3, .int (nI (i))), (4, .int (nI (j + 1)))]) hx hb dH_cover_40 rfl (nI_1 _) (by decide) rfl rfl ?_
      refine tg_goto (tgt := 19) hx hb dH_cover_43 (by decide) ?_
      rw [hg_a00, hg_cp_step _ _ _ _ _ _ _ (by omega) (by omega) (by omega) (by omega)]
      exact ih2 (j + 1) ⟨by omega, by omega⟩ (by omega)
set_option maxRecDepth 100000 in
set_option maxHeartbeats 4000000 in
/-- nothing is over f's block from now -/
theorem c_uncover (hO : hg_ok ok) (hT : ∀ f, T f → ok 8 f ∧ ok 9 f) (hMv : tg_Mv F Nn) (f : Nat) (hf : T f) (hN1 : N 1 f ≤ N 3 f) (hN3 : N 3 f < 20) (hN2 : N 2 f ≤ N 4 f) (hN4 : N 4 f < 20) : tg_Met l yH_cover wsH_cover ({ frames := 1, cells := 0, slots := 0, locals := 40 }) D vwCl (hg_tys cI cF cZ cJ cA cB) F Nn ad ok (hg_w ad cF cI G a dr N bc sp μ) [.ref (ad 0 0), .ref (ad 8 f), .null] (tg_po ad ok fun r w1 => r = none ∧ w1 = (hg_w ad cF cI G (va_up a 0 (hg_cp (a 0) (N 1 f) (N 2 f) (N 4 f) (N 3 f + 1) (N 2 f) none)) dr N bc sp μ)) := by
  refine tg_start (cc := cH_cover) (maxL := 5) (ret := none) (by decide) rfl (Nat.le_of_ble_eq_true rfl) ?_
  intro p e R s m args below meth c Q hx hb hml hr hlocks hown hname hts hK hN hR hQ
  have hown : s.vm.findClass "HangGraph" = some m.cls := hown
  have hts : ∀ w ∈ lw_g, w.before args s = true := fun w z => hts w (List.mem_cons_of_mem _ z)
  refine tg_w (w' := (hg_w ad cF cI G (va_up a 0 (hg_cp (a 0) (N 1 f) (N 2 f) (N 4 f) (N 1 f) (N 2 f) none)) dr N bc sp μ)) (by rw [hg_cp_0, hg_aup rfl]) ?_
  refine tg_aload_n hx hb dH_cover_0 rfl rfl ?_
  refine tg_get (T := TF) (N := 15) hx hb hts inF hown hK (hT f hf).1 rfl rfl 1 (by decide) (hts _ wf_H_128) (fun _ z => z) rfl dH_cover_1 ?_
  refine tg_istore_n (L' := [(0, .ref (ad 0 0)), (1, .ref (ad 8 f)), (2, .null), (3, .int (nI (N 1 f)))]) hx hb dH_cover_4 rfl (by decide) rfl rfl ?_
  refine tg_loop (fun i : Nat => N 1 f ≤ i ∧ i ≤ N 3 f + 1) (fun i => 20 - i) (fun i => tg_W p l e R s m args below meth c Q 5 D vwCl F ad ok (hg_w ad cF cI G (va_up a 0 (hg_cp (a 0) (N 1 f) (N 2 f) (N 4 f) (i) (N 2 f) none)) dr N bc sp μ) [(0, .ref (ad 0 0)), (1, .ref (ad 8 f)), (2, .null), (3, .int (nI (i)))] 0 0 5 []) ?_ (N 1 f) ⟨Nat.le_refl _, by omega⟩
  intro i ⟨hi1, hi2⟩ ih
  refine tg_iload_n hx hb dH_cover_5 rfl rfl ?_
  refine tg_aload_n hx hb dH_cover_6 rfl rfl ?_
  refine tg_get (T := TF) (N := 15) hx hb hts inF hown hK (hT f hf).1 rfl rfl 3 (by decide) (hts _ wf_H_131) (fun _ z => z) rfl dH_cover_7 ?_
  refine tg_icmp_gt (tgt := 52) hx hb dH_cover_10 (by decide) (fun q_1 => ?_) (fun q_1 => ?_)
  · have q_1' := q_1
    have h_2 : N 3 f < i := (nI_ltI (by omega) (by omega)).mp q_1
    have ei : i = N 3 f + 1 := by omega
    subst ei
    exact tg_vret hx hb hlocks hr hQ ⟨rfl, rfl, rfl, rfl⟩ dH_cover_52
  · have q_1' := q_1
    have h_3 : i ≤ N 3 f := Nat.le_of_not_lt fun z => q_1 ((nI_ltI (by omega) (by omega)).mpr z)
    refine tg_aload_n hx hb dH_cover_13 rfl rfl ?_
    refine tg_get (T := TF) (N := 15) hx hb hts inF hown hK (hT f hf).1 rfl rfl 2 (by decide) (hts _ wf_H_134) (fun _ z => z) rfl dH_cover_14 ?_
    refine tg_istore (L' := [(0, .ref (ad 0 0)), (1, .ref (ad 8 f)), (2, .null), (3, .int (nI (i))), (4, .int (nI (N 2 f)))]) hx hb dH_cover_17 (by decide) rfl rfl ?_
    refine tg_loop (fun j : Nat => N 2 f ≤ j ∧ j ≤ 20) (fun j => 20 - j) (fun j => tg_W p l e R s m args below meth c Q 5 D vwCl F ad ok (hg_w ad cF cI G (va_up a 0 (hg_cp (a 0) (N 1 f) (N 2 f) (N 4 f) (i) (j) none)) dr N bc sp μ) [(0, .ref (ad 0 0)), (1, .ref (ad 8 f)), (2, .null), (3, .int (nI (i))), (4, .int (nI (j)))] 0 0 19 []) ?_ (N 2 f) ⟨Nat.le_refl _, by omega⟩
    intro j ⟨hj1, hj2⟩ ih2
    refine tg_iload hx hb dH_cover_19 rfl ?_
    refine tg_aload_n hx hb dH_cover_21 rfl rfl ?_
    refine tg_get (T := TF) (N := 15) hx hb hts inF hown hK (hT f hf).1 rfl rfl 4 (by decide) (hts _ wf_H_137) (fun _ z => z) rfl dH_cover_22 ?_
    refine tg_icmp_gt (tgt := 46) hx hb dH_cover_25 (by decide) (fun q_4 => ?_) (fun q_4 => ?_)
    · have q_4' := q_4
      have h_5 : N 4 f < j := (nI_ltI (by omega) (by omega)).mp q_4
      refine tg_iinc (v := nI (i + 1)) (L' := [(0, .ref (ad 0 0)), (1, .ref (ad 8 f)), (2, .null), (3, .int (nI (i + 1))), (4, .int (nI (j)))]) hx hb dH_cover_46 rfl (nI_1 _) (by decide) rfl rfl ?_
      refine tg_goto (tgt := 5) hx hb dH_cover_49 (by decide) ?_
      refine tg_sub (L' := [(0, .ref (ad 0 0)), (1, .ref (ad 8 f)), (2, .null), (3, .int (nI (i + 1)))]) (fun q hq => (List.mem_append_left [(4, .int (nI (j)))] hq : q ∈ [(0, .ref (ad 0 0)), (1, .ref (ad 8 f)), (2, .null), (3, .int (nI (i + 1)))] ++ [(4, .int (nI (j)))])) ?_
      rw [hg_cp_row _ _ _ _ _ _ _ (show N 4 f < j by omega)]
      exact ih (i + 1) ⟨by omega, by omega⟩ (by omega)
    · have q_4' := q_4
      have h_6 : j ≤ N 4 f := Nat.le_of_not_lt fun z => q_4 ((nI_ltI (by omega) (by omega)).mpr z)
      refine tg_aload_n hx hb dH_cover_28 rfl rfl ?_
      refine tg_get (T := TH) (N := 4) hx hb hts inH hown hK (hO.1 0 (by decide)) rfl rfl 0 (by decide) (hts _ wf_H_11) (fun _ z => z) rfl dH_cover_29 ?_
      refine tg_iload_n hx hb dH_cover_32 rfl rfl ?_
      refine tg_iload hx hb dH_cover_33 rfl ?_
      refine tg_callS (As := [.int (nI (i)), .int (nI (j))]) (rest := [.ref (ad 1 0)]) ⟨hx, hb, hml, hown, hts⟩ hK hN hMv (c_cellAt i j) (va_cwS 2 hts (lg_S wm_H_106 wt_H_cellAt wn_H wc_H_cellAt) rfl rfl rfl ⟨by decide, by decide, rfl⟩ ⟨by rw [hR]; exact Nat.le_of_ble_eq_true rfl, by rw [hR]; exact Nat.le_of_ble_eq_true rfl⟩) rfl (Nat.le_of_ble_eq_true rfl) ⟨by rw [hR]; exact Nat.le_of_ble_eq_true rfl, by rw [hR]; exact Nat.le_of_ble_eq_true rfl⟩ rfl dH_cover_35 (tg_kv rfl rfl ?_)
      refine tg_aload_nN hx hb dH_cover_38 rfl rfl ?_
      refine tg_aastN (t0 := 1) hx hb hK (hO.1 1 (by decide)) rfl rfl (x := 20 * i + j) (by decide) (by omega) dH_cover_39 ?_
      refine tg_wp (hg_w_a0 hO (20 * i + j) none) ?_
      refine tg_iinc (v := nI (j + 1)) (L' := [(0, .ref (ad 0 0)), (1, .ref (ad 8 f)), (2, .null), (3, .int (nI (i))), (4, .int (nI (j + 1)))]) hx hb dH_cover_40 rfl (nI_1 _) (by decide) rfl rfl ?_
      refine tg_goto (tgt := 19) hx hb dH_cover_43 (by decide) ?_
      rw [hg_a00, hg_cp_step _ _ _ _ _ _ _ (by omega) (by omega) (by omega) (by omega)]
      exact ih2 (j + 1) ⟨by omega, by omega⟩ (by omega)
set_option maxRecDepth 100000 in
set_option maxHeartbeats 4000000 in
/-- one more rectangle -/
theorem c_addRectangle (hO : hg_ok ok) (hT : ∀ f, T f → ok 8 f ∧ ok 9 f) (hB : ∀ j u, N j u < 1000000) (f : Nat) (hf : T f) (t0 l0 b0 r0 : Nat) (ht0 : t0 ≤ b0) (hb0 : b0 < 20) (hl0 : l0 ≤ r0) (hr0 : r0 < 20) : tg_Met l yF_addRectangle wsF_addRectangle ({ frames := 1, cells := 0, slots := 0, locals := 40 }) D vwCl (hg_tys cI cF cZ cJ cA cB) F (hg_N F) ad ok (hg_w ad cF cI G a dr N bc sp μ) [.ref (ad 8 f), .int (nI (t0)), .int (nI (l0)), .int (nI (b0)), .int (nI (r0))] (tg_po ad ok fun r w1 => r = none ∧ w1 = hg_w ad cF cI G a dr (tg_up N 7 f (N 7 f + 1)) bc (va_up sp f (hg_or (sp f) t0 (b0 + 1) (hg_cb l0 r0))) μ) := by
  refine tg_start (cc := cF_addRectangle) (maxL := 7) (ret := none) (by decide) rfl (Nat.le_of_ble_eq_true rfl) ?_
  intro p e R s m args below meth c Q hx hb hml hr hlocks hown hname hts hK hN hR hQ
  have hown : s.vm.findClass "HangGraph$Formula" = some m.cls := hown
  have hts : ∀ w ∈ lw_g, w.before args s = true := fun w z => hts w (List.mem_cons_of_mem _ z)
  have hMv := hg_Mv F
  have hNest := hN.1
  refine tg_iload_n hx hb dF_addRectangle_0 rfl rfl ?_
  refine tg_iload hx hb dF_addRectangle_1 rfl ?_
  refine tg_callSN (As := [.int (nI (l0)), .int (nI (r0))]) (rest := []) ⟨hx, hb, hml, hown, hts⟩ hK hN hMv (c_columnBits l0 r0 hl0 hr0) ⟨va_cnB 2 hts (lg_N wc_H_columnBits) rfl rfl rfl (hNest (.methodLinkNest "HangGraph$Formula" 31 yH_columnBits "HangGraph") (by decide)) (hts _ wn_H) ⟨by decide, by decide, rfl⟩ ⟨by rw [hR]; exact Nat.le_of_ble_eq_true rfl, by rw [hR]; exact Nat.le_of_ble_eq_true rfl⟩, hts _ wt_H_columnBits, trivial⟩ rfl (Nat.le_of_ble_eq_true rfl) ⟨by rw [hR]; exact Nat.le_of_ble_eq_true rfl, by rw [hR]; exact Nat.le_of_ble_eq_true rfl⟩ rfl dF_addRectangle_3 (tg_kv rfl rfl ?_)
  refine tg_istore (L' := [(0, .ref (ad 8 f)), (1, .int (nI (t0))), (2, .int (nI (l0))), (3, .int (nI (b0))), (4, .int (nI (r0))), (5, .int (hg_cb l0 r0))]) hx hb dF_addRectangle_6 (by decide) rfl rfl ?_
  refine tg_iload_n hx hb dF_addRectangle_8 rfl rfl ?_
  refine tg_istore (L' := [(0, .ref (ad 8 f)), (1, .int (nI (t0))), (2, .int (nI (l0))), (3, .int (nI (b0))), (4, .int (nI (r0))), (5, .int (hg_cb l0 r0)), (6, .int (nI (t0)))]) hx hb dF_addRectangle_9 (by decide) rfl rfl ?_
  refine tg_w (w' := (hg_w ad cF cI G a dr N bc (va_up sp f (hg_or (sp f) t0 (t0) (hg_cb l0 r0))) μ)) (by rw [hg_or_0, hg_spup rfl]) ?_
  refine tg_loop (fun i : Nat => t0 ≤ i ∧ i ≤ b0 + 1) (fun i => 20 - i) (fun i => tg_W p l e R s m args below meth c Q 7 D vwCl F ad ok (hg_w ad cF cI G a dr N bc (va_up sp f (hg_or (sp f) t0 (i) (hg_cb l0 r0))) μ) [(0, .ref (ad 8 f)), (1, .int (nI (t0))), (2, .int (nI (l0))), (3, .int (nI (b0))), (4, .int (nI (r0))), (5, .int (hg_cb l0 r0)), (6, .int (nI (i)))] 0 0 11 []) ?_ t0 ⟨Nat.le_refl _, by omega⟩
  intro i ⟨hi1, hi2⟩ ih
  refine tg_iload hx hb dF_addRectangle_11 rfl ?_
  refine tg_iload_n hx hb dF_addRectangle_13 rfl rfl ?_
  refine tg_icmp_gt (tgt := 35) hx hb dF_addRectangle_14 (by decide) (fun q_1 => ?_) (fun q_1 => ?_)
  · have q_1' := q_1
    have h_2 : b0 < i := (nI_ltI (by omega) (by omega)).mp q_1
    refine tg_aload_n hx hb dF_addRectangle_35 rfl rfl ?_
    refine tg_dup hx hb dF_addRectangle_36 rfl ?_
    refine tg_get (T := TF) (N := 15) hx hb hts inF hown hK (hT f hf).1 rfl rfl 7 (by decide) (hts _ wf_F_41) (fun _ z => z) rfl dF_addRectangle_37 ?_
    have hb_3 := hB 7 f
    refine tg_iconst (v := nI 1) hx hb dF_addRectangle_40 (by decide +kernel) ?_
    refine tg_iadd hx hb dF_addRectangle_41 ?_
    refine tg_top (y := nI ((N 7 f) + (1))) (nI_add _ _) ?_
    refine tg_put (T := TF) (N := 15) (ty := .int) hx hb hts inF tyF tyF_ok nmF hown hK (hT f hf).1 rfl rfl 7 (by decide) (hts _ wf_F_41) (fun _ z => z) rfl (by decide +kernel) rfl rfl (Nat.le_of_ble_eq_true rfl) dF_addRectangle_42 ?_
    refine tg_w (hg_w_N7 f ((N 7 f) + (1))) ?_
    have ei : i = b0 + 1 := by omega
    subst ei
    exact tg_vret hx hb hlocks hr hQ ⟨rfl, rfl, rfl, rfl⟩ dF_addRectangle_45
  · have q_1' := q_1
    have h_4 : i ≤ b0 := Nat.le_of_not_lt fun z => q_1 ((nI_ltI (by omega) (by omega)).mpr z)
    refine tg_aload_n hx hb dF_addRectangle_17 rfl rfl ?_
    refine tg_get (T := TF) (N := 15) hx hb hts inF hown hK (hT f hf).1 rfl rfl 6 (by decide) (hts _ wf_F_37) (fun _ z => z) rfl dF_addRectangle_18 ?_
    refine tg_iload hx hb dF_addRectangle_21 rfl ?_
    refine tg_dup2 hx hb dF_addRectangle_23 rfl rfl ?_
    refine tg_iald (t0 := 0) hx hb hK (hT f hf).2 rfl rfl (x := i) (by decide) (by omega) dF_addRectangle_24 ?_
    refine tg_iload hx hb dF_addRectangle_25 rfl ?_
    refine tg_ior hx hb dF_addRectangle_27 ?_
    refine tg_iast (t0 := 0) hx hb hK (hT f hf).2 rfl rfl (x := i) (v := ((va_up sp f (hg_or (sp f) t0 (i) (hg_cb l0 r0))) f (i)) ||| (hg_cb l0 r0)) (by decide) (by omega) dF_addRectangle_28 ?_
    refine tg_w (hg_w_sp f i (((va_up sp f (hg_or (sp f) t0 (i) (hg_cb l0 r0))) f (i)) ||| (hg_cb l0 r0))) ?_
    refine tg_iinc (v := nI (i + 1)) (L' := [(0, .ref (ad 8 f)), (1, .int (nI (t0))), (2, .int (nI (l0))), (3, .int (nI (b0))), (4, .int (nI (r0))), (5, .int (hg_cb l0 r0)), (6, .int (nI (i + 1)))]) hx hb dF_addRectangle_29 rfl (nI_1 _) (by decide) rfl rfl ?_
    refine tg_goto (tgt := 11) hx hb dF_addRectangle_32 (by decide) ?_
    rw [hg_s00, hg_or_step _ _ hi1]
    exact ih (i + 1) ⟨by omega, by omega⟩ (by omega)
set_option maxRecDepth 100000 in
set_option maxHeartbeats 4000000 in
/-- nothing is dirty from now -/
theorem c_fill (hO : hg_ok ok) : tg_Met l yA_fill wsA_fill ({ frames := 0, cells := 0, slots := 0, locals := 0 }) D vwCl (hg_tys cI cF cZ cJ cA cB) F Nn ad ok (hg_w ad cF cI G a dr N bc sp μ) [.ref (ad 2 0), .int (nI (0))] (tg_po ad ok fun r w1 => r = none ∧ w1 = (hg_w ad cF cI G a (hg_z dr 20) N bc sp μ)) := by
  refine tg_start (cc := cA_fill) (maxL := 4) (ret := none) (by decide) rfl (Nat.le_of_ble_eq_true rfl) ?_
  intro p e R s m args below meth c Q hx hb hml hr hlocks hown hname hts hK hN hR hQ
  have hown : s.vm.findClass "java/util/Arrays" = some m.cls := hown
  have hts : ∀ w ∈ lw_g, w.before args s = true := fun w z => hts w (List.mem_cons_of_mem _ z)
  refine tg_iconst (v := nI 0) hx hb dA_fill_0 (by decide +kernel) ?_
  refine tg_istore_n (L' := [(0, .ref (ad 2 0)), (1, .int (nI (0))), (2, .int (nI (0)))]) hx hb dA_fill_1 rfl (by decide) rfl rfl ?_
  refine tg_aload_n hx hb dA_fill_2 rfl rfl ?_
  refine tg_alen (t0 := 0) hx hb hK (hO.1 2 (by decide)) rfl rfl (v := nI 20) (show Int32.ofNat 20 = nI 20 by decide +kernel) dA_fill_3 ?_
  refine tg_istore_n (L' := [(0, .ref (ad 2 0)), (1, .int (nI (0))), (2, .int (nI (0))), (3, .int (nI (20)))]) hx hb dA_fill_4 rfl (by decide) rfl rfl ?_
  refine tg_w (w' := (hg_w ad cF cI G a (hg_z dr 0) N bc sp μ)) (by rw [hg_z_0]) ?_
  refine tg_loop (fun i : Nat => i ≤ 20) (fun i => 20 - i) (fun i => tg_W p l e R s m args below meth c Q 4 D vwCl F ad ok (hg_w ad cF cI G a (hg_z dr i) N bc sp μ) [(0, .ref (ad 2 0)), (1, .int (nI (0))), (2, .int (nI (i))), (3, .int (nI (20)))] 0 0 5 []) ?_ 0 (Nat.zero_le _)
  intro i hi1 ih
  refine tg_iload_n hx hb dA_fill_5 rfl rfl ?_
  refine tg_iload_n hx hb dA_fill_6 rfl rfl ?_
  refine tg_icmp_ge (tgt := 20) hx hb dA_fill_7 (by decide) (fun q_1 => ?_) (fun q_1 => ?_)
  · have q_1' := q_1
    have h_2 : 20 ≤ i := (nI_leI (by omega) (by omega)).mp q_1
    have ei : i = 20 := by omega
    subst ei
    exact tg_vret hx hb hlocks hr hQ ⟨rfl, rfl, rfl, rfl⟩ dA_fill_20
  · have q_1' := q_1
    have h_3 : i < 20 := Nat.lt_of_not_le fun z => q_1 ((nI_leI (by omega) (by omega)).mpr z)
    refine tg_aload_n hx hb dA_fill_10 rfl rfl ?_
    refine tg_iload_n hx hb dA_fill_11 rfl rfl ?_
    refine tg_iload_n hx hb dA_fill_12 rfl rfl ?_
    refine tg_iast (t0 := 0) hx hb hK (hO.1 2 (by decide)) rfl rfl (x := i) (v := nI (0)) (by decide) (by omega) dA_fill_13 ?_
    refine tg_wp (hg_w_dr hO i (nI (0))) ?_
    refine tg_iinc (v := nI (i + 1)) (L' := [(0, .ref (ad 2 0)), (1, .int (nI (0))), (2, .int (nI (i + 1))), (3, .int (nI (20)))]) hx hb dA_fill_14 rfl (nI_1 _) (by decide) rfl rfl ?_
    refine tg_goto (tgt := 5) hx hb dA_fill_17 (by decide) ?_
    rw [hg_z_s]
    exact ih (i + 1) (by omega) (by omega)
end HGB
