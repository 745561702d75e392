/-! the spread -/
/-- u hangs on v, both hit -/
def hg_E (M N : Nat → Nat → Nat) (bc : Nat → Int32) (sp : Nat → Nat → Int32) (u v : Nat) : Prop := M 8 u ≠ 0 ∧ M 8 v ≠ 0 ∧ hg_hk N bc sp u v
/-- what a spread leaves -/
def hg_SP (T : Nat → Prop) (bc : Nat → Int32) (sp : Nat → Nat → Int32) (dr : Nat → Int32) (G : Nat → Nat) (a : Nat → Nat → Option Nat) (N : Nat → Nat → Nat) (G' : Nat → Nat) (a' : Nat → Nat → Option Nat) (N' : Nat → Nat → Nat) : Prop :=
  G' 0 = G 0 ∧ a' 0 = a 0 ∧ (∀ j, j < 8 → N' j = N j) ∧ (∀ j u, N' j u < 1000000) ∧ (∀ k, G' k < 1000000) ∧ (∀ u, ¬ T u → ∀ j, 8 ≤ j → j < 15 → j ≠ 12 → N' j u = 0) ∧
  (∀ f, N' 8 f ≠ 0 ↔ ∃ g, hg_R (fun u v => T u ∧ T v ∧ hg_hk N bc sp u v) f g ∧ T g ∧ (hg_hh N bc dr g ∨ hg_hd sp dr g)) ∧ G' 2 = hg_cn (fun u => N' 8 u ≠ 0) 400 ∧
  (∀ f, N' 9 f ≠ 0 ↔ hg_O (hg_E N' N bc sp) f) ∧ (∀ f, N' 8 f ≠ 0 → N' 10 f = hg_K (hg_E N' N bc sp) 400 f) ∧ ∀ f, N' 8 f = 0 → N' 10 f = 0
section HGSP
variable {T : Nat → Prop} {ad : Nat → Nat → Nat} {a a1 a2 a3 : Nat → Nat → Option Nat} {G G1 G2 G3 : Nat → Nat} {N N1 N2 N3 : Nat → Nat → Nat} {bc dr : Nat → Int32} {sp : Nat → Nat → Int32} {lv hs pa op : Nat → Nat}
theorem hg_BG.z (h : hg_BG T ad a G N 400 G1 a1 N1 lv) {j : Nat} (h1 : 8 ≤ j) (h2 : j < 15) (h3 : j ≠ 12) (hl : ∀ u, T u → u < 400) (u : Nat) : N1 j u = 0 := by
  obtain ⟨b1, b2, b3, b4, b5, b6, b7, b8, b9, b10⟩ := h
  refine b5 j u h1 h2 h3 ?_
  by_cases q : T u
  · exact Or.inl (hl u q)
  · exact Or.inr q
theorem hg_BG.fv (h : hg_BG T ad a G N 400 G1 a1 N1 lv) (hl : ∀ u, T u → u < 400) (hNN : ∀ u, T u → N 1 u ≤ N 3 u ∧ N 3 u < 20) : hg_FV T ad a1 G1 N1 lv (fun _ => 0) := by
  have z8 := fun u => h.z (j := 8) (by omega) (by omega) (by omega) hl u
  obtain ⟨b1, b2, b3, b4, b5, b6, b7, b8, b9, b10⟩ := h
  refine ⟨hl, fun u hu => by rw [b4 1 (by omega), b4 3 (by omega)]; exact hNN u hu, b1.2, fun i hi => ⟨(b8 i hi).1, (b8 i hi).2.2⟩, fun u hu => b9 u hu (hl u hu), b10, fun i hi => by rw [b2.2.1] at hi; omega, fun u hu => absurd (z8 u) hu, ?_⟩
  rw [b2.2.1, hg_cn_congr (Q := fun _ => False) 400 (fun k _ => ⟨fun q => q (z8 k), False.elim⟩)]
  exact hg_cn_0 400
theorem hg_SV_of (h : hg_BG T ad a G N 400 G1 a1 N1 lv) (hk : hg_FK T ad lv a1 G1 N1 (fun _ => 0) a2 G2 N2 hs) (hl : ∀ u, T u → u < 400) : hg_SV T ad a2 G2 N2 bc sp (hg_E N2 N bc sp) hs := by
  obtain ⟨b1, b2, b3, b4, b5, b6, b7, b8, b9, b10⟩ := h
  obtain ⟨⟨f1, f2, f3, f4, f5, f6, f7, f8, f9⟩, k2, k3, k4, k5, k6, k7, k8, k9⟩ := hk
  have e1 : N2 1 = N 1 := (k2 1 (by omega)).trans (b4 1 (by omega))
  have e3 : N2 3 = N 3 := (k2 3 (by omega)).trans (b4 3 (by omega))
  refine ⟨f2, by rw [← f9]; exact hg_cn_bd _ 400, fun i hi => ⟨(f7 i hi).1, (f7 i hi).2.2⟩, fun u v q => ⟨f8 u q.1, f8 v q.2.1⟩, fun i j hi hj => ?_, hl⟩
  rw [hg_hkE e1 e3]
  exact ⟨fun q => q.2.2, fun q => ⟨(f7 i hi).2.1, (f7 j hj).2.1, q⟩⟩
theorem hg_DV_of (h : hg_BG T ad a G N 400 G1 a1 N1 lv) (hk : hg_FK T ad lv a1 G1 N1 (fun _ => 0) a2 G2 N2 hs) (hl : ∀ u, T u → u < 400) : hg_DV T ad a2 G2 N2 (N2 13) (hg_E N2 N bc sp) hs (fun _ => 0) (fun _ => 0) := by
  have z := fun {j : Nat} (h1 : 8 ≤ j) (h2 : j < 15) (h3 : j ≠ 12) (u : Nat) => h.z (j := j) h1 h2 h3 hl u
  obtain ⟨b1, b2, b3, b4, b5, b6, b7, b8, b9, b10⟩ := h
  obtain ⟨hF, k2, k3, k4, k5, k6, k7, k8, k9⟩ := hk
  have y := fun {j : Nat} (h1 : 9 ≤ j) (h2 : j < 15) (h3 : j ≠ 12) (u : Nat) => show N2 j u = 0 by rw [k2 j (by omega)]; exact z (by omega) h2 h3 u
  have g3 : G2 3 = 0 := (k3 3 (by omega)).trans b2.2.2.1
  have g4 : G2 4 = 0 := (k3 4 (by omega)).trans b2.2.2.2.1
  have g5 : G2 5 = 0 := (k3 5 (by omega)).trans b2.2.2.2.2
  refine ⟨⟨by omega, fun k q => by omega⟩, ⟨by omega, fun k q => by omega⟩, ?_, ?_, fun u q => absurd (y (j := 14) (by omega) (by omega) (by omega) u) q, fun u _ => ⟨y (j := 9) (by omega) (by omega) (by omega) u, y (j := 10) (by omega) (by omega) (by omega) u⟩, fun u => by rw [y (j := 13) (by omega) (by omega) (by omega) u]; exact Nat.zero_le _⟩
  · rw [g3, g4]
    exact hg_T_0 (y (j := 11) (by omega) (by omega) (by omega)) (y (j := 13) (by omega) (by omega) (by omega)) (fun u q => q (y (j := 14) (by omega) (by omega) (by omega) u))
  · rw [g5, hg_cn_congr (Q := fun _ => False) 400 (fun k _ => ⟨fun q => q (y (j := 11) (by omega) (by omega) (by omega) k), False.elim⟩)]
    exact hg_cn_0 400
theorem hg_SP_of (h : hg_BG T ad a G N 400 G1 a1 N1 lv) (hk : hg_FK T ad lv a1 G1 N1 (fun _ => 0) a2 G2 N2 hs) (hl : ∀ u, T u → u < 400)
    (hit : ∀ f, N2 8 f ≠ 0 ↔ ∃ g, hg_R (fun u v => T u ∧ T v ∧ hg_hk N1 bc sp u v) f g ∧ T g ∧ (hg_hh N1 bc dr g ∨ hg_hd sp dr g))
    (hw : hg_WK T ad bc sp (hg_E N2 N bc sp) hs a2 G2 N2 a3 G3 N3 pa op) (hs9 : ∀ j, j < G2 2 → N3 14 (hs j) ≠ 0) : hg_SP T bc sp dr G a N G3 a3 N3 := by
  obtain ⟨b1, b2, b3, b4, b5, b6, b7, b8, b9, b10⟩ := h
  obtain ⟨⟨f1, f2, f3, f4, f5, f6, f7, f8, f9⟩, k2, k3, k4, k5, k6, k7, k8, k9⟩ := hk
  obtain ⟨hS, ⟨d1, d2, d3, d4, d5, d6, d7⟩, w3, w4, w5, w6, w7, w8, w9⟩ := hw
  have e8 : N3 8 = N2 8 := w3 8 (by omega)
  have hE : hg_E N3 N bc sp = hg_E N2 N bc sp := by
    unfold hg_E
    rw [e8]
  have nT : ∀ u, N3 11 u ≠ 0 → T u := fun u q => by
    obtain ⟨i, h1, h2⟩ := hg_T_17 d3 u q
    rw [← h2]
    exact (hS.2.2.1 i h1).1
  have st : ∀ u, N3 14 u ≠ 0 → N3 11 u ≠ 0 := fun u q => d3.1 u q
  have hst : ∀ u, N2 8 u ≠ 0 → N3 14 u ≠ 0 := fun u q => by
    obtain ⟨i, h1, h2⟩ := f8 u q
    rw [← h2]
    exact hs9 i h1
  have sth : ∀ u, N3 14 u ≠ 0 → N2 8 u ≠ 0 := fun u q => by
    obtain ⟨i, h1, h2⟩ := hg_T_17 d3 u (st u q)
    rw [← h2]
    exact (f7 i (by rw [← w4.2.2]; exact h1)).2.1
  have hT8 : ∀ u, N2 8 u ≠ 0 → T u := fun u q => by
    obtain ⟨i, h1, h2⟩ := f8 u q
    rw [← h2]
    exact (f7 i h1).1
  unfold hg_SP
  rw [hE, e8]
  refine ⟨w4.1.trans ((k3 0 (by omega)).trans b2.1), w5.1.trans ((k4 0 (by omega)).trans (b3 0 (by omega))), fun j hj => (w3 j (by omega)).trans ((k2 j (by omega)).trans (b4 j hj)), w6, w7, fun u hu j h1 h2 h3 => ?_, fun f => ?_, w4.2.2.trans f9.symm, fun f => ?_, fun f q => (d5 f (hst f q)).2, fun f q => (d6 f (Decidable.byContradiction fun z => sth f z q)).2⟩
  · have n11 : N3 11 u = 0 := Decidable.byContradiction fun z => hu (nT u z)
    have n14 : N3 14 u = 0 := Decidable.byContradiction fun z => st u z n11
    have hj : j = 8 ∨ j = 9 ∨ j = 10 ∨ j = 11 ∨ j = 13 ∨ j = 14 := by omega
    rcases hj with q | q | q | q | q | q
    · rw [q, e8]
      exact Decidable.byContradiction fun z => hu (hT8 u z)
    · rw [q]
      exact (d6 u n14).1
    · rw [q]
      exact (d6 u n14).2
    · rw [q]
      exact n11
    · rw [q]
      exact d3.2.2.2.2.2.2.2.2.2.2.2.2.2.2.2.2.2 u n11
    · rw [q]
      exact n14
  · rw [hit f]
    have e1 : N1 1 = N 1 := b4 1 (by omega)
    have e3 : N1 3 = N 3 := b4 3 (by omega)
    have ek : (fun u v => T u ∧ T v ∧ hg_hk N1 bc sp u v) = fun u v => T u ∧ T v ∧ hg_hk N bc sp u v := by
      funext u v
      unfold hg_hk
      rw [e1, e3]
    rw [ek]
    unfold hg_hh
    rw [e1, e3]
  · by_cases q : N2 8 f ≠ 0
    · exact (d5 f (hst f q)).1
    · have n14 : N3 14 f = 0 := Decidable.byContradiction fun z => q (sth f z)
      exact ⟨fun z => absurd (d6 f n14).1 z, fun ⟨v, z, _⟩ => absurd z.1 q⟩
end HGSP
section HGD
variable {l : Launch} {D : va_G} {F : Nat → Prop} {Nn : State → Heap → Prop} {ad : Nat → Nat → Nat} {ok : Nat → Nat → Prop} {cF cI cZ cJ cA cB : ClassId} {G : Nat → Nat} {a : Nat → Nat → Option Nat} {dr : Nat → Int32} {N : Nat → Nat → Nat} {bc : Nat → Int32} {sp : Nat → Nat → Int32} {μ : Nat → Nat → va_E} {T : Nat → Prop} {w : Nat → Nat → va_E}
set_option maxRecDepth 100000 in
set_option maxHeartbeats 4000000 in
/-- a spread -/
theorem c_spread (hO : hg_ok ok) (hT : ∀ f, T f → ok 8 f ∧ ok 9 f) (hMv : tg_Mv F Nn) (hB : ∀ j u, N j u < 1000000) (hBG : ∀ k, G k < 1000000) (hov : ∀ c, c < 400 → a 0 c = none ∨ ∃ f, T f ∧ a 0 c = some (ad 8 f)) (hself : ∀ f, T f → f < 400 ∧ a 0 f = some (ad 8 f) ∧ N 0 f = f) (hz : ∀ u, ¬ T u → ∀ j, 8 ≤ j → j < 15 → j ≠ 12 → N j u = 0) (hNN : ∀ u, T u → N 1 u ≤ N 3 u ∧ N 3 u < 20) : tg_Met l yH_spread wsH_spread ({ frames := 6, cells := 0, slots := 0, locals := 290 }) D vwCl (hg_tys cI cF cZ cJ cA cB) F Nn ad ok (hg_w ad cF cI G a dr N bc sp μ) [.ref (ad 0 0)] (tg_po ad ok fun r w1 => ∃ G' a' N', r = some (.int (nI (G' 2))) ∧ w1 = hg_w ad cF cI G' a' (hg_z dr 20) N' bc sp μ ∧ hg_SP T bc sp dr G a N G' a' N') := by
  refine tg_start (cc := cH_spread) (maxL := 1) (ret := some .int) (by decide) rfl (Nat.le_of_ble_eq_true rfl) ?_
  intro p e R s m args below meth c Q hx hb hml hr hlocks hown hname hts hK hN hR hQ
  have hown : s.vm.findClass "HangGraph" = some m.cls := hown
  have hts : ∀ w ∈ lw_g, w.before args s = true := fun w z => hts w (List.mem_cons_of_mem _ z)
  have hl4 : ∀ u, T u → u < 400 := fun u hu => (hself u hu).1
  refine tg_aload_n hx hb dH_spread_0 rfl rfl ?_
  refine tg_get (T := TH) (N := 4) hx hb hts inH hown hK (hO.1 0 (by decide)) rfl rfl 2 (by decide) (hts _ wf_H_22) (fun _ z => z) rfl dH_spread_1 ?_
  refine tg_aload_n hx hb dH_spread_4 rfl rfl ?_
  refine tg_get (T := TH) (N := 4) hx hb hts inH hown hK (hO.1 0 (by decide)) rfl rfl 0 (by decide) (hts _ wf_H_11) (fun _ z => z) rfl dH_spread_5 ?_
  refine tg_callV (C := "HangGraph$Sweep") (As := [.ref (ad 1 0)]) (rest := []) ⟨hx, hb, hml, hown, hts⟩ hK hN hMv (hO.1 3 (by decide)) rfl rfl rfl (c_begin hO hT hMv hB hBG hov hself hz) (cwV 1 hts (lg_V wm_H_71 wi_S_begin we_S_begin wn_S wc_S_begin) rfl rfl rfl ⟨rfl, by decide, by decide, rfl⟩ ⟨by rw [hR]; exact Nat.le_of_ble_eq_true rfl, by rw [hR]; exact Nat.le_of_ble_eq_true rfl⟩) rfl (Nat.le_of_ble_eq_true rfl) ⟨by rw [hR]; exact Nat.le_of_ble_eq_true rfl, by rw [hR]; exact Nat.le_of_ble_eq_true rfl⟩ rfl dH_spread_8 (tg_kk rfl rfl ?_)
  intro r w1 ⟨hr0, G1, a1, N1, lv, hw1, hb1⟩
  subst hr0
  subst hw1
  refine tg_st (st' := []) rfl ?_
  have hb1' := hb1
  obtain ⟨b1, b2, b3, b4, b5, b6, b7, b8, b9, b10⟩ := hb1'
  refine tg_aload_n hx hb dH_spread_11 rfl rfl ?_
  refine tg_get (T := TH) (N := 4) hx hb hts inH hown hK (hO.1 0 (by decide)) rfl rfl 2 (by decide) (hts _ wf_H_22) (fun _ z => z) rfl dH_spread_12 ?_
  refine tg_aload_n hx hb dH_spread_15 rfl rfl ?_
  refine tg_get (T := TH) (N := 4) hx hb hts inH hown hK (hO.1 0 (by decide)) rfl rfl 1 (by decide) (hts _ wf_H_15) (fun _ z => z) rfl dH_spread_16 ?_
  refine tg_callV (C := "HangGraph$Sweep") (As := [.ref (ad 2 0)]) (rest := []) ⟨hx, hb, hml, hown, hts⟩ hK hN hMv (hO.1 3 (by decide)) rfl rfl rfl (c_findHit hO hT hMv b6 b7 lv (fun _ => 0) (hb1.fv hl4 hNN) (hb1.z (by omega) (by omega) (by omega) hl4)) (cwV 1 hts (lg_V wm_H_75 wi_S_findHit we_S_findHit wn_S wc_S_findHit) rfl rfl rfl ⟨rfl, by decide, by decide, rfl⟩ ⟨by rw [hR]; exact Nat.le_of_ble_eq_true rfl, by rw [hR]; exact Nat.le_of_ble_eq_true rfl⟩) rfl (Nat.le_of_ble_eq_true rfl) ⟨by rw [hR]; exact Nat.le_of_ble_eq_true rfl, by rw [hR]; exact Nat.le_of_ble_eq_true rfl⟩ rfl dH_spread_19 (tg_kk rfl rfl ?_)
  intro r w1 ⟨hr0, a2, G2, N2, hs, hw1, hk2, hit2⟩
  subst hr0
  subst hw1
  refine tg_st (st' := []) rfl ?_
  have hk2' := hk2
  obtain ⟨hF, k2, k3, k4, k5, k6, k7, k8, k9⟩ := hk2'
  refine tg_aload_n hx hb dH_spread_22 rfl rfl ?_
  refine tg_get (T := TH) (N := 4) hx hb hts inH hown hK (hO.1 0 (by decide)) rfl rfl 2 (by decide) (hts _ wf_H_22) (fun _ z => z) rfl dH_spread_23 ?_
  refine tg_callV (C := "HangGraph$Sweep") (As := []) (rest := []) ⟨hx, hb, hml, hown, hts⟩ hK hN hMv (hO.1 3 (by decide)) rfl rfl rfl (c_rankHit hO hT hMv k5 k6 hs (fun _ => 0) (fun _ => 0) (hg_E N2 N bc sp) (hg_SV_of hb1 hk2 hl4) (hg_DV_of hb1 hk2 hl4) ((k3 3 (by omega)).trans b2.2.2.1)) (cwV 0 hts (lg_V wm_H_79 wi_S_rankHit we_S_rankHit wn_S wc_S_rankHit) rfl rfl rfl ⟨rfl, by decide, by decide, rfl⟩ ⟨by rw [hR]; exact Nat.le_of_ble_eq_true rfl, by rw [hR]; exact Nat.le_of_ble_eq_true rfl⟩) rfl (Nat.le_of_ble_eq_true rfl) ⟨by rw [hR]; exact Nat.le_of_ble_eq_true rfl, by rw [hR]; exact Nat.le_of_ble_eq_true rfl⟩ rfl dH_spread_26 (tg_kk rfl rfl ?_)
  intro r w1 ⟨hr0, a3, G3, N3, pa, op, hw1, hk3, h30, hs9⟩
  subst hr0
  subst hw1
  refine tg_st (st' := []) rfl ?_
  have hsp := hg_SP_of (dr := dr) hb1 hk2 hl4 hit2 hk3 hs9
  refine tg_aload_n hx hb dH_spread_29 rfl rfl ?_
  refine tg_get (T := TH) (N := 4) hx hb hts inH hown hK (hO.1 0 (by decide)) rfl rfl 1 (by decide) (hts _ wf_H_15) (fun _ z => z) rfl dH_spread_30 ?_
  refine tg_iconst (v := nI 0) hx hb dH_spread_33 (by decide +kernel) ?_
  refine tg_callS (As := [.ref (ad 2 0), .int (nI (0))]) (rest := []) ⟨hx, hb, hml, hown, hts⟩ hK hN hMv (c_fill hO) (va_cwS 2 hts (lg_S wm_H_82 wt_A_fill wn_A wc_A_fill) rfl rfl rfl ⟨by decide, by decide, rfl⟩ ⟨by rw [hR]; exact Nat.le_of_ble_eq_true rfl, by rw [hR]; exact Nat.le_of_ble_eq_true rfl⟩) rfl (Nat.le_of_ble_eq_true rfl) ⟨by rw [hR]; exact Nat.le_of_ble_eq_true rfl, by rw [hR]; exact Nat.le_of_ble_eq_true rfl⟩ rfl dH_spread_34 (tg_kn rfl rfl ?_)
  refine tg_aload_n hx hb dH_spread_37 rfl rfl ?_
  refine tg_get (T := TH) (N := 4) hx hb hts inH hown hK (hO.1 0 (by decide)) rfl rfl 2 (by decide) (hts _ wf_H_22) (fun _ z => z) rfl dH_spread_38 ?_
  refine tg_get (T := TS) (N := 9) hx hb hts inS hown hK (hO.1 3 (by decide)) rfl rfl 3 (by decide) (hts _ wf_H_88) (fun _ z => z) rfl dH_spread_41 ?_
  exact tg_iret hx hb hlocks hr hQ ⟨rfl, rfl, G3, a3, N3, rfl, rfl, hsp⟩ dH_spread_44
end HGD
