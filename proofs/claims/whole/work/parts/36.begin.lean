/-! the law's start -/
def lw_nu : Nat → Nat → va_E := fun _ _ => .inr (0, [])
def lw_ok0 : Nat → Nat → Prop := fun k i => (k < 8 ∧ i = 0) ∨ (11 ≤ k ∧ k < 26 ∧ k ≠ 17 ∧ k ≠ 23 ∧ i = 0) ∨ ((k = 17 ∨ k = 23) ∧ i < 400) ∨ (k = 10 ∧ i = 0)
theorem lw_O0 : lw_O (fun _ => False) lw_ok0 := by
  refine ⟨⟨fun k hk => Or.inl ⟨hk, rfl⟩, fun k i z hk => ?_⟩, ⟨fun k k1 k2 k3 k4 => Or.inr (Or.inl ⟨k1, k2, k3, k4, rfl⟩), fun i hi => ⟨Or.inr (Or.inr (Or.inl ⟨Or.inl rfl, hi⟩)), Or.inr (Or.inr (Or.inl ⟨Or.inr rfl, hi⟩))⟩, fun k i z k1 k2 k3 k4 => ?_⟩, fun f hf => hf.elim, fun k i z hk => ?_, Or.inr (Or.inr (Or.inr ⟨rfl, rfl⟩))⟩
  · unfold lw_ok0 at z
    omega
  · unfold lw_ok0 at z
    omega
  · unfold lw_ok0 at z
    omega
theorem lw_W0 {cF cI cZ cJ cA cB : ClassId} {ad1 ad3 ad4 : Nat → Nat → Nat} {w3 : Nat → Nat → va_E} (h13 : ∀ k i, k < 8 → ad4 k i = ad1 k i) (h43 : ∀ k i, 11 ≤ k → ad4 k i = ad3 k i) (W3 : ∀ k i, (11 ≤ k ∧ k < 26 ∧ k ≠ 17 ∧ k ≠ 23 ∧ i = 0) ∨ ((k = 17 ∨ k = 23) ∧ i < 400) ∨ (k < 11 ∨ 26 ≤ k) → w3 k i = mo_w ad3 cI cZ cA cB (fun _ _ => 0) (fun _ _ _ => 0) (hg_w ad1 cF cI (fun _ => 0) (fun _ _ => none) (fun _ => nI 0) (fun _ _ => 0) (fun _ => 0) (fun _ _ => nI 0) lw_nu) k i) : ∀ k i, lw_ok0 k i → tg_up w3 10 0 (.inl (cJ, 1, .inr (.inl fun _ => 0))) k i = lw_W cF cI cZ cJ cA cB lw_nu ad4 (fun _ => 0) (fun _ _ => none) (fun _ => nI 0) (fun _ _ => 0) (fun _ => 0) (fun _ _ => nI 0) (fun _ _ => 0) (fun _ _ _ => 0) (fun _ => 0) k i := by
  intro k i hki
  by_cases q : k = 10 ∧ i = 0
  · obtain ⟨rfl, rfl⟩ := q
    rw [tg_up_self, lw_W10]
  · rw [tg_up_ne _ _ q]
    rcases hki with z | z | z | z
    · rw [W3 k i (Or.inr (Or.inr (Or.inl (by omega)))), mo_w_mu (Or.inl (by omega))]
      unfold lw_W
      obtain ⟨z1, rfl⟩ := z
      have hk : k = 0 ∨ k = 1 ∨ k = 2 ∨ k = 3 ∨ k = 4 ∨ k = 5 ∨ k = 6 ∨ k = 7 := by omega
      rcases hk with y | y | y | y | y | y | y | y <;> subst y
      · show Sum.inr _ = Sum.inr _
        rw [h13 1 0 (by decide), h13 2 0 (by decide), h13 3 0 (by decide)]
      · rfl
      · rfl
      · show Sum.inr _ = Sum.inr _
        rw [h13 4 0 (by decide), h13 5 0 (by decide), h13 6 0 (by decide), h13 7 0 (by decide)]
      · rfl
      · rfl
      · rfl
      · rfl
    · rw [W3 k i (Or.inl z), lw_sw, mo_w_ad (ad9 := ad4) h43]
      have hk : k = 11 ∨ k = 12 ∨ k = 13 ∨ k = 14 ∨ k = 15 ∨ k = 16 ∨ k = 18 ∨ k = 19 ∨ k = 20 ∨ k = 21 ∨ k = 22 ∨ k = 24 ∨ k = 25 := by omega
      rcases hk with y | y | y | y | y | y | y | y | y | y | y | y | y <;> subst y <;> rfl
    · rw [W3 k i (Or.inr (Or.inl z)), lw_sw, mo_w_ad (ad9 := ad4) h43]
      rcases z.1 with y | y <;> subst y <;> rfl
    · exact absurd z q
set_option maxRecDepth 100000 in
set_option maxHeartbeats 8000000 in
theorem whole_start {p : Program} {e : Env} {s : State} {m : MethodId} {below : List Frame} {meth : Method} {c : Code} (l : Launch) (hl9 : l.stackTraces = false) {b L : Nat} {xs : Nat → Int32} (hL : L ≤ 3584) (C0 : lw_At p s m meth c b L xs) : W p l e room_1 s m #[Value.ref b] below meth c s.heap [] 0 0 (lw_Z below #[Value.ref b] s) (entryFrame m ([Value.ref b] : List Value).toArray 7) := by
  obtain ⟨hx, hb, hret, hml, hown, htbl, hX, hbl, hlocks, hgv⟩ := C0
  have hown : s.vm.findClass "HangGraphLaw" = some m.cls := hown
  have hts : ∀ w ∈ lw_g, w.before #[Value.ref b] s = true := fun w hw => htbl w (List.mem_filter.mp hw).1
  obtain ⟨D, cI, cF, cZ, cJ, cA, cB, hK⟩ := lw_K htbl
  have hN := lw_N0 htbl hgv
  have hMv := hg_Mv (fun q => s.heap.size ≤ q)
  rw [lg_entry_eq]
  suffices K : tg_W p l e room_1 s m #[Value.ref b] below meth c (lw_Z below #[Value.ref b] s) 7 D vwCl (fun q => s.heap.size ≤ q) (fun _ _ => 0) (fun _ _ => False) lw_nu [(0, .ref b)] 0 0 0 [] by
    exact K s.heap [] _ (tg_Z.start ⟨fun _ _ z => z.elim, fun _ _ _ _ z => z.elim, fun _ _ z => z.elim⟩ (fun q h => h)) (lv_entry [.ref b] (Nat.le_of_ble_eq_true rfl))
  refine tg_new (C := "HangGraph") (T := TH) (N := 4) (ci := 0) (fs := [.null, .null, .null, .int 0]) hx hb 0 0 hts inH tyH tyH_ok hown (hts _ wk_L_8) (hts _ wz_H) (hts _ wn_H) hK rfl hg_dfH (Nat.le_of_ble_eq_true rfl) (Nat.le_of_ble_eq_true rfl) dL_law_0 (fun q0 => ?_)
  obtain ⟨ad0, g0⟩ : ∃ z, z = tg_up (fun _ _ => 0) 0 0 q0 := ⟨_, rfl⟩
  rw [← g0]
  have e0 : q0 = ad0 0 0 := by rw [g0, tg_up_self]
  refine tg_st (st' := [.ref (ad0 0 0)]) (by rw [e0]) ?_
  refine tg_dup hx hb dL_law_3 rfl ?_
  refine tg_callI (As := []) (rest := [.ref (ad0 0 0)]) ⟨hx, hb, hml, hown, hts⟩ hK hN hMv (c_Hinit (N := fun _ _ => 0) (bc := fun _ => 0) (sp := fun _ _ => nI 0) (μ := lw_nu) (Or.inr ⟨rfl, rfl⟩) (fun _ _ _ => rfl)) (cwI 0 hts (lg_N wc_H_init) rfl rfl rfl (hts _ wn_H) (hts _ wm_L_40) (hts _ wi_H_init) rfl ⟨by decide, by decide, rfl⟩ ⟨(Nat.le_of_ble_eq_true rfl), (Nat.le_of_ble_eq_true rfl)⟩) rfl (Nat.le_of_ble_eq_true rfl) ⟨(Nat.le_of_ble_eq_true rfl), (Nat.le_of_ble_eq_true rfl)⟩ rfl dL_law_4 ?_
  intro r1 ad1 ok1 w1 ⟨hr1, A1, O1, W1⟩
  subst hr1
  refine tg_st (st' := [.ref (ad1 0 0)]) (by rw [A1 0 0 (Or.inr rfl)]; rfl) ?_
  refine tg_to (ad' := ad1) (ok' := fun k i => k < 8 ∧ i = 0) (w' := hg_w ad1 cF cI (fun _ => 0) (fun _ _ => none) (fun _ => nI 0) (fun _ _ => 0) (fun _ => 0) (fun _ _ => nI 0) lw_nu) (fun k i z => (O1 k i).mpr ?_) (fun _ _ _ => rfl) (fun k i z => W1 k i (Or.inl z)) ?_
  · by_cases q : k = 0
    · exact Or.inl (Or.inr ⟨q, z.2⟩)
    · exact Or.inr ⟨by omega, z.1, z.2⟩
  refine tg_astore_n (L' := [(0, .ref b), (1, .ref (ad1 0 0))]) hx hb dL_law_7 rfl (by decide) rfl rfl ?_
  refine tg_new (C := "HangGraphModel") (T := TM) (N := 13) (ci := 3) (fs := [.int 0, .null, .null, .null, .null, .null, .null, .null, .null, .null, .null, .null, .null]) hx hb 11 0 hts inM tyM tyM_ok hown (hts _ wk_L_41) (hts _ wz_M) (hts _ wn_M) hK rfl mo_dfM (Nat.le_of_ble_eq_true rfl) (Nat.le_of_ble_eq_true rfl) dL_law_8 (fun q2 => ?_)
  obtain ⟨ad2, g2⟩ : ∃ z, z = tg_up ad1 11 0 q2 := ⟨_, rfl⟩
  rw [← g2]
  have e2 : q2 = ad2 11 0 := by rw [g2, tg_up_self]
  refine tg_st (st' := [.ref (ad2 11 0)]) (by rw [e2]) ?_
  refine tg_dup hx hb dL_law_11 rfl ?_
  refine tg_callI (As := []) (rest := [.ref (ad2 11 0)]) ⟨hx, hb, hml, hown, hts⟩ hK hN hMv (c_Minit (μ := hg_w ad1 cF cI (fun _ => 0) (fun _ _ => none) (fun _ => nI 0) (fun _ _ => 0) (fun _ => 0) (fun _ _ => nI 0) lw_nu) (Or.inr ⟨rfl, rfl⟩) (fun _ _ _ => rfl)) (cwI 0 hts (lg_N wc_M_init) rfl rfl rfl (hts _ wn_M) (hts _ wm_L_43) (hts _ wi_M_init) rfl ⟨by decide, by decide, rfl⟩ ⟨(Nat.le_of_ble_eq_true rfl), (Nat.le_of_ble_eq_true rfl)⟩) rfl (Nat.le_of_ble_eq_true rfl) ⟨(Nat.le_of_ble_eq_true rfl), (Nat.le_of_ble_eq_true rfl)⟩ rfl dL_law_12 ?_
  intro r3 ad3 ok3 w3 ⟨hr3, A3, O3, W3⟩
  subst hr3
  have a31 : ∀ k i, k < 11 → ad3 k i = ad1 k i := fun k i hk => by rw [A3 k i (Or.inl (by omega)), g2, tg_up_ne _ _ (fun z => by omega)]
  refine tg_st (st' := [.ref (ad3 11 0)]) (by rw [A3 11 0 (Or.inl (by decide))]; rfl) ?_
  refine tg_astore_n (L' := [(0, .ref b), (1, .ref (ad1 0 0)), (2, .ref (ad3 11 0))]) hx hb dL_law_15 rfl (by decide) rfl rfl ?_
  refine tg_iconst (v := nI 1) hx hb dL_law_16 (by decide +kernel) ?_
  refine tg_newa hx hb 10 0 (atype := .long) (hts _ wa_long) rfl (cA := cJ) (hK.2 3 _ rfl).2 (n := nI 1) (N' := 1) (a0 := (1, .inr (.inl fun _ => 0))) (fun cA => by rw [vp_cell_l]; rfl) (by decide +kernel) (by decide +kernel) (by decide) (Nat.le_of_ble_eq_true rfl) (Nat.le_of_ble_eq_true rfl) dL_law_17 (fun q4 => ?_)
  obtain ⟨ad4, g4⟩ : ∃ z, z = tg_up ad3 10 0 q4 := ⟨_, rfl⟩
  rw [← g4]
  have e4 : q4 = ad4 10 0 := by rw [g4, tg_up_self]
  have a43 : ∀ k i, k ≠ 10 → ad4 k i = ad3 k i := fun k i hk => by rw [g4, tg_up_ne _ _ (fun z => hk z.1)]
  refine tg_st (st' := [.ref (ad4 10 0)]) (by rw [e4]) ?_
  refine tg_to (ad' := ad4) (ok' := lw_ok0) (w' := lw_W cF cI cZ cJ cA cB lw_nu ad4 (fun _ => 0) (fun _ _ => none) (fun _ => nI 0) (fun _ _ => 0) (fun _ => 0) (fun _ _ => nI 0) (fun _ _ => 0) (fun _ _ _ => 0) (fun _ => 0)) (fun k i z => ?_) (fun _ _ _ => rfl) (lw_W0 (fun k i hk => by rw [a43 k i (by omega), a31 k i (by omega)]) (fun k i hk => a43 k i (by omega)) W3) ?_
  · rcases z with z | z | z | z
    · exact Or.inl ((O3 k i).mpr (Or.inl (Or.inl z)))
    · by_cases q : k = 11
      · exact Or.inl ((O3 k i).mpr (Or.inl (Or.inr ⟨q, z.2.2.2.2⟩)))
      · exact Or.inl ((O3 k i).mpr (Or.inr (Or.inl ⟨by omega, z.2⟩)))
    · exact Or.inl ((O3 k i).mpr (Or.inr (Or.inr z)))
    · exact Or.inr z
  refine tg_astore_n (L' := [(0, .ref b), (1, .ref (ad1 0 0)), (2, .ref (ad3 11 0)), (3, .ref (ad4 10 0))]) hx hb dL_law_19 rfl (by decide) rfl rfl ?_
  refine tg_iconst (v := nI 0) hx hb dL_law_20 (by decide +kernel) ?_
  refine tg_istore (L' := [(0, .ref b), (1, .ref (ad1 0 0)), (2, .ref (ad3 11 0)), (3, .ref (ad4 10 0)), (4, .int (nI 0))]) hx hb dL_law_21 (by decide) rfl rfl ?_
  exact lw_loop hx hb hml hl9 hown hts hK hN hX hbl (Nat.not_le.mpr hbl) hL hlocks hret 0 (by decide) (fun _ => False) ad4 lw_ok0 (fun _ => 0) (fun _ _ => none) (fun _ => nI 0) (fun _ _ => 0) (fun _ => 0) (fun _ _ => nI 0) (fun _ _ => 0) (fun _ _ _ => 0) (fun _ => 0) lw_O0 (lw_R0 ad4) (by rw [a43 0 0 (by decide), a31 0 0 (by decide)]) (a43 11 0 (by decide)) rfl
