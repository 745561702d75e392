/-! the law's steps -/
theorem lw_s1 {t l b r : Int32} (h : hg_bS t b) : mo_bad t l (nI 1) (nI 1) ∨ mo_bad b r (nI 1) (nI 1) ∨ b < t ∨ r < l := by
  rcases h with z | z | z
  · exact Or.inl (Or.inl z)
  · exact Or.inr (Or.inr (Or.inl z))
  · exact Or.inr (Or.inl (Or.inr (Or.inr (Or.inl (lw_19 (Int32.not_lt.mp z))))))
theorem lw_s2 {t l b r : Int32} (h : hg_bS l r) : mo_bad t l (nI 1) (nI 1) ∨ mo_bad b r (nI 1) (nI 1) ∨ b < t ∨ r < l := by
  rcases h with z | z | z
  · exact Or.inl (Or.inr (Or.inl z))
  · exact Or.inr (Or.inr (Or.inr z))
  · exact Or.inr (Or.inl (Or.inr (Or.inr (Or.inr (Or.inl (lw_19 (Int32.not_lt.mp z)))))))
theorem lw_tv {N M : Nat → Nat → Nat} {f q : Nat} (h : (N 8 f ≠ 0 ↔ M 19 f ≠ 0) ∧ (N 9 f ≠ 0 ↔ M 20 f ≠ 0) ∧ N 10 f = M 21 f) : hg_tv N f q = mo_tv M f q := by
  have i1 : N 8 f = 0 ↔ M 19 f = 0 := ⟨fun z => Decidable.byContradiction fun w => h.1.mpr w z, fun z => Decidable.byContradiction fun w => h.1.mp w z⟩
  have i2 : N 9 f = 0 ↔ M 20 f = 0 := ⟨fun z => Decidable.byContradiction fun w => h.2.1.mpr w z, fun z => Decidable.byContradiction fun w => h.2.1.mp w z⟩
  unfold hg_tv mo_tv
  simp only [i1, i2, h.2.2]
def lw_ko (ok : Nat → Nat → Prop) (f : Nat) : Nat → Nat → Prop := fun k i => ok k i ∧ ¬ ((k = 8 ∨ k = 9) ∧ i = f)
theorem lw_O.out {T : Nat → Prop} {ok : Nat → Nat → Prop} (h : lw_O T ok) {f : Nat} : lw_O (fun u => T u ∧ u ≠ f) (lw_ko ok f) := by
  obtain ⟨h1, h2, h3, h4, h5⟩ := h
  refine ⟨⟨fun k hk => ⟨h1.1 k hk, fun z => by omega⟩, fun k i z hk => h1.2 k i z.1 hk⟩, ⟨fun k k1 k2 k3 k4 => ⟨h2.1 k k1 k2 k3 k4, fun z => by omega⟩, fun i hi => ⟨⟨(h2.2.1 i hi).1, fun z => by omega⟩, (h2.2.1 i hi).2, fun z => by omega⟩, fun k i z => h2.2.2 k i z.1⟩, fun u hu => ⟨⟨(h3 u hu.1).1, fun z => hu.2 z.2⟩, (h3 u hu.1).2, fun z => hu.2 z.2⟩, fun k i z hk => ⟨h4 k i z.1 hk, fun e => z.2 ⟨hk, e⟩⟩, h5, fun z => by omega⟩
theorem lw_Wz {cF cI cZ cJ cA cB : ClassId} {ν : Nat → Nat → va_E} {ad : Nat → Nat → Nat} {G : Nat → Nat} {a : Nat → Nat → Option Nat} {dr : Nat → Int32} {N : Nat → Nat → Nat} {bc : Nat → Int32} {sp : Nat → Nat → Int32} {M : Nat → Nat → Nat} {B : Nat → Nat → Nat → Nat} {o : Nat → Int64} {f k j : Nat} (h : ¬ (k = 8 ∧ j = f)) : lw_W cF cI cZ cJ cA cB ν ad G a dr N bc sp M B o k j = lw_W cF cI cZ cJ cA cB ν ad G a dr (lw_z N f) bc sp M B o k j := by
  unfold lw_W
  by_cases hk : k = 8
  · subst hk
    have hj : j ≠ f := fun e => h ⟨rfl, e⟩
    have z : ∀ q, lw_z N f q j = N q j := fun q => if_neg (fun w => hj w.1)
    show Sum.inr _ = Sum.inr _
    simp only [z]
  · unfold hg_w
    split <;> first | rfl | exact absurd rfl hk
theorem lw_O.put {T : Nat → Prop} {ok : Nat → Nat → Prop} (h : lw_O T ok) {f : Nat} : lw_O (fun u => T u ∨ u = f) (fun a b => (ok a b ∨ (a = 8 ∧ b = f)) ∨ (a = 9 ∧ b = f)) := by
  obtain ⟨h1, h2, h3, h4, h5⟩ := h
  refine ⟨h1.push, ⟨fun k k1 k2 k3 k4 => Or.inl (Or.inl (h2.1 k k1 k2 k3 k4)), fun i hi => ⟨Or.inl (Or.inl (h2.2.1 i hi).1), Or.inl (Or.inl (h2.2.1 i hi).2)⟩, fun k i z k1 k2 k3 k4 => ?_⟩, fun u hu => ?_, fun k i z hk => ?_, Or.inl (Or.inl h5)⟩
  · rcases z with (z | z) | z
    · exact h2.2.2 k i z k1 k2 k3 k4
    · omega
    · omega
  · rcases hu with z | z
    · exact ⟨Or.inl (Or.inl (h3 u z).1), Or.inl (Or.inl (h3 u z).2)⟩
    · exact ⟨Or.inl (Or.inr ⟨rfl, z⟩), Or.inr ⟨rfl, z⟩⟩
  · rcases z with (z | z) | z
    · exact Or.inl (h4 k i z hk)
    · exact Or.inr z.2
    · exact Or.inr z.2
theorem lw_occ {T : Nat → Prop} {ad : Nat → Nat → Nat} {G : Nat → Nat} {a : Nat → Nat → Option Nat} {dr : Nat → Int32} {N : Nat → Nat → Nat} {bc : Nat → Int32} {sp : Nat → Nat → Int32} {M : Nat → Nat → Nat} {B : Nat → Nat → Nat → Nat} (hR : lw_R T ad G a dr N bc sp M B) {x y h v : Nat} (hx : x < 20) (hy : y < 20) (hh2 : h ≤ 20 - x) (hv2 : v ≤ 20 - y) (q : ¬ ∀ i j, x ≤ i → i < x + h → y ≤ j → j < y + v → ∀ g, g < 400 → ¬ mo_in M g (20 * i + j)) : ∃ i j, (x ≤ i ∧ i ≤ x + h - 1) ∧ (y ≤ j ∧ j ≤ y + v - 1) ∧ a 0 (20 * i + j) ≠ none := by
  refine Classical.byContradiction fun z => q fun i j z1 z2 z3 z4 g hg hi => z ⟨i, j, by omega, by omega, ?_⟩
  rw [(hR.2.2.2.2.2.2.2.1 (20 * i + j) (by omega)).1 g hg hi]
  exact Option.some_ne_none _
def lw_N (p : Program) (l : Launch) (e : Env) (R : Room) (s : State) (m : MethodId) (args : Array Value) (below : List Frame) (meth : Method) (c : Code) (Q : State → Prop) (D : va_G) (F : Nat → Prop) (cF cI cZ cJ cA cB : ClassId) (ν : Nat → Nat → va_E) (b x0 x1 x2 i cells slots pc : Nat) : Prop :=
  ∀ (T : Nat → Prop) (ad : Nat → Nat → Nat) (ok : Nat → Nat → Prop) (G : Nat → Nat) (a : Nat → Nat → Option Nat) (dr : Nat → Int32) (N : Nat → Nat → Nat) (bc : Nat → Int32) (sp : Nat → Nat → Int32) (M : Nat → Nat → Nat) (B : Nat → Nat → Nat → Nat) (o : Nat → Int64), lw_O T ok → lw_R T ad G a dr N bc sp M B → ad 0 0 = x0 → ad 11 0 = x1 → ad 10 0 = x2 →
    tg_W p l e R s m args below meth c Q 7 D vwCl F ad ok (lw_W cF cI cZ cJ cA cB ν ad G a dr N bc sp M B o) [(0, .ref b), (1, .ref x0), (2, .ref x1), (3, .ref x2), (4, .int (nI i))] cells slots pc []
set_option maxRecDepth 100000 in
set_option maxHeartbeats 8000000 in
/-- touch -/
theorem s_touch {p : Program} {l : Launch} {e : Env} {R : Room} {s : State} {m : MethodId} {args : Array Value} {below : List Frame} {meth : Method} {c : Code} {Q : State → Prop} {D : va_G} {F : Nat → Prop} {cF cI cZ cJ cA cB : ClassId} {ν : Nat → Nat → va_E} {b L9 : Nat} {xs : Nat → Int32} {x0 x1 x2 i cells slots : Nat} (hx : p.tables.exec = Jvm.exec) (hb : c.code = code) (hml : c.maxLocals = 7) (hl9 : l.stackTraces = false) (hown : s.vm.findClass "HangGraphLaw" = some m.cls) (hts : ∀ w ∈ lw_g, w.before args s = true) (hK : va_K D vwCl (hg_tys cI cF cZ cJ cA cB) s) (hN : hg_N F s s.heap) (hX : va_X b L9 xs s s.heap) (hbl : b < s.heap.size) (hbF : ¬ F b) (hL : L9 ≤ 3584) (hi : i + 7 ≤ L9) (hR : R = room_1) (hcs : cells + 2 ≤ 601024 ∧ slots + 35 ≤ 7293034) (hn : lw_N p l e R s m args below meth c Q D F cF cI cZ cJ cA cB ν b x0 x1 x2 i (cells + 2) (slots + 35) 571) : lw_N p l e R s m args below meth c Q D F cF cI cZ cJ cA cB ν b x0 x1 x2 i cells slots 362 := by
  intro T ad ok G a dr N bc sp M B o hO hRR e0 e1 e2
  subst e0
  subst e1
  subst e2
  have hMv := hg_Mv F
  have hBM := hRR.2.2.2.2.2.2.2.2.2.2.1.2.2.1
  have hBN := hRR.2.2.2.2.2.2.2.2.2.2.1.1
  refine tg_aload_n hx hb dL_law_362 rfl rfl ?_
  refine tg_aload_n hx hb dL_law_363 rfl rfl ?_
  refine tg_iload hx hb dL_law_364 rfl ?_
  refine tg_iconst (v := nI 1) hx hb dL_law_366 (by decide +kernel) ?_
  refine tg_iadd hx hb dL_law_367 ?_
  refine tg_top (y := nI ((i) + (1))) (nI_add _ _) ?_
  refine tg_sld hx hb hX hbl hbF (x := (i) + (1)) (by omega) (by omega) dL_law_368 ?_
  refine tg_aload_n hx hb dL_law_369 rfl rfl ?_
  refine tg_iload hx hb dL_law_370 rfl ?_
  refine tg_iconst (v := nI 2) hx hb dL_law_372 (by decide +kernel) ?_
  refine tg_iadd hx hb dL_law_373 ?_
  refine tg_top (y := nI ((i) + (2))) (nI_add _ _) ?_
  refine tg_sld hx hb hX hbl hbF (x := (i) + (2)) (by omega) (by omega) dL_law_374 ?_
  by_cases q1 : hg_bC (xs ((i) + (1))) (xs ((i) + (2)))
  · skip
    refine tg_callSX (As := [.ref (ad 0 0), .int (xs ((i) + (1))), .int (xs ((i) + (2)))]) (rest := []) ⟨hx, hb, hml, hown, hts⟩ hK hN hMv (l_touch1 _ _ hO.1 rfl (t_touch1 hl9 _ _ q1)) (vx_cwSW 3 hts (lg_SW wm_L_62 wt_L_touch wn_L wgL_touch) rfl rfl rfl ⟨by decide, by decide, rfl⟩ ⟨(by rw [hR]; exact Nat.le_of_ble_eq_true rfl), (by rw [hR]; exact Nat.le_of_ble_eq_true rfl)⟩) rfl (Nat.le_of_ble_eq_true rfl) ⟨by rw [hR]; show cells + 1 ≤ 601024; omega, by rw [hR]; show slots + 6 ≤ 7293034; omega⟩ rfl dL_law_375 ?_
    intro r9 ad9 ok9 w9 ⟨ha9, hok9, hr9, hw9⟩
    subst hr9
    rw [ha9, hok9, hw9]
    refine tg_st (st' := [.int (nI 1)]) rfl ?_
    refine tg_istore (L' := [(0, .ref b), (1, .ref (ad 0 0)), (2, .ref (ad 11 0)), (3, .ref (ad 10 0)), (4, .int (nI (i))), (5, .int (nI (1)))]) hx hb dL_law_378 (by decide) rfl rfl ?_
    refine tg_aload_n hx hb dL_law_380 rfl rfl ?_
    refine tg_aload_n hx hb dL_law_381 rfl rfl ?_
    refine tg_iload hx hb dL_law_382 rfl ?_
    refine tg_iconst (v := nI 1) hx hb dL_law_384 (by decide +kernel) ?_
    refine tg_iadd hx hb dL_law_385 ?_
    refine tg_top (y := nI ((i) + (1))) (nI_add _ _) ?_
    refine tg_sld hx hb hX hbl hbF (x := (i) + (1)) (by omega) (by omega) dL_law_386 ?_
    refine tg_aload_n hx hb dL_law_387 rfl rfl ?_
    refine tg_iload hx hb dL_law_388 rfl ?_
    refine tg_iconst (v := nI 2) hx hb dL_law_390 (by decide +kernel) ?_
    refine tg_iadd hx hb dL_law_391 ?_
    refine tg_top (y := nI ((i) + (2))) (nI_add _ _) ?_
    refine tg_sld hx hb hX hbl hbF (x := (i) + (2)) (by omega) (by omega) dL_law_392 ?_
    refine tg_w lw_sw ?_
    refine tg_callV (C := "HangGraphModel") (k := 11) (i := 0) (As := [.int (xs ((i) + (1))), .int (xs ((i) + (2)))]) (rest := []) ⟨hx, hb, hml, hown, hts⟩ hK hN hMv (hO.2.1.1 11 (by decide) (by decide) (by decide) (by decide)) rfl rfl rfl (c_mTouch1 hO.2.1 hMv _ _ (lw_c1 q1 _ _)) (cwV 2 hts (lg_V wm_L_65 wi_M_touch we_M_touch wn_M wc_M_touch) rfl rfl rfl ⟨rfl, by decide, by decide, rfl⟩ ⟨(by rw [hR]; exact Nat.le_of_ble_eq_true rfl), (by rw [hR]; exact Nat.le_of_ble_eq_true rfl)⟩) rfl (Nat.le_of_ble_eq_true rfl) ⟨by rw [hR]; show cells + 1 + 0 ≤ 601024; omega, by rw [hR]; show slots + 6 + 0 ≤ 7293034; omega⟩ rfl dL_law_393 (tg_kn rfl rfl ?_)
    refine tg_w lw_sw.symm ?_
    refine tg_aload_n hx hb dL_law_396 rfl rfl ?_
    refine tg_w lw_sw ?_
    refine tg_callV (C := "HangGraphModel") (k := 11) (i := 0) (As := []) (rest := []) ⟨hx, hb, hml, hown, hts⟩ hK hN hMv (hO.2.1.1 11 (by decide) (by decide) (by decide) (by decide)) rfl rfl rfl (c_mThrown hO.2.1) (cwV 0 hts (lg_V wm_L_50 wi_M_thrown we_M_thrown wn_M wc_M_thrown) rfl rfl rfl ⟨rfl, by decide, by decide, rfl⟩ ⟨(by rw [hR]; exact Nat.le_of_ble_eq_true rfl), (by rw [hR]; exact Nat.le_of_ble_eq_true rfl)⟩) rfl (Nat.le_of_ble_eq_true rfl) ⟨by rw [hR]; show cells + 1 + 0 ≤ 601024; omega, by rw [hR]; show slots + 6 + 0 ≤ 7293034; omega⟩ rfl dL_law_397 (tg_kv rfl rfl ?_)
    refine tg_w lw_sw.symm ?_
    refine tg_top (y := nI 1) (by rw [tg_up_self]) ?_
    refine tg_iload hx hb dL_law_400 rfl ?_
    refine tg_icmp_eq (tgt := 407) hx hb dL_law_402 (by decide) (fun q_1 => ?_) (fun q_1 => ?_)
    · have q_1' := q_1
      have h_2 : 1 = 1 := (nI_eq (by omega) (by omega)).mp q_1
      refine tg_goto (tgt := 571) hx hb dL_law_407 (by decide) ?_
      refine tg_sub (L' := [(0, .ref b), (1, .ref (ad 0 0)), (2, .ref (ad 11 0)), (3, .ref (ad 10 0)), (4, .int (nI (i)))]) (fun z8 hz8 => (List.mem_append_left [(5, .int (nI (1)))] hz8 : z8 ∈ [(0, .ref b), (1, .ref (ad 0 0)), (2, .ref (ad 11 0)), (3, .ref (ad 10 0)), (4, .int (nI (i)))] ++ [(5, .int (nI (1)))])) ?_
      refine tg_widen (k := cells + 2) (n := slots + 35) (by show cells + 1 ≤ cells + 2; omega) (by show slots + 6 ≤ slots + 35; omega) ?_
      exact hn T ad ok G a dr N bc sp (tg_up (tg_up M 11 0 0) 11 0 1) B o hO (hRR.m0 (M' := (tg_up (tg_up M 11 0 0) 11 0 1)) (fun j hj => by rw [mo_col _ _ _ hj, mo_col _ _ _ hj]) (mo_b0 (mo_b0 hBM (by decide)) (by decide))) rfl rfl rfl
    · have q_1' := q_1
      have h_3 : 1 ≠ 1 := fun z => q_1 ((nI_eq (by omega) (by omega)).mpr z)
      omega
  · obtain ⟨x, y, hx9, hy9, ex, ey⟩ := lw_c0 q1
    rw [ey, ex]
    refine tg_callSX (As := [.ref (ad 0 0), .int (nI x), .int (nI y)]) (rest := []) ⟨hx, hb, hml, hown, hts⟩ hK hN hMv (l_touch0 _ _ hO.1 rfl (c_touch hO.1 hMv x y hx9 hy9) (fun r ad1 ok1 w1 h => h.2.2.1)) (vx_cwSW 3 hts (lg_SW wm_L_62 wt_L_touch wn_L wgL_touch) rfl rfl rfl ⟨by decide, by decide, rfl⟩ ⟨(by rw [hR]; exact Nat.le_of_ble_eq_true rfl), (by rw [hR]; exact Nat.le_of_ble_eq_true rfl)⟩) rfl (Nat.le_of_ble_eq_true rfl) ⟨by rw [hR]; show cells + 0 ≤ 601024; omega, by rw [hR]; show slots + 0 ≤ 7293034; omega⟩ rfl dL_law_375 ?_
    intro r9 ad9 ok9 w9 ⟨hr9, ha9, hok9, hv9, hw9⟩
    subst hr9
    rw [ha9, hok9, hw9]
    refine tg_w (w' := (lw_W cF cI cZ cJ cA cB ν ad G a (upd dr x ((dr x) ||| (hg_cb y y))) N bc sp M B o)) rfl ?_
    refine tg_st (st' := [.int (nI 0)]) rfl ?_
    refine tg_istore (L' := [(0, .ref b), (1, .ref (ad 0 0)), (2, .ref (ad 11 0)), (3, .ref (ad 10 0)), (4, .int (nI (i))), (5, .int (nI (0)))]) hx hb dL_law_378 (by decide) rfl rfl ?_
    refine tg_aload_n hx hb dL_law_380 rfl rfl ?_
    refine tg_aload_n hx hb dL_law_381 rfl rfl ?_
    refine tg_iload hx hb dL_law_382 rfl ?_
    refine tg_iconst (v := nI 1) hx hb dL_law_384 (by decide +kernel) ?_
    refine tg_iadd hx hb dL_law_385 ?_
    refine tg_top (y := nI ((i) + (1))) (nI_add _ _) ?_
    refine tg_sld hx hb hX hbl hbF (x := (i) + (1)) (by omega) (by omega) dL_law_386 ?_
    refine tg_aload_n hx hb dL_law_387 rfl rfl ?_
    refine tg_iload hx hb dL_law_388 rfl ?_
    refine tg_iconst (v := nI 2) hx hb dL_law_390 (by decide +kernel) ?_
    refine tg_iadd hx hb dL_law_391 ?_
    refine tg_top (y := nI ((i) + (2))) (nI_add _ _) ?_
    refine tg_sld hx hb hX hbl hbF (x := (i) + (2)) (by omega) (by omega) dL_law_392 ?_
    rw [ey, ex]
    refine tg_w lw_sw ?_
    refine tg_callV (C := "HangGraphModel") (k := 11) (i := 0) (As := [.int (nI x), .int (nI y)]) (rest := []) ⟨hx, hb, hml, hown, hts⟩ hK hN hMv (hO.2.1.1 11 (by decide) (by decide) (by decide) (by decide)) rfl rfl rfl (c_mTouch0 hO.2.1 hMv x y hx9 hy9) (cwV 2 hts (lg_V wm_L_65 wi_M_touch we_M_touch wn_M wc_M_touch) rfl rfl rfl ⟨rfl, by decide, by decide, rfl⟩ ⟨(by rw [hR]; exact Nat.le_of_ble_eq_true rfl), (by rw [hR]; exact Nat.le_of_ble_eq_true rfl)⟩) rfl (Nat.le_of_ble_eq_true rfl) ⟨by rw [hR]; show cells + 0 + 0 ≤ 601024; omega, by rw [hR]; show slots + 0 + 0 ≤ 7293034; omega⟩ rfl dL_law_393 (tg_kn rfl rfl ?_)
    refine tg_w lw_sw.symm ?_
    refine tg_aload_n hx hb dL_law_396 rfl rfl ?_
    refine tg_w lw_sw ?_
    refine tg_callV (C := "HangGraphModel") (k := 11) (i := 0) (As := []) (rest := []) ⟨hx, hb, hml, hown, hts⟩ hK hN hMv (hO.2.1.1 11 (by decide) (by decide) (by decide) (by decide)) rfl rfl rfl (c_mThrown hO.2.1) (cwV 0 hts (lg_V wm_L_50 wi_M_thrown we_M_thrown wn_M wc_M_thrown) rfl rfl rfl ⟨rfl, by decide, by decide, rfl⟩ ⟨(by rw [hR]; exact Nat.le_of_ble_eq_true rfl), (by rw [hR]; exact Nat.le_of_ble_eq_true rfl)⟩) rfl (Nat.le_of_ble_eq_true rfl) ⟨by rw [hR]; show cells + 0 + 0 ≤ 601024; omega, by rw [hR]; show slots + 0 + 0 ≤ 7293034; omega⟩ rfl dL_law_397 (tg_kv rfl rfl ?_)
    refine tg_w lw_sw.symm ?_
    refine tg_top (y := nI 0) (by rw [show (tg_up (tg_up M 11 0 0) 18 (20 * x + y) 1) 11 0 = 0 by rw [mo_col _ _ _ (by decide), tg_up_self]]) ?_
    refine tg_iload hx hb dL_law_400 rfl ?_
    refine tg_icmp_eq (tgt := 407) hx hb dL_law_402 (by decide) (fun q_4 => ?_) (fun q_4 => ?_)
    · have q_4' := q_4
      have h_5 : 0 = 0 := (nI_eq (by omega) (by omega)).mp q_4
      refine tg_goto (tgt := 571) hx hb dL_law_407 (by decide) ?_
      refine tg_sub (L' := [(0, .ref b), (1, .ref (ad 0 0)), (2, .ref (ad 11 0)), (3, .ref (ad 10 0)), (4, .int (nI (i)))]) (fun z8 hz8 => (List.mem_append_left [(5, .int (nI (0)))] hz8 : z8 ∈ [(0, .ref b), (1, .ref (ad 0 0)), (2, .ref (ad 11 0)), (3, .ref (ad 10 0)), (4, .int (nI (i)))] ++ [(5, .int (nI (0)))])) ?_
      refine tg_widen (k := cells + 2) (n := slots + 35) (by show cells + 0 ≤ cells + 2; omega) (by show slots + 0 ≤ slots + 35; omega) ?_
      exact hn T ad ok G a (upd dr x ((dr x) ||| (hg_cb y y))) N bc sp (tg_up (tg_up M 11 0 0) 18 (20 * x + y) 1) B o hO ((hRR.m0 (M' := (tg_up M 11 0 0)) (fun j hj => mo_col _ _ _ hj) (mo_b0 hBM (by decide))).touch hx9 hy9) rfl rfl rfl
    · have q_4' := q_4
      have h_6 : 0 ≠ 0 := fun z => q_4 ((nI_eq (by omega) (by omega)).mpr z)
      omega
set_option maxRecDepth 100000 in
set_option maxHeartbeats 8000000 in
/-- out -/
theorem s_out {p : Program} {l : Launch} {e : Env} {R : Room} {s : State} {m : MethodId} {args : Array Value} {below : List Frame} {meth : Method} {c : Code} {Q : State → Prop} {D : va_G} {F : Nat → Prop} {cF cI cZ cJ cA cB : ClassId} {ν : Nat → Nat → va_E} {b L9 : Nat} {xs : Nat → Int32} {x0 x1 x2 i cells slots : Nat} (hx : p.tables.exec = Jvm.exec) (hb : c.code = code) (hml : c.maxLocals = 7) (hl9 : l.stackTraces = false) (hown : s.vm.findClass "HangGraphLaw" = some m.cls) (hts : ∀ w ∈ lw_g, w.before args s = true) (hK : va_K D vwCl (hg_tys cI cF cZ cJ cA cB) s) (hN : hg_N F s s.heap) (hX : va_X b L9 xs s s.heap) (hbl : b < s.heap.size) (hbF : ¬ F b) (hL : L9 ≤ 3584) (hi : i + 7 ≤ L9) (hR : R = room_1) (hcs : cells + 2 ≤ 601024 ∧ slots + 35 ≤ 7293034) (hn : lw_N p l e R s m args below meth c Q D F cF cI cZ cJ cA cB ν b x0 x1 x2 i (cells + 2) (slots + 35) 571) : lw_N p l e R s m args below meth c Q D F cF cI cZ cJ cA cB ν b x0 x1 x2 i cells slots 176 := by
  intro T ad ok G a dr N bc sp M B o hO hRR e0 e1 e2
  subst e0
  subst e1
  subst e2
  have hMv := hg_Mv F
  have hBM := hRR.2.2.2.2.2.2.2.2.2.2.1.2.2.1
  have hBN := hRR.2.2.2.2.2.2.2.2.2.2.1.1
  refine tg_aload_n hx hb dL_law_176 rfl rfl ?_
  refine tg_aload_n hx hb dL_law_177 rfl rfl ?_
  refine tg_iload hx hb dL_law_178 rfl ?_
  refine tg_iconst (v := nI 1) hx hb dL_law_180 (by decide +kernel) ?_
  refine tg_iadd hx hb dL_law_181 ?_
  refine tg_top (y := nI ((i) + (1))) (nI_add _ _) ?_
  refine tg_sld hx hb hX hbl hbF (x := (i) + (1)) (by omega) (by omega) dL_law_182 ?_
  refine tg_aload_n hx hb dL_law_183 rfl rfl ?_
  refine tg_iload hx hb dL_law_184 rfl ?_
  refine tg_iconst (v := nI 2) hx hb dL_law_186 (by decide +kernel) ?_
  refine tg_iadd hx hb dL_law_187 ?_
  refine tg_top (y := nI ((i) + (2))) (nI_add _ _) ?_
  refine tg_sld hx hb hX hbl hbF (x := (i) + (2)) (by omega) (by omega) dL_law_188 ?_
  refine tg_aload_n hx hb dL_law_189 rfl rfl ?_
  by_cases q1 : hg_bC (xs ((i) + (1))) (xs ((i) + (2)))
  · skip
    refine tg_callSX (As := [.ref (ad 0 0), .int (xs ((i) + (1))), .int (xs ((i) + (2))), .ref (ad 10 0)]) (rest := []) ⟨hx, hb, hml, hown, hts⟩ hK hN hMv (l_out1 _ _ hO.1 rfl (t_out1 hl9 _ _ q1)) (vx_cwSW 4 hts (lg_SW wm_L_54 wt_L_out wn_L wgL_out) rfl rfl rfl ⟨by decide, by decide, rfl⟩ ⟨(by rw [hR]; exact Nat.le_of_ble_eq_true rfl), (by rw [hR]; exact Nat.le_of_ble_eq_true rfl)⟩) rfl (Nat.le_of_ble_eq_true rfl) ⟨by rw [hR]; show cells + 1 ≤ 601024; omega, by rw [hR]; show slots + 6 ≤ 7293034; omega⟩ rfl dL_law_190 ?_
    intro r9 ad9 ok9 w9 ⟨ha9, hok9, hr9, hw9⟩
    subst hr9
    rw [ha9, hok9, hw9]
    refine tg_st (st' := [.int (nI 1)]) rfl ?_
    refine tg_istore (L' := [(0, .ref b), (1, .ref (ad 0 0)), (2, .ref (ad 11 0)), (3, .ref (ad 10 0)), (4, .int (nI (i))), (5, .int (nI (1)))]) hx hb dL_law_193 (by decide) rfl rfl ?_
    refine tg_aload_n hx hb dL_law_195 rfl rfl ?_
    refine tg_aload_n hx hb dL_law_196 rfl rfl ?_
    refine tg_iload hx hb dL_law_197 rfl ?_
    refine tg_iconst (v := nI 1) hx hb dL_law_199 (by decide +kernel) ?_
    refine tg_iadd hx hb dL_law_200 ?_
    refine tg_top (y := nI ((i) + (1))) (nI_add _ _) ?_
    refine tg_sld hx hb hX hbl hbF (x := (i) + (1)) (by omega) (by omega) dL_law_201 ?_
    refine tg_aload_n hx hb dL_law_202 rfl rfl ?_
    refine tg_iload hx hb dL_law_203 rfl ?_
    refine tg_iconst (v := nI 2) hx hb dL_law_205 (by decide +kernel) ?_
    refine tg_iadd hx hb dL_law_206 ?_
    refine tg_top (y := nI ((i) + (2))) (nI_add _ _) ?_
    refine tg_sld hx hb hX hbl hbF (x := (i) + (2)) (by omega) (by omega) dL_law_207 ?_
    refine tg_w lw_sw ?_
    refine tg_callV (C := "HangGraphModel") (k := 11) (i := 0) (As := [.int (xs ((i) + (1))), .int (xs ((i) + (2)))]) (rest := []) ⟨hx, hb, hml, hown, hts⟩ hK hN hMv (hO.2.1.1 11 (by decide) (by decide) (by decide) (by decide)) rfl rfl rfl (c_mOut21 hO.2.1 hMv _ _ (lw_c1 q1 _ _)) (cwV 2 hts (lg_V wm_L_57 wi_M_out2 we_M_out2 wn_M wc_M_out2) rfl rfl rfl ⟨rfl, by decide, by decide, rfl⟩ ⟨(by rw [hR]; exact Nat.le_of_ble_eq_true rfl), (by rw [hR]; exact Nat.le_of_ble_eq_true rfl)⟩) rfl (Nat.le_of_ble_eq_true rfl) ⟨by rw [hR]; show cells + 1 + 0 ≤ 601024; omega, by rw [hR]; show slots + 6 + 0 ≤ 7293034; omega⟩ rfl dL_law_208 (tg_kv rfl rfl ?_)
    refine tg_w lw_sw.symm ?_
    refine tg_istore (L' := [(0, .ref b), (1, .ref (ad 0 0)), (2, .ref (ad 11 0)), (3, .ref (ad 10 0)), (4, .int (nI (i))), (5, .int (nI (1))), (6, .int (nI (0)))]) hx hb dL_law_211 (by decide) rfl rfl ?_
    refine tg_aload_n hx hb dL_law_213 rfl rfl ?_
    refine tg_w lw_sw ?_
    refine tg_callV (C := "HangGraphModel") (k := 11) (i := 0) (As := []) (rest := []) ⟨hx, hb, hml, hown, hts⟩ hK hN hMv (hO.2.1.1 11 (by decide) (by decide) (by decide) (by decide)) rfl rfl rfl (c_mThrown hO.2.1) (cwV 0 hts (lg_V wm_L_50 wi_M_thrown we_M_thrown wn_M wc_M_thrown) rfl rfl rfl ⟨rfl, by decide, by decide, rfl⟩ ⟨(by rw [hR]; exact Nat.le_of_ble_eq_true rfl), (by rw [hR]; exact Nat.le_of_ble_eq_true rfl)⟩) rfl (Nat.le_of_ble_eq_true rfl) ⟨by rw [hR]; show cells + 1 + 0 ≤ 601024; omega, by rw [hR]; show slots + 6 + 0 ≤ 7293034; omega⟩ rfl dL_law_214 (tg_kv rfl rfl ?_)
    refine tg_w lw_sw.symm ?_
    refine tg_top (y := nI 1) (by rw [tg_up_self]) ?_
    refine tg_iload hx hb dL_law_217 rfl ?_
    refine tg_icmp_eq (tgt := 224) hx hb dL_law_219 (by decide) (fun q_1 => ?_) (fun q_1 => ?_)
    · have q_1' := q_1
      have h_2 : 1 = 1 := (nI_eq (by omega) (by omega)).mp q_1
      refine tg_iload hx hb dL_law_224 rfl ?_
      refine tg_if_ne (tgt := 241) hx hb dL_law_226 (by decide) (fun q_3 => ?_) (fun q_3 => ?_)
      · have q_3' := q_3
        rw [← nI_0] at q_3
        have h_4 : 1 ≠ 0 := fun z => q_3 ((nI_eq (by omega) (by omega)).mpr z)
        refine tg_goto (tgt := 571) hx hb dL_law_241 (by decide) ?_
        refine tg_sub (L' := [(0, .ref b), (1, .ref (ad 0 0)), (2, .ref (ad 11 0)), (3, .ref (ad 10 0)), (4, .int (nI (i)))]) (fun z8 hz8 => (List.mem_append_left [(5, .int (nI (1))), (6, .int (nI (0)))] hz8 : z8 ∈ [(0, .ref b), (1, .ref (ad 0 0)), (2, .ref (ad 11 0)), (3, .ref (ad 10 0)), (4, .int (nI (i)))] ++ [(5, .int (nI (1))), (6, .int (nI (0)))])) ?_
        refine tg_widen (k := cells + 2) (n := slots + 35) (by show cells + 1 ≤ cells + 2; omega) (by show slots + 6 ≤ slots + 35; omega) ?_
        exact hn T ad ok G a dr N bc sp (tg_up (tg_up M 11 0 0) 11 0 1) B o hO (hRR.m0 (M' := (tg_up (tg_up M 11 0 0) 11 0 1)) (fun j hj => by rw [mo_col _ _ _ hj, mo_col _ _ _ hj]) (mo_b0 (mo_b0 hBM (by decide)) (by decide))) rfl rfl rfl
      · have q_3' := q_3
        rw [← nI_0] at q_3
        have h_5 : 1 = 0 := (nI_eq (by omega) (by omega)).mp q_3
        omega
    · have q_1' := q_1
      have h_6 : 1 ≠ 1 := fun z => q_1 ((nI_eq (by omega) (by omega)).mpr z)
      omega
  · obtain ⟨x, y, hx9, hy9, ex, ey⟩ := lw_c0 q1
    by_cases q4 : M 12 (20 * x + y) = 0
    · skip
      rw [ey, ex]
      refine tg_callSX (As := [.ref (ad 0 0), .int (nI x), .int (nI y), .ref (ad 10 0)]) (rest := []) ⟨hx, hb, hml, hown, hts⟩ hK hN hMv (l_out2 _ _ hO.1 rfl (t_out2 hl9 hO.1 hO.2.2.1 hBN x y hx9 hy9 (hRR.un (by omega) q4))) (vx_cwSW 4 hts (lg_SW wm_L_54 wt_L_out wn_L wgL_out) rfl rfl rfl ⟨by decide, by decide, rfl⟩ ⟨(by rw [hR]; exact Nat.le_of_ble_eq_true rfl), (by rw [hR]; exact Nat.le_of_ble_eq_true rfl)⟩) rfl (Nat.le_of_ble_eq_true rfl) ⟨by rw [hR]; show cells + 1 ≤ 601024; omega, by rw [hR]; show slots + 6 ≤ 7293034; omega⟩ rfl dL_law_190 ?_
      intro r9 ad9 ok9 w9 ⟨ha9, hok9, hr9, hw9⟩
      subst hr9
      rw [ha9, hok9, hw9]
      refine tg_st (st' := [.int (nI 2)]) rfl ?_
      refine tg_istore (L' := [(0, .ref b), (1, .ref (ad 0 0)), (2, .ref (ad 11 0)), (3, .ref (ad 10 0)), (4, .int (nI (i))), (5, .int (nI (2)))]) hx hb dL_law_193 (by decide) rfl rfl ?_
      refine tg_aload_n hx hb dL_law_195 rfl rfl ?_
      refine tg_aload_n hx hb dL_law_196 rfl rfl ?_
      refine tg_iload hx hb dL_law_197 rfl ?_
      refine tg_iconst (v := nI 1) hx hb dL_law_199 (by decide +kernel) ?_
      refine tg_iadd hx hb dL_law_200 ?_
      refine tg_top (y := nI ((i) + (1))) (nI_add _ _) ?_
      refine tg_sld hx hb hX hbl hbF (x := (i) + (1)) (by omega) (by omega) dL_law_201 ?_
      refine tg_aload_n hx hb dL_law_202 rfl rfl ?_
      refine tg_iload hx hb dL_law_203 rfl ?_
      refine tg_iconst (v := nI 2) hx hb dL_law_205 (by decide +kernel) ?_
      refine tg_iadd hx hb dL_law_206 ?_
      refine tg_top (y := nI ((i) + (2))) (nI_add _ _) ?_
      refine tg_sld hx hb hX hbl hbF (x := (i) + (2)) (by omega) (by omega) dL_law_207 ?_
      rw [ey, ex]
      refine tg_w lw_sw ?_
      refine tg_callV (C := "HangGraphModel") (k := 11) (i := 0) (As := [.int (nI x), .int (nI y)]) (rest := []) ⟨hx, hb, hml, hown, hts⟩ hK hN hMv (hO.2.1.1 11 (by decide) (by decide) (by decide) (by decide)) rfl rfl rfl (c_mOut22 hO.2.1 hMv hBM x y hx9 hy9 q4) (cwV 2 hts (lg_V wm_L_57 wi_M_out2 we_M_out2 wn_M wc_M_out2) rfl rfl rfl ⟨rfl, by decide, by decide, rfl⟩ ⟨(by rw [hR]; exact Nat.le_of_ble_eq_true rfl), (by rw [hR]; exact Nat.le_of_ble_eq_true rfl)⟩) rfl (Nat.le_of_ble_eq_true rfl) ⟨by rw [hR]; show cells + 1 + 0 ≤ 601024; omega, by rw [hR]; show slots + 6 + 0 ≤ 7293034; omega⟩ rfl dL_law_208 (tg_kv rfl rfl ?_)
      refine tg_w lw_sw.symm ?_
      refine tg_istore (L' := [(0, .ref b), (1, .ref (ad 0 0)), (2, .ref (ad 11 0)), (3, .ref (ad 10 0)), (4, .int (nI (i))), (5, .int (nI (2))), (6, .int (nI (0)))]) hx hb dL_law_211 (by decide) rfl rfl ?_
      refine tg_aload_n hx hb dL_law_213 rfl rfl ?_
      refine tg_w lw_sw ?_
      refine tg_callV (C := "HangGraphModel") (k := 11) (i := 0) (As := []) (rest := []) ⟨hx, hb, hml, hown, hts⟩ hK hN hMv (hO.2.1.1 11 (by decide) (by decide) (by decide) (by decide)) rfl rfl rfl (c_mThrown hO.2.1) (cwV 0 hts (lg_V wm_L_50 wi_M_thrown we_M_thrown wn_M wc_M_thrown) rfl rfl rfl ⟨rfl, by decide, by decide, rfl⟩ ⟨(by rw [hR]; exact Nat.le_of_ble_eq_true rfl), (by rw [hR]; exact Nat.le_of_ble_eq_true rfl)⟩) rfl (Nat.le_of_ble_eq_true rfl) ⟨by rw [hR]; show cells + 1 + 0 ≤ 601024; omega, by rw [hR]; show slots + 6 + 0 ≤ 7293034; omega⟩ rfl dL_law_214 (tg_kv rfl rfl ?_)
      refine tg_w lw_sw.symm ?_
      refine tg_top (y := nI 2) (by rw [tg_up_self]) ?_
      refine tg_iload hx hb dL_law_217 rfl ?_
      refine tg_icmp_eq (tgt := 224) hx hb dL_law_219 (by decide) (fun q_7 => ?_) (fun q_7 => ?_)
      · have q_7' := q_7
        have h_8 : 2 = 2 := (nI_eq (by omega) (by omega)).mp q_7
        refine tg_iload hx hb dL_law_224 rfl ?_
        refine tg_if_ne (tgt := 241) hx hb dL_law_226 (by decide) (fun q_9 => ?_) (fun q_9 => ?_)
        · have q_9' := q_9
          rw [← nI_0] at q_9
          have h_10 : 2 ≠ 0 := fun z => q_9 ((nI_eq (by omega) (by omega)).mpr z)
          refine tg_goto (tgt := 571) hx hb dL_law_241 (by decide) ?_
          refine tg_sub (L' := [(0, .ref b), (1, .ref (ad 0 0)), (2, .ref (ad 11 0)), (3, .ref (ad 10 0)), (4, .int (nI (i)))]) (fun z8 hz8 => (List.mem_append_left [(5, .int (nI (2))), (6, .int (nI (0)))] hz8 : z8 ∈ [(0, .ref b), (1, .ref (ad 0 0)), (2, .ref (ad 11 0)), (3, .ref (ad 10 0)), (4, .int (nI (i)))] ++ [(5, .int (nI (2))), (6, .int (nI (0)))])) ?_
          refine tg_widen (k := cells + 2) (n := slots + 35) (by show cells + 1 ≤ cells + 2; omega) (by show slots + 6 ≤ slots + 35; omega) ?_
          exact hn T ad ok G a dr N bc sp (tg_up (tg_up M 11 0 0) 11 0 2) B o hO (hRR.m0 (M' := (tg_up (tg_up M 11 0 0) 11 0 2)) (fun j hj => by rw [mo_col _ _ _ hj, mo_col _ _ _ hj]) (mo_b0 (mo_b0 hBM (by decide)) (by decide))) rfl rfl rfl
        · have q_9' := q_9
          rw [← nI_0] at q_9
          have h_11 : 2 = 0 := (nI_eq (by omega) (by omega)).mp q_9
          omega
      · have q_7' := q_7
        have h_12 : 2 ≠ 2 := fun z => q_7 ((nI_eq (by omega) (by omega)).mpr z)
        omega
    · skip
      have hT : T (20 * x + y) := (hRR.1 _).mpr ⟨by omega, q4⟩
      obtain ⟨d1, d2, d3, d4⟩ := hRR.dims hT
      have hG0 : 1 ≤ G 0 := by
        rw [hRR.2.2.2.2.2.2.2.2.1]
        have z := hg_cn_lt (P := fun _ => False) (Q := fun f => M 12 f ≠ 0) (x := (20 * x + y)) id q4 400 (by omega) (fun _ _ z => z.elim)
        rw [hg_cn_0] at z
        exact z
      have hR2 := (hRR.m0 (M' := (tg_up M 11 0 0)) (fun j hj => mo_col _ _ _ hj) (mo_b0 hBM (by decide))).out hT
      rw [ey, ex]
      refine tg_callSX (As := [.ref (ad 0 0), .int (nI x), .int (nI y), .ref (ad 10 0)]) (rest := []) ⟨hx, hb, hml, hown, hts⟩ hK hN hMv (l_out0 _ _ hO.1 rfl (c_out hO.1 hO.2.2.1 hMv hBN x y hx9 hy9 (20 * x + y) hT (hRR.hself _ hT).2.1 (hRR.hself _ hT).2.2 d1 d2 d3 d4 hG0) (fun r ad1 ok1 w1 ⟨h1, h2, h3, h4⟩ => ⟨⟨_, h3⟩, by rw [h2]; exact hO.2.2.2.2, by rw [h1], ⟨o, by rw [h4]; rfl⟩⟩)) (vx_cwSW 4 hts (lg_SW wm_L_54 wt_L_out wn_L wgL_out) rfl rfl rfl ⟨by decide, by decide, rfl⟩ ⟨(by rw [hR]; exact Nat.le_of_ble_eq_true rfl), (by rw [hR]; exact Nat.le_of_ble_eq_true rfl)⟩) rfl (Nat.le_of_ble_eq_true rfl) ⟨by rw [hR]; show cells + 0 ≤ 601024; omega, by rw [hR]; show slots + 0 ≤ 7293034; omega⟩ rfl dL_law_190 ?_
      intro r9 ad9 ok9 w9 ⟨hr9, v9, w0, f9, ⟨ha9, hok9, hv9, hw0⟩, hf9, hw9⟩
      subst hr9
      injection hv9 with hv9
      injection hv9 with hv9
      rw [hw9, hw0, ha9, hok9, hv9]
      refine tg_w (w' := (lw_W cF cI cZ cJ cA cB ν ad (va_up G 0 (G 0 - 1)) (va_up a 0 (hg_cp (a 0) (N 1 (20 * x + y)) (N 2 (20 * x + y)) (N 4 (20 * x + y)) (N 3 (20 * x + y) + 1) (N 2 (20 * x + y)) none)) dr N bc sp M B (va_up f9 0 (nI (G 0 - 1)).toInt64))) (by show tg_up (hg_w _ _ _ _ _ _ _ _ _ (tg_up _ 10 0 _)) 10 0 _ = _; rw [lw_up, tg_uu]; rfl) ?_
      refine tg_st (st' := [.int (nI 0)]) rfl ?_
      refine tg_to (ad' := ad) (ok' := lw_ko ok (20 * x + y)) (w' := (lw_W cF cI cZ cJ cA cB ν ad (va_up G 0 (G 0 - 1)) (va_up a 0 (hg_cp (a 0) (N 1 (20 * x + y)) (N 2 (20 * x + y)) (N 4 (20 * x + y)) (N 3 (20 * x + y) + 1) (N 2 (20 * x + y)) none)) dr (lw_z N (20 * x + y)) bc sp M B (va_up f9 0 (nI (G 0 - 1)).toInt64))) (fun _ _ z => z.1) (fun _ _ _ => rfl) (fun k j z => lw_Wz (fun q => z.2 ⟨Or.inl q.1, q.2⟩)) ?_
      have hO2 := hO.out (f := (20 * x + y))
      refine tg_istore (L' := [(0, .ref b), (1, .ref (ad 0 0)), (2, .ref (ad 11 0)), (3, .ref (ad 10 0)), (4, .int (nI (i))), (5, .int (nI (0)))]) hx hb dL_law_193 (by decide) rfl rfl ?_
      refine tg_aload_n hx hb dL_law_195 rfl rfl ?_
      refine tg_aload_n hx hb dL_law_196 rfl rfl ?_
      refine tg_iload hx hb dL_law_197 rfl ?_
      refine tg_iconst (v := nI 1) hx hb dL_law_199 (by decide +kernel) ?_
      refine tg_iadd hx hb dL_law_200 ?_
      refine tg_top (y := nI ((i) + (1))) (nI_add _ _) ?_
      refine tg_sld hx hb hX hbl hbF (x := (i) + (1)) (by omega) (by omega) dL_law_201 ?_
      refine tg_aload_n hx hb dL_law_202 rfl rfl ?_
      refine tg_iload hx hb dL_law_203 rfl ?_
      refine tg_iconst (v := nI 2) hx hb dL_law_205 (by decide +kernel) ?_
      refine tg_iadd hx hb dL_law_206 ?_
      refine tg_top (y := nI ((i) + (2))) (nI_add _ _) ?_
      refine tg_sld hx hb hX hbl hbF (x := (i) + (2)) (by omega) (by omega) dL_law_207 ?_
      rw [ey, ex]
      refine tg_w lw_sw ?_
      refine tg_callV (C := "HangGraphModel") (k := 11) (i := 0) (As := [.int (nI x), .int (nI y)]) (rest := []) ⟨hx, hb, hml, hown, hts⟩ hK hN hMv (hO2.2.1.1 11 (by decide) (by decide) (by decide) (by decide)) rfl rfl rfl (c_mOut20 hO2.2.1 hMv hBM x y hx9 hy9 q4) (cwV 2 hts (lg_V wm_L_57 wi_M_out2 we_M_out2 wn_M wc_M_out2) rfl rfl rfl ⟨rfl, by decide, by decide, rfl⟩ ⟨(by rw [hR]; exact Nat.le_of_ble_eq_true rfl), (by rw [hR]; exact Nat.le_of_ble_eq_true rfl)⟩) rfl (Nat.le_of_ble_eq_true rfl) ⟨by rw [hR]; show cells + 0 + 0 ≤ 601024; omega, by rw [hR]; show slots + 0 + 0 ≤ 7293034; omega⟩ rfl dL_law_208 (tg_kv rfl rfl ?_)
      refine tg_w lw_sw.symm ?_
      refine tg_istore (L' := [(0, .ref b), (1, .ref (ad 0 0)), (2, .ref (ad 11 0)), (3, .ref (ad 10 0)), (4, .int (nI (i))), (5, .int (nI (0))), (6, .int (nI (hg_cn (fun f => (tg_up (tg_up M 11 0 0) 12 (20 * x + y) 0) 12 f ≠ 0) 400)))]) hx hb dL_law_211 (by decide) rfl rfl ?_
      refine tg_aload_n hx hb dL_law_213 rfl rfl ?_
      refine tg_w lw_sw ?_
      refine tg_callV (C := "HangGraphModel") (k := 11) (i := 0) (As := []) (rest := []) ⟨hx, hb, hml, hown, hts⟩ hK hN hMv (hO2.2.1.1 11 (by decide) (by decide) (by decide) (by decide)) rfl rfl rfl (c_mThrown hO2.2.1) (cwV 0 hts (lg_V wm_L_50 wi_M_thrown we_M_thrown wn_M wc_M_thrown) rfl rfl rfl ⟨rfl, by decide, by decide, rfl⟩ ⟨(by rw [hR]; exact Nat.le_of_ble_eq_true rfl), (by rw [hR]; exact Nat.le_of_ble_eq_true rfl)⟩) rfl (Nat.le_of_ble_eq_true rfl) ⟨by rw [hR]; show cells + 0 + 0 ≤ 601024; omega, by rw [hR]; show slots + 0 + 0 ≤ 7293034; omega⟩ rfl dL_law_214 (tg_kv rfl rfl ?_)
      refine tg_w lw_sw.symm ?_
      refine tg_top (y := nI 0) (by rw [show (tg_up (tg_up M 11 0 0) 12 (20 * x + y) 0) 11 0 = 0 by rw [mo_col _ _ _ (by decide), tg_up_self]]) ?_
      refine tg_iload hx hb dL_law_217 rfl ?_
      refine tg_icmp_eq (tgt := 224) hx hb dL_law_219 (by decide) (fun q_13 => ?_) (fun q_13 => ?_)
      · have q_13' := q_13
        have h_14 : 0 = 0 := (nI_eq (by omega) (by omega)).mp q_13
        refine tg_iload hx hb dL_law_224 rfl ?_
        refine tg_if_ne (tgt := 241) hx hb dL_law_226 (by decide) (fun q_15 => ?_) (fun q_15 => ?_)
        · have q_15' := q_15
          rw [← nI_0] at q_15
          have h_16 : 0 ≠ 0 := fun z => q_15 ((nI_eq (by omega) (by omega)).mpr z)
          omega
        · have q_15' := q_15
          rw [← nI_0] at q_15
          have h_17 : 0 = 0 := (nI_eq (by omega) (by omega)).mp q_15
          refine tg_aload_n hx hb dL_law_229 rfl rfl ?_
          refine tg_iconst (v := nI 0) hx hb dL_law_230 (by decide +kernel) ?_
          refine tg_lald (t0 := 3) hx hb hK hO2.2.2.2.2 lw_W10 rfl (x := 0) (by decide) (by decide) dL_law_231 ?_
          refine tg_st (st' := .long (nI (G 0 - 1)).toInt64 :: []) (by rw [va_up_self]) ?_
          refine tg_iload hx hb dL_law_232 rfl ?_
          refine tg_i2l (v := (nI (hg_cn (fun f => (tg_up (tg_up M 11 0 0) 12 (20 * x + y) 0) 12 f ≠ 0) 400)).toInt64) hx hb dL_law_234 rfl ?_
          refine tg_lcmp hx hb dL_law_235 ?_
          refine tg_top (y := nI 0) (by rw [show nI (G 0 - 1) = nI (hg_cn (fun f => (tg_up (tg_up M 11 0 0) 12 (20 * x + y) 0) 12 f ≠ 0) 400) by rw [← hR2.2.2.2.2.2.2.2.2.1, va_up_self], lw_cmp, nI_0]) ?_
          refine tg_if_eq (tgt := 241) hx hb dL_law_236 (by decide) (fun q_18 => ?_) (fun q_18 => ?_)
          · have q_18' := q_18
            rw [← nI_0] at q_18
            have h_19 : 0 = 0 := (nI_eq (by omega) (by omega)).mp q_18
            refine tg_goto (tgt := 571) hx hb dL_law_241 (by decide) ?_
            refine tg_sub (L' := [(0, .ref b), (1, .ref (ad 0 0)), (2, .ref (ad 11 0)), (3, .ref (ad 10 0)), (4, .int (nI (i)))]) (fun z8 hz8 => (List.mem_append_left [(5, .int (nI (0))), (6, .int (nI (hg_cn (fun f => (tg_up (tg_up M 11 0 0) 12 (20 * x + y) 0) 12 f ≠ 0) 400)))] hz8 : z8 ∈ [(0, .ref b), (1, .ref (ad 0 0)), (2, .ref (ad 11 0)), (3, .ref (ad 10 0)), (4, .int (nI (i)))] ++ [(5, .int (nI (0))), (6, .int (nI (hg_cn (fun f => (tg_up (tg_up M 11 0 0) 12 (20 * x + y) 0) 12 f ≠ 0) 400)))])) ?_
            refine tg_widen (k := cells + 2) (n := slots + 35) (by show cells + 0 ≤ cells + 2; omega) (by show slots + 0 ≤ slots + 35; omega) ?_
            exact hn (fun u => T u ∧ u ≠ (20 * x + y)) ad (lw_ko ok (20 * x + y)) (va_up G 0 (G 0 - 1)) (va_up a 0 (hg_cp (a 0) (N 1 (20 * x + y)) (N 2 (20 * x + y)) (N 4 (20 * x + y)) (N 3 (20 * x + y) + 1) (N 2 (20 * x + y)) none)) dr (lw_z N (20 * x + y)) bc sp (tg_up (tg_up M 11 0 0) 12 (20 * x + y) 0) B (va_up f9 0 (nI (G 0 - 1)).toInt64) hO2 hR2 rfl rfl rfl
          · have q_18' := q_18
            rw [← nI_0] at q_18
            have h_20 : 0 ≠ 0 := fun z => q_18 ((nI_eq (by omega) (by omega)).mpr z)
            omega
      · have q_13' := q_13
        have h_21 : 0 ≠ 0 := fun z => q_13 ((nI_eq (by omega) (by omega)).mpr z)
        omega
set_option maxRecDepth 100000 in
set_option maxHeartbeats 8000000 in
/-- speak -/
theorem s_speak {p : Program} {l : Launch} {e : Env} {R : Room} {s : State} {m : MethodId} {args : Array Value} {below : List Frame} {meth : Method} {c : Code} {Q : State → Prop} {D : va_G} {F : Nat → Prop} {cF cI cZ cJ cA cB : ClassId} {ν : Nat → Nat → va_E} {b L9 : Nat} {xs : Nat → Int32} {x0 x1 x2 i cells slots : Nat} (hx : p.tables.exec = Jvm.exec) (hb : c.code = code) (hml : c.maxLocals = 7) (hl9 : l.stackTraces = false) (hown : s.vm.findClass "HangGraphLaw" = some m.cls) (hts : ∀ w ∈ lw_g, w.before args s = true) (hK : va_K D vwCl (hg_tys cI cF cZ cJ cA cB) s) (hN : hg_N F s s.heap) (hX : va_X b L9 xs s s.heap) (hbl : b < s.heap.size) (hbF : ¬ F b) (hL : L9 ≤ 3584) (hi : i + 7 ≤ L9) (hR : R = room_1) (hcs : cells + 2 ≤ 601024 ∧ slots + 35 ≤ 7293034) (hn : lw_N p l e R s m args below meth c Q D F cF cI cZ cJ cA cB ν b x0 x1 x2 i (cells + 2) (slots + 35) 571) : lw_N p l e R s m args below meth c Q D F cF cI cZ cJ cA cB ν b x0 x1 x2 i cells slots 244 := by
  intro T ad ok G a dr N bc sp M B o hO hRR e0 e1 e2
  subst e0
  subst e1
  subst e2
  have hMv := hg_Mv F
  have hBM := hRR.2.2.2.2.2.2.2.2.2.2.1.2.2.1
  have hBN := hRR.2.2.2.2.2.2.2.2.2.2.1.1
  refine tg_aload_n hx hb dL_law_244 rfl rfl ?_
  refine tg_aload_n hx hb dL_law_245 rfl rfl ?_
  refine tg_iload hx hb dL_law_246 rfl ?_
  refine tg_iconst (v := nI 1) hx hb dL_law_248 (by decide +kernel) ?_
  refine tg_iadd hx hb dL_law_249 ?_
  refine tg_top (y := nI ((i) + (1))) (nI_add _ _) ?_
  refine tg_sld hx hb hX hbl hbF (x := (i) + (1)) (by omega) (by omega) dL_law_250 ?_
  refine tg_aload_n hx hb dL_law_251 rfl rfl ?_
  refine tg_iload hx hb dL_law_252 rfl ?_
  refine tg_iconst (v := nI 2) hx hb dL_law_254 (by decide +kernel) ?_
  refine tg_iadd hx hb dL_law_255 ?_
  refine tg_top (y := nI ((i) + (2))) (nI_add _ _) ?_
  refine tg_sld hx hb hX hbl hbF (x := (i) + (2)) (by omega) (by omega) dL_law_256 ?_
  refine tg_aload_n hx hb dL_law_257 rfl rfl ?_
  refine tg_iload hx hb dL_law_258 rfl ?_
  refine tg_iconst (v := nI 3) hx hb dL_law_260 (by decide +kernel) ?_
  refine tg_iadd hx hb dL_law_261 ?_
  refine tg_top (y := nI ((i) + (3))) (nI_add _ _) ?_
  refine tg_sld hx hb hX hbl hbF (x := (i) + (3)) (by omega) (by omega) dL_law_262 ?_
  refine tg_aload_n hx hb dL_law_263 rfl rfl ?_
  refine tg_iload hx hb dL_law_264 rfl ?_
  refine tg_iconst (v := nI 4) hx hb dL_law_266 (by decide +kernel) ?_
  refine tg_iadd hx hb dL_law_267 ?_
  refine tg_top (y := nI ((i) + (4))) (nI_add _ _) ?_
  refine tg_sld hx hb hX hbl hbF (x := (i) + (4)) (by omega) (by omega) dL_law_268 ?_
  refine tg_aload_n hx hb dL_law_269 rfl rfl ?_
  refine tg_iload hx hb dL_law_270 rfl ?_
  refine tg_iconst (v := nI 5) hx hb dL_law_272 (by decide +kernel) ?_
  refine tg_iadd hx hb dL_law_273 ?_
  refine tg_top (y := nI ((i) + (5))) (nI_add _ _) ?_
  refine tg_sld hx hb hX hbl hbF (x := (i) + (5)) (by omega) (by omega) dL_law_274 ?_
  refine tg_aload_n hx hb dL_law_275 rfl rfl ?_
  refine tg_iload hx hb dL_law_276 rfl ?_
  refine tg_bipush (v := nI 6) hx hb dL_law_278 (by decide +kernel) ?_
  refine tg_iadd hx hb dL_law_280 ?_
  refine tg_top (y := nI ((i) + (6))) (nI_add _ _) ?_
  refine tg_sld hx hb hX hbl hbF (x := (i) + (6)) (by omega) (by omega) dL_law_281 ?_
  refine tg_aload_n hx hb dL_law_282 rfl rfl ?_
  by_cases q1 : hg_bC (xs ((i) + (1))) (xs ((i) + (2)))
  · skip
    refine tg_callSX (As := [.ref (ad 0 0), .int (xs ((i) + (1))), .int (xs ((i) + (2))), .int (xs ((i) + (3))), .int (xs ((i) + (4))), .int (xs ((i) + (5))), .int (xs ((i) + (6))), .ref (ad 10 0)]) (rest := []) ⟨hx, hb, hml, hown, hts⟩ hK hN hMv (l_speak1 _ _ _ _ _ _ hO.1 rfl (t_speak1 hl9 _ _ q1 _ _ _ _)) (vx_cwSW 8 hts (lg_SW wm_L_58 wt_L_speak wn_L wgL_speak) rfl rfl rfl ⟨by decide, by decide, rfl⟩ ⟨(by rw [hR]; exact Nat.le_of_ble_eq_true rfl), (by rw [hR]; exact Nat.le_of_ble_eq_true rfl)⟩) rfl (Nat.le_of_ble_eq_true rfl) ⟨by rw [hR]; show cells + 1 ≤ 601024; omega, by rw [hR]; show slots + 6 ≤ 7293034; omega⟩ rfl dL_law_283 ?_
    intro r9 ad9 ok9 w9 ⟨ha9, hok9, hr9, hw9⟩
    subst hr9
    rw [ha9, hok9, hw9]
    refine tg_st (st' := [.int (nI 1)]) rfl ?_
    refine tg_istore (L' := [(0, .ref b), (1, .ref (ad 0 0)), (2, .ref (ad 11 0)), (3, .ref (ad 10 0)), (4, .int (nI (i))), (5, .int (nI (1)))]) hx hb dL_law_286 (by decide) rfl rfl ?_
    refine tg_aload_n hx hb dL_law_288 rfl rfl ?_
    refine tg_aload_n hx hb dL_law_289 rfl rfl ?_
    refine tg_iload hx hb dL_law_290 rfl ?_
    refine tg_iconst (v := nI 1) hx hb dL_law_292 (by decide +kernel) ?_
    refine tg_iadd hx hb dL_law_293 ?_
    refine tg_top (y := nI ((i) + (1))) (nI_add _ _) ?_
    refine tg_sld hx hb hX hbl hbF (x := (i) + (1)) (by omega) (by omega) dL_law_294 ?_
    refine tg_aload_n hx hb dL_law_295 rfl rfl ?_
    refine tg_iload hx hb dL_law_296 rfl ?_
    refine tg_iconst (v := nI 2) hx hb dL_law_298 (by decide +kernel) ?_
    refine tg_iadd hx hb dL_law_299 ?_
    refine tg_top (y := nI ((i) + (2))) (nI_add _ _) ?_
    refine tg_sld hx hb hX hbl hbF (x := (i) + (2)) (by omega) (by omega) dL_law_300 ?_
    refine tg_aload_n hx hb dL_law_301 rfl rfl ?_
    refine tg_iload hx hb dL_law_302 rfl ?_
    refine tg_iconst (v := nI 3) hx hb dL_law_304 (by decide +kernel) ?_
    refine tg_iadd hx hb dL_law_305 ?_
    refine tg_top (y := nI ((i) + (3))) (nI_add _ _) ?_
    refine tg_sld hx hb hX hbl hbF (x := (i) + (3)) (by omega) (by omega) dL_law_306 ?_
    refine tg_aload_n hx hb dL_law_307 rfl rfl ?_
    refine tg_iload hx hb dL_law_308 rfl ?_
    refine tg_iconst (v := nI 4) hx hb dL_law_310 (by decide +kernel) ?_
    refine tg_iadd hx hb dL_law_311 ?_
    refine tg_top (y := nI ((i) + (4))) (nI_add _ _) ?_
    refine tg_sld hx hb hX hbl hbF (x := (i) + (4)) (by omega) (by omega) dL_law_312 ?_
    refine tg_aload_n hx hb dL_law_313 rfl rfl ?_
    refine tg_iload hx hb dL_law_314 rfl ?_
    refine tg_iconst (v := nI 5) hx hb dL_law_316 (by decide +kernel) ?_
    refine tg_iadd hx hb dL_law_317 ?_
    refine tg_top (y := nI ((i) + (5))) (nI_add _ _) ?_
    refine tg_sld hx hb hX hbl hbF (x := (i) + (5)) (by omega) (by omega) dL_law_318 ?_
    refine tg_aload_n hx hb dL_law_319 rfl rfl ?_
    refine tg_iload hx hb dL_law_320 rfl ?_
    refine tg_bipush (v := nI 6) hx hb dL_law_322 (by decide +kernel) ?_
    refine tg_iadd hx hb dL_law_324 ?_
    refine tg_top (y := nI ((i) + (6))) (nI_add _ _) ?_
    refine tg_sld hx hb hX hbl hbF (x := (i) + (6)) (by omega) (by omega) dL_law_325 ?_
    refine tg_w lw_sw ?_
    refine tg_callV (C := "HangGraphModel") (k := 11) (i := 0) (As := [.int (xs ((i) + (1))), .int (xs ((i) + (2))), .int (xs ((i) + (3))), .int (xs ((i) + (4))), .int (xs ((i) + (5))), .int (xs ((i) + (6)))]) (rest := []) ⟨hx, hb, hml, hown, hts⟩ hK hN hMv (hO.2.1.1 11 (by decide) (by decide) (by decide) (by decide)) rfl rfl rfl (c_mSpeak1 hO.2.1 hMv _ _ _ _ _ _ (Or.inl (lw_c1 q1 _ _))) (cwV 6 hts (lg_V wm_L_61 wi_M_speak we_M_speak wn_M wc_M_speak) rfl rfl rfl ⟨rfl, by decide, by decide, rfl⟩ ⟨(by rw [hR]; exact Nat.le_of_ble_eq_true rfl), (by rw [hR]; exact Nat.le_of_ble_eq_true rfl)⟩) rfl (Nat.le_of_ble_eq_true rfl) ⟨by rw [hR]; show cells + 1 + 0 ≤ 601024; omega, by rw [hR]; show slots + 6 + 0 ≤ 7293034; omega⟩ rfl dL_law_326 (tg_kv rfl rfl ?_)
    refine tg_w lw_sw.symm ?_
    refine tg_istore (L' := [(0, .ref b), (1, .ref (ad 0 0)), (2, .ref (ad 11 0)), (3, .ref (ad 10 0)), (4, .int (nI (i))), (5, .int (nI (1))), (6, .int (nI (0)))]) hx hb dL_law_329 (by decide) rfl rfl ?_
    refine tg_aload_n hx hb dL_law_331 rfl rfl ?_
    refine tg_w lw_sw ?_
    refine tg_callV (C := "HangGraphModel") (k := 11) (i := 0) (As := []) (rest := []) ⟨hx, hb, hml, hown, hts⟩ hK hN hMv (hO.2.1.1 11 (by decide) (by decide) (by decide) (by decide)) rfl rfl rfl (c_mThrown hO.2.1) (cwV 0 hts (lg_V wm_L_50 wi_M_thrown we_M_thrown wn_M wc_M_thrown) rfl rfl rfl ⟨rfl, by decide, by decide, rfl⟩ ⟨(by rw [hR]; exact Nat.le_of_ble_eq_true rfl), (by rw [hR]; exact Nat.le_of_ble_eq_true rfl)⟩) rfl (Nat.le_of_ble_eq_true rfl) ⟨by rw [hR]; show cells + 1 + 0 ≤ 601024; omega, by rw [hR]; show slots + 6 + 0 ≤ 7293034; omega⟩ rfl dL_law_332 (tg_kv rfl rfl ?_)
    refine tg_w lw_sw.symm ?_
    refine tg_top (y := nI 1) (by rw [tg_up_self]) ?_
    refine tg_iload hx hb dL_law_335 rfl ?_
    refine tg_icmp_eq (tgt := 342) hx hb dL_law_337 (by decide) (fun q_1 => ?_) (fun q_1 => ?_)
    · have q_1' := q_1
      have h_2 : 1 = 1 := (nI_eq (by omega) (by omega)).mp q_1
      refine tg_iload hx hb dL_law_342 rfl ?_
      refine tg_if_ne (tgt := 359) hx hb dL_law_344 (by decide) (fun q_3 => ?_) (fun q_3 => ?_)
      · have q_3' := q_3
        rw [← nI_0] at q_3
        have h_4 : 1 ≠ 0 := fun z => q_3 ((nI_eq (by omega) (by omega)).mpr z)
        refine tg_goto (tgt := 571) hx hb dL_law_359 (by decide) ?_
        refine tg_sub (L' := [(0, .ref b), (1, .ref (ad 0 0)), (2, .ref (ad 11 0)), (3, .ref (ad 10 0)), (4, .int (nI (i)))]) (fun z8 hz8 => (List.mem_append_left [(5, .int (nI (1))), (6, .int (nI (0)))] hz8 : z8 ∈ [(0, .ref b), (1, .ref (ad 0 0)), (2, .ref (ad 11 0)), (3, .ref (ad 10 0)), (4, .int (nI (i)))] ++ [(5, .int (nI (1))), (6, .int (nI (0)))])) ?_
        refine tg_widen (k := cells + 2) (n := slots + 35) (by show cells + 1 ≤ cells + 2; omega) (by show slots + 6 ≤ slots + 35; omega) ?_
        exact hn T ad ok G a dr N bc sp (tg_up (tg_up M 11 0 0) 11 0 1) B o hO (hRR.m0 (M' := (tg_up (tg_up M 11 0 0) 11 0 1)) (fun j hj => by rw [mo_col _ _ _ hj, mo_col _ _ _ hj]) (mo_b0 (mo_b0 hBM (by decide)) (by decide))) rfl rfl rfl
      · have q_3' := q_3
        rw [← nI_0] at q_3
        have h_5 : 1 = 0 := (nI_eq (by omega) (by omega)).mp q_3
        omega
    · have q_1' := q_1
      have h_6 : 1 ≠ 1 := fun z => q_1 ((nI_eq (by omega) (by omega)).mpr z)
      omega
  · obtain ⟨x, y, hx9, hy9, ex, ey⟩ := lw_c0 q1
    by_cases q2 : hg_bS (xs ((i) + (3))) (xs ((i) + (5)))
    · skip
      rw [ey, ex]
      refine tg_callSX (As := [.ref (ad 0 0), .int (nI x), .int (nI y), .int (xs ((i) + (3))), .int (xs ((i) + (4))), .int (xs ((i) + (5))), .int (xs ((i) + (6))), .ref (ad 10 0)]) (rest := []) ⟨hx, hb, hml, hown, hts⟩ hK hN hMv (l_speak1 _ _ _ _ _ _ hO.1 rfl (t_speak2 hl9 x y hx9 hy9 _ _ q2 _ _)) (vx_cwSW 8 hts (lg_SW wm_L_58 wt_L_speak wn_L wgL_speak) rfl rfl rfl ⟨by decide, by decide, rfl⟩ ⟨(by rw [hR]; exact Nat.le_of_ble_eq_true rfl), (by rw [hR]; exact Nat.le_of_ble_eq_true rfl)⟩) rfl (Nat.le_of_ble_eq_true rfl) ⟨by rw [hR]; show cells + 1 ≤ 601024; omega, by rw [hR]; show slots + 6 ≤ 7293034; omega⟩ rfl dL_law_283 ?_
      intro r9 ad9 ok9 w9 ⟨ha9, hok9, hr9, hw9⟩
      subst hr9
      rw [ha9, hok9, hw9]
      refine tg_st (st' := [.int (nI 1)]) rfl ?_
      refine tg_istore (L' := [(0, .ref b), (1, .ref (ad 0 0)), (2, .ref (ad 11 0)), (3, .ref (ad 10 0)), (4, .int (nI (i))), (5, .int (nI (1)))]) hx hb dL_law_286 (by decide) rfl rfl ?_
      refine tg_aload_n hx hb dL_law_288 rfl rfl ?_
      refine tg_aload_n hx hb dL_law_289 rfl rfl ?_
      refine tg_iload hx hb dL_law_290 rfl ?_
      refine tg_iconst (v := nI 1) hx hb dL_law_292 (by decide +kernel) ?_
      refine tg_iadd hx hb dL_law_293 ?_
      refine tg_top (y := nI ((i) + (1))) (nI_add _ _) ?_
      refine tg_sld hx hb hX hbl hbF (x := (i) + (1)) (by omega) (by omega) dL_law_294 ?_
      refine tg_aload_n hx hb dL_law_295 rfl rfl ?_
      refine tg_iload hx hb dL_law_296 rfl ?_
      refine tg_iconst (v := nI 2) hx hb dL_law_298 (by decide +kernel) ?_
      refine tg_iadd hx hb dL_law_299 ?_
      refine tg_top (y := nI ((i) + (2))) (nI_add _ _) ?_
      refine tg_sld hx hb hX hbl hbF (x := (i) + (2)) (by omega) (by omega) dL_law_300 ?_
      refine tg_aload_n hx hb dL_law_301 rfl rfl ?_
      refine tg_iload hx hb dL_law_302 rfl ?_
      refine tg_iconst (v := nI 3) hx hb dL_law_304 (by decide +kernel) ?_
      refine tg_iadd hx hb dL_law_305 ?_
      refine tg_top (y := nI ((i) + (3))) (nI_add _ _) ?_
      refine tg_sld hx hb hX hbl hbF (x := (i) + (3)) (by omega) (by omega) dL_law_306 ?_
      refine tg_aload_n hx hb dL_law_307 rfl rfl ?_
      refine tg_iload hx hb dL_law_308 rfl ?_
      refine tg_iconst (v := nI 4) hx hb dL_law_310 (by decide +kernel) ?_
      refine tg_iadd hx hb dL_law_311 ?_
      refine tg_top (y := nI ((i) + (4))) (nI_add _ _) ?_
      refine tg_sld hx hb hX hbl hbF (x := (i) + (4)) (by omega) (by omega) dL_law_312 ?_
      refine tg_aload_n hx hb dL_law_313 rfl rfl ?_
      refine tg_iload hx hb dL_law_314 rfl ?_
      refine tg_iconst (v := nI 5) hx hb dL_law_316 (by decide +kernel) ?_
      refine tg_iadd hx hb dL_law_317 ?_
      refine tg_top (y := nI ((i) + (5))) (nI_add _ _) ?_
      refine tg_sld hx hb hX hbl hbF (x := (i) + (5)) (by omega) (by omega) dL_law_318 ?_
      refine tg_aload_n hx hb dL_law_319 rfl rfl ?_
      refine tg_iload hx hb dL_law_320 rfl ?_
      refine tg_bipush (v := nI 6) hx hb dL_law_322 (by decide +kernel) ?_
      refine tg_iadd hx hb dL_law_324 ?_
      refine tg_top (y := nI ((i) + (6))) (nI_add _ _) ?_
      refine tg_sld hx hb hX hbl hbF (x := (i) + (6)) (by omega) (by omega) dL_law_325 ?_
      rw [ey, ex]
      refine tg_w lw_sw ?_
      refine tg_callV (C := "HangGraphModel") (k := 11) (i := 0) (As := [.int (nI x), .int (nI y), .int (xs ((i) + (3))), .int (xs ((i) + (4))), .int (xs ((i) + (5))), .int (xs ((i) + (6)))]) (rest := []) ⟨hx, hb, hml, hown, hts⟩ hK hN hMv (hO.2.1.1 11 (by decide) (by decide) (by decide) (by decide)) rfl rfl rfl (c_mSpeak1 hO.2.1 hMv _ _ _ _ _ _ (Or.inr (lw_s1 q2))) (cwV 6 hts (lg_V wm_L_61 wi_M_speak we_M_speak wn_M wc_M_speak) rfl rfl rfl ⟨rfl, by decide, by decide, rfl⟩ ⟨(by rw [hR]; exact Nat.le_of_ble_eq_true rfl), (by rw [hR]; exact Nat.le_of_ble_eq_true rfl)⟩) rfl (Nat.le_of_ble_eq_true rfl) ⟨by rw [hR]; show cells + 1 + 0 ≤ 601024; omega, by rw [hR]; show slots + 6 + 0 ≤ 7293034; omega⟩ rfl dL_law_326 (tg_kv rfl rfl ?_)
      refine tg_w lw_sw.symm ?_
      refine tg_istore (L' := [(0, .ref b), (1, .ref (ad 0 0)), (2, .ref (ad 11 0)), (3, .ref (ad 10 0)), (4, .int (nI (i))), (5, .int (nI (1))), (6, .int (nI (0)))]) hx hb dL_law_329 (by decide) rfl rfl ?_
      refine tg_aload_n hx hb dL_law_331 rfl rfl ?_
      refine tg_w lw_sw ?_
      refine tg_callV (C := "HangGraphModel") (k := 11) (i := 0) (As := []) (rest := []) ⟨hx, hb, hml, hown, hts⟩ hK hN hMv (hO.2.1.1 11 (by decide) (by decide) (by decide) (by decide)) rfl rfl rfl (c_mThrown hO.2.1) (cwV 0 hts (lg_V wm_L_50 wi_M_thrown we_M_thrown wn_M wc_M_thrown) rfl rfl rfl ⟨rfl, by decide, by decide, rfl⟩ ⟨(by rw [hR]; exact Nat.le_of_ble_eq_true rfl), (by rw [hR]; exact Nat.le_of_ble_eq_true rfl)⟩) rfl (Nat.le_of_ble_eq_true rfl) ⟨by rw [hR]; show cells + 1 + 0 ≤ 601024; omega, by rw [hR]; show slots + 6 + 0 ≤ 7293034; omega⟩ rfl dL_law_332 (tg_kv rfl rfl ?_)
      refine tg_w lw_sw.symm ?_
      refine tg_top (y := nI 1) (by rw [tg_up_self]) ?_
      refine tg_iload hx hb dL_law_335 rfl ?_
      refine tg_icmp_eq (tgt := 342) hx hb dL_law_337 (by decide) (fun q_7 => ?_) (fun q_7 => ?_)
      · have q_7' := q_7
        have h_8 : 1 = 1 := (nI_eq (by omega) (by omega)).mp q_7
        refine tg_iload hx hb dL_law_342 rfl ?_
        refine tg_if_ne (tgt := 359) hx hb dL_law_344 (by decide) (fun q_9 => ?_) (fun q_9 => ?_)
        · have q_9' := q_9
          rw [← nI_0] at q_9
          have h_10 : 1 ≠ 0 := fun z => q_9 ((nI_eq (by omega) (by omega)).mpr z)
          refine tg_goto (tgt := 571) hx hb dL_law_359 (by decide) ?_
          refine tg_sub (L' := [(0, .ref b), (1, .ref (ad 0 0)), (2, .ref (ad 11 0)), (3, .ref (ad 10 0)), (4, .int (nI (i)))]) (fun z8 hz8 => (List.mem_append_left [(5, .int (nI (1))), (6, .int (nI (0)))] hz8 : z8 ∈ [(0, .ref b), (1, .ref (ad 0 0)), (2, .ref (ad 11 0)), (3, .ref (ad 10 0)), (4, .int (nI (i)))] ++ [(5, .int (nI (1))), (6, .int (nI (0)))])) ?_
          refine tg_widen (k := cells + 2) (n := slots + 35) (by show cells + 1 ≤ cells + 2; omega) (by show slots + 6 ≤ slots + 35; omega) ?_
          exact hn T ad ok G a dr N bc sp (tg_up (tg_up M 11 0 0) 11 0 1) B o hO (hRR.m0 (M' := (tg_up (tg_up M 11 0 0) 11 0 1)) (fun j hj => by rw [mo_col _ _ _ hj, mo_col _ _ _ hj]) (mo_b0 (mo_b0 hBM (by decide)) (by decide))) rfl rfl rfl
        · have q_9' := q_9
          rw [← nI_0] at q_9
          have h_11 : 1 = 0 := (nI_eq (by omega) (by omega)).mp q_9
          omega
      · have q_7' := q_7
        have h_12 : 1 ≠ 1 := fun z => q_7 ((nI_eq (by omega) (by omega)).mpr z)
        omega
    · obtain ⟨t0, b0, ht0, hb0, et, eb⟩ := lw_s0 q2
      by_cases q3 : hg_bS (xs ((i) + (4))) (xs ((i) + (6)))
      · skip
        rw [eb, et, ey, ex]
        refine tg_callSX (As := [.ref (ad 0 0), .int (nI x), .int (nI y), .int (nI t0), .int (xs ((i) + (4))), .int (nI b0), .int (xs ((i) + (6))), .ref (ad 10 0)]) (rest := []) ⟨hx, hb, hml, hown, hts⟩ hK hN hMv (l_speak1 _ _ _ _ _ _ hO.1 rfl (t_speak3 hl9 x y hx9 hy9 t0 b0 ht0 hb0 _ _ q3)) (vx_cwSW 8 hts (lg_SW wm_L_58 wt_L_speak wn_L wgL_speak) rfl rfl rfl ⟨by decide, by decide, rfl⟩ ⟨(by rw [hR]; exact Nat.le_of_ble_eq_true rfl), (by rw [hR]; exact Nat.le_of_ble_eq_true rfl)⟩) rfl (Nat.le_of_ble_eq_true rfl) ⟨by rw [hR]; show cells + 1 ≤ 601024; omega, by rw [hR]; show slots + 6 ≤ 7293034; omega⟩ rfl dL_law_283 ?_
        intro r9 ad9 ok9 w9 ⟨ha9, hok9, hr9, hw9⟩
        subst hr9
        rw [ha9, hok9, hw9]
        refine tg_st (st' := [.int (nI 1)]) rfl ?_
        refine tg_istore (L' := [(0, .ref b), (1, .ref (ad 0 0)), (2, .ref (ad 11 0)), (3, .ref (ad 10 0)), (4, .int (nI (i))), (5, .int (nI (1)))]) hx hb dL_law_286 (by decide) rfl rfl ?_
        refine tg_aload_n hx hb dL_law_288 rfl rfl ?_
        refine tg_aload_n hx hb dL_law_289 rfl rfl ?_
        refine tg_iload hx hb dL_law_290 rfl ?_
        refine tg_iconst (v := nI 1) hx hb dL_law_292 (by decide +kernel) ?_
        refine tg_iadd hx hb dL_law_293 ?_
        refine tg_top (y := nI ((i) + (1))) (nI_add _ _) ?_
        refine tg_sld hx hb hX hbl hbF (x := (i) + (1)) (by omega) (by omega) dL_law_294 ?_
        refine tg_aload_n hx hb dL_law_295 rfl rfl ?_
        refine tg_iload hx hb dL_law_296 rfl ?_
        refine tg_iconst (v := nI 2) hx hb dL_law_298 (by decide +kernel) ?_
        refine tg_iadd hx hb dL_law_299 ?_
        refine tg_top (y := nI ((i) + (2))) (nI_add _ _) ?_
        refine tg_sld hx hb hX hbl hbF (x := (i) + (2)) (by omega) (by omega) dL_law_300 ?_
        refine tg_aload_n hx hb dL_law_301 rfl rfl ?_
        refine tg_iload hx hb dL_law_302 rfl ?_
        refine tg_iconst (v := nI 3) hx hb dL_law_304 (by decide +kernel) ?_
        refine tg_iadd hx hb dL_law_305 ?_
        refine tg_top (y := nI ((i) + (3))) (nI_add _ _) ?_
        refine tg_sld hx hb hX hbl hbF (x := (i) + (3)) (by omega) (by omega) dL_law_306 ?_
        refine tg_aload_n hx hb dL_law_307 rfl rfl ?_
        refine tg_iload hx hb dL_law_308 rfl ?_
        refine tg_iconst (v := nI 4) hx hb dL_law_310 (by decide +kernel) ?_
        refine tg_iadd hx hb dL_law_311 ?_
        refine tg_top (y := nI ((i) + (4))) (nI_add _ _) ?_
        refine tg_sld hx hb hX hbl hbF (x := (i) + (4)) (by omega) (by omega) dL_law_312 ?_
        refine tg_aload_n hx hb dL_law_313 rfl rfl ?_
        refine tg_iload hx hb dL_law_314 rfl ?_
        refine tg_iconst (v := nI 5) hx hb dL_law_316 (by decide +kernel) ?_
        refine tg_iadd hx hb dL_law_317 ?_
        refine tg_top (y := nI ((i) + (5))) (nI_add _ _) ?_
        refine tg_sld hx hb hX hbl hbF (x := (i) + (5)) (by omega) (by omega) dL_law_318 ?_
        refine tg_aload_n hx hb dL_law_319 rfl rfl ?_
        refine tg_iload hx hb dL_law_320 rfl ?_
        refine tg_bipush (v := nI 6) hx hb dL_law_322 (by decide +kernel) ?_
        refine tg_iadd hx hb dL_law_324 ?_
        refine tg_top (y := nI ((i) + (6))) (nI_add _ _) ?_
        refine tg_sld hx hb hX hbl hbF (x := (i) + (6)) (by omega) (by omega) dL_law_325 ?_
        rw [eb, et, ey, ex]
        refine tg_w lw_sw ?_
        refine tg_callV (C := "HangGraphModel") (k := 11) (i := 0) (As := [.int (nI x), .int (nI y), .int (nI t0), .int (xs ((i) + (4))), .int (nI b0), .int (xs ((i) + (6)))]) (rest := []) ⟨hx, hb, hml, hown, hts⟩ hK hN hMv (hO.2.1.1 11 (by decide) (by decide) (by decide) (by decide)) rfl rfl rfl (c_mSpeak1 hO.2.1 hMv _ _ _ _ _ _ (Or.inr (lw_s2 q3))) (cwV 6 hts (lg_V wm_L_61 wi_M_speak we_M_speak wn_M wc_M_speak) rfl rfl rfl ⟨rfl, by decide, by decide, rfl⟩ ⟨(by rw [hR]; exact Nat.le_of_ble_eq_true rfl), (by rw [hR]; exact Nat.le_of_ble_eq_true rfl)⟩) rfl (Nat.le_of_ble_eq_true rfl) ⟨by rw [hR]; show cells + 1 + 0 ≤ 601024; omega, by rw [hR]; show slots + 6 + 0 ≤ 7293034; omega⟩ rfl dL_law_326 (tg_kv rfl rfl ?_)
        refine tg_w lw_sw.symm ?_
        refine tg_istore (L' := [(0, .ref b), (1, .ref (ad 0 0)), (2, .ref (ad 11 0)), (3, .ref (ad 10 0)), (4, .int (nI (i))), (5, .int (nI (1))), (6, .int (nI (0)))]) hx hb dL_law_329 (by decide) rfl rfl ?_
        refine tg_aload_n hx hb dL_law_331 rfl rfl ?_
        refine tg_w lw_sw ?_
        refine tg_callV (C := "HangGraphModel") (k := 11) (i := 0) (As := []) (rest := []) ⟨hx, hb, hml, hown, hts⟩ hK hN hMv (hO.2.1.1 11 (by decide) (by decide) (by decide) (by decide)) rfl rfl rfl (c_mThrown hO.2.1) (cwV 0 hts (lg_V wm_L_50 wi_M_thrown we_M_thrown wn_M wc_M_thrown) rfl rfl rfl ⟨rfl, by decide, by decide, rfl⟩ ⟨(by rw [hR]; exact Nat.le_of_ble_eq_true rfl), (by rw [hR]; exact Nat.le_of_ble_eq_true rfl)⟩) rfl (Nat.le_of_ble_eq_true rfl) ⟨by rw [hR]; show cells + 1 + 0 ≤ 601024; omega, by rw [hR]; show slots + 6 + 0 ≤ 7293034; omega⟩ rfl dL_law_332 (tg_kv rfl rfl ?_)
        refine tg_w lw_sw.symm ?_
        refine tg_top (y := nI 1) (by rw [tg_up_self]) ?_
        refine tg_iload hx hb dL_law_335 rfl ?_
        refine tg_icmp_eq (tgt := 342) hx hb dL_law_337 (by decide) (fun q_13 => ?_) (fun q_13 => ?_)
        · have q_13' := q_13
          have h_14 : 1 = 1 := (nI_eq (by omega) (by omega)).mp q_13
          refine tg_iload hx hb dL_law_342 rfl ?_
          refine tg_if_ne (tgt := 359) hx hb dL_law_344 (by decide) (fun q_15 => ?_) (fun q_15 => ?_)
          · have q_15' := q_15
            rw [← nI_0] at q_15
            have h_16 : 1 ≠ 0 := fun z => q_15 ((nI_eq (by omega) (by omega)).mpr z)
            refine tg_goto (tgt := 571) hx hb dL_law_359 (by decide) ?_
            refine tg_sub (L' := [(0, .ref b), (1, .ref (ad 0 0)), (2, .ref (ad 11 0)), (3, .ref (ad 10 0)), (4, .int (nI (i)))]) (fun z8 hz8 => (List.mem_append_left [(5, .int (nI (1))), (6, .int (nI (0)))] hz8 : z8 ∈ [(0, .ref b), (1, .ref (ad 0 0)), (2, .ref (ad 11 0)), (3, .ref (ad 10 0)), (4, .int (nI (i)))] ++ [(5, .int (nI (1))), (6, .int (nI (0)))])) ?_
            refine tg_widen (k := cells + 2) (n := slots + 35) (by show cells + 1 ≤ cells + 2; omega) (by show slots + 6 ≤ slots + 35; omega) ?_
            exact hn T ad ok G a dr N bc sp (tg_up (tg_up M 11 0 0) 11 0 1) B o hO (hRR.m0 (M' := (tg_up (tg_up M 11 0 0) 11 0 1)) (fun j hj => by rw [mo_col _ _ _ hj, mo_col _ _ _ hj]) (mo_b0 (mo_b0 hBM (by decide)) (by decide))) rfl rfl rfl
          · have q_15' := q_15
            rw [← nI_0] at q_15
            have h_17 : 1 = 0 := (nI_eq (by omega) (by omega)).mp q_15
            omega
        · have q_13' := q_13
          have h_18 : 1 ≠ 1 := fun z => q_13 ((nI_eq (by omega) (by omega)).mpr z)
          omega
      · obtain ⟨l0, r0, hl0, hr0, el, er⟩ := lw_s0 q3
        by_cases q4 : M 12 (20 * x + y) = 0
        · skip
          rw [er, eb, el, et, ey, ex]
          refine tg_callSX (As := [.ref (ad 0 0), .int (nI x), .int (nI y), .int (nI t0), .int (nI l0), .int (nI b0), .int (nI r0), .ref (ad 10 0)]) (rest := []) ⟨hx, hb, hml, hown, hts⟩ hK hN hMv (l_speak2 _ _ _ _ _ _ hO.1 rfl (t_speak4 hl9 hO.1 hO.2.2.1 hBN x y hx9 hy9 (hRR.un (by omega) q4) t0 l0 b0 r0 ht0 hb0 hl0 hr0)) (vx_cwSW 8 hts (lg_SW wm_L_58 wt_L_speak wn_L wgL_speak) rfl rfl rfl ⟨by decide, by decide, rfl⟩ ⟨(by rw [hR]; exact Nat.le_of_ble_eq_true rfl), (by rw [hR]; exact Nat.le_of_ble_eq_true rfl)⟩) rfl (Nat.le_of_ble_eq_true rfl) ⟨by rw [hR]; show cells + 1 ≤ 601024; omega, by rw [hR]; show slots + 6 ≤ 7293034; omega⟩ rfl dL_law_283 ?_
          intro r9 ad9 ok9 w9 ⟨ha9, hok9, hr9, hw9⟩
          subst hr9
          rw [ha9, hok9, hw9]
          refine tg_st (st' := [.int (nI 2)]) rfl ?_
          refine tg_istore (L' := [(0, .ref b), (1, .ref (ad 0 0)), (2, .ref (ad 11 0)), (3, .ref (ad 10 0)), (4, .int (nI (i))), (5, .int (nI (2)))]) hx hb dL_law_286 (by decide) rfl rfl ?_
          refine tg_aload_n hx hb dL_law_288 rfl rfl ?_
          refine tg_aload_n hx hb dL_law_289 rfl rfl ?_
          refine tg_iload hx hb dL_law_290 rfl ?_
          refine tg_iconst (v := nI 1) hx hb dL_law_292 (by decide +kernel) ?_
          refine tg_iadd hx hb dL_law_293 ?_
          refine tg_top (y := nI ((i) + (1))) (nI_add _ _) ?_
          refine tg_sld hx hb hX hbl hbF (x := (i) + (1)) (by omega) (by omega) dL_law_294 ?_
          refine tg_aload_n hx hb dL_law_295 rfl rfl ?_
          refine tg_iload hx hb dL_law_296 rfl ?_
          refine tg_iconst (v := nI 2) hx hb dL_law_298 (by decide +kernel) ?_
          refine tg_iadd hx hb dL_law_299 ?_
          refine tg_top (y := nI ((i) + (2))) (nI_add _ _) ?_
          refine tg_sld hx hb hX hbl hbF (x := (i) + (2)) (by omega) (by omega) dL_law_300 ?_
          refine tg_aload_n hx hb dL_law_301 rfl rfl ?_
          refine tg_iload hx hb dL_law_302 rfl ?_
          refine tg_iconst (v := nI 3) hx hb dL_law_304 (by decide +kernel) ?_
          refine tg_iadd hx hb dL_law_305 ?_
          refine tg_top (y := nI ((i) + (3))) (nI_add _ _) ?_
          refine tg_sld hx hb hX hbl hbF (x := (i) + (3)) (by omega) (by omega) dL_law_306 ?_
          refine tg_aload_n hx hb dL_law_307 rfl rfl ?_
          refine tg_iload hx hb dL_law_308 rfl ?_
          refine tg_iconst (v := nI 4) hx hb dL_law_310 (by decide +kernel) ?_
          refine tg_iadd hx hb dL_law_311 ?_
          refine tg_top (y := nI ((i) + (4))) (nI_add _ _) ?_
          refine tg_sld hx hb hX hbl hbF (x := (i) + (4)) (by omega) (by omega) dL_law_312 ?_
          refine tg_aload_n hx hb dL_law_313 rfl rfl ?_
          refine tg_iload hx hb dL_law_314 rfl ?_
          refine tg_iconst (v := nI 5) hx hb dL_law_316 (by decide +kernel) ?_
          refine tg_iadd hx hb dL_law_317 ?_
          refine tg_top (y := nI ((i) + (5))) (nI_add _ _) ?_
          refine tg_sld hx hb hX hbl hbF (x := (i) + (5)) (by omega) (by omega) dL_law_318 ?_
          refine tg_aload_n hx hb dL_law_319 rfl rfl ?_
          refine tg_iload hx hb dL_law_320 rfl ?_
          refine tg_bipush (v := nI 6) hx hb dL_law_322 (by decide +kernel) ?_
          refine tg_iadd hx hb dL_law_324 ?_
          refine tg_top (y := nI ((i) + (6))) (nI_add _ _) ?_
          refine tg_sld hx hb hX hbl hbF (x := (i) + (6)) (by omega) (by omega) dL_law_325 ?_
          rw [er, eb, el, et, ey, ex]
          refine tg_w lw_sw ?_
          refine tg_callV (C := "HangGraphModel") (k := 11) (i := 0) (As := [.int (nI x), .int (nI y), .int (nI t0), .int (nI l0), .int (nI b0), .int (nI r0)]) (rest := []) ⟨hx, hb, hml, hown, hts⟩ hK hN hMv (hO.2.1.1 11 (by decide) (by decide) (by decide) (by decide)) rfl rfl rfl (c_mSpeak2 hO.2.1 hMv hBM x y hx9 hy9 t0 l0 b0 r0 ht0 hb0 hl0 hr0 q4) (cwV 6 hts (lg_V wm_L_61 wi_M_speak we_M_speak wn_M wc_M_speak) rfl rfl rfl ⟨rfl, by decide, by decide, rfl⟩ ⟨(by rw [hR]; exact Nat.le_of_ble_eq_true rfl), (by rw [hR]; exact Nat.le_of_ble_eq_true rfl)⟩) rfl (Nat.le_of_ble_eq_true rfl) ⟨by rw [hR]; show cells + 1 + 0 ≤ 601024; omega, by rw [hR]; show slots + 6 + 0 ≤ 7293034; omega⟩ rfl dL_law_326 (tg_kv rfl rfl ?_)
          refine tg_w lw_sw.symm ?_
          refine tg_istore (L' := [(0, .ref b), (1, .ref (ad 0 0)), (2, .ref (ad 11 0)), (3, .ref (ad 10 0)), (4, .int (nI (i))), (5, .int (nI (2))), (6, .int (nI (0)))]) hx hb dL_law_329 (by decide) rfl rfl ?_
          refine tg_aload_n hx hb dL_law_331 rfl rfl ?_
          refine tg_w lw_sw ?_
          refine tg_callV (C := "HangGraphModel") (k := 11) (i := 0) (As := []) (rest := []) ⟨hx, hb, hml, hown, hts⟩ hK hN hMv (hO.2.1.1 11 (by decide) (by decide) (by decide) (by decide)) rfl rfl rfl (c_mThrown hO.2.1) (cwV 0 hts (lg_V wm_L_50 wi_M_thrown we_M_thrown wn_M wc_M_thrown) rfl rfl rfl ⟨rfl, by decide, by decide, rfl⟩ ⟨(by rw [hR]; exact Nat.le_of_ble_eq_true rfl), (by rw [hR]; exact Nat.le_of_ble_eq_true rfl)⟩) rfl (Nat.le_of_ble_eq_true rfl) ⟨by rw [hR]; show cells + 1 + 0 ≤ 601024; omega, by rw [hR]; show slots + 6 + 0 ≤ 7293034; omega⟩ rfl dL_law_332 (tg_kv rfl rfl ?_)
          refine tg_w lw_sw.symm ?_
          refine tg_top (y := nI 2) (by rw [tg_up_self]) ?_
          refine tg_iload hx hb dL_law_335 rfl ?_
          refine tg_icmp_eq (tgt := 342) hx hb dL_law_337 (by decide) (fun q_19 => ?_) (fun q_19 => ?_)
          · have q_19' := q_19
            have h_20 : 2 = 2 := (nI_eq (by omega) (by omega)).mp q_19
            refine tg_iload hx hb dL_law_342 rfl ?_
            refine tg_if_ne (tgt := 359) hx hb dL_law_344 (by decide) (fun q_21 => ?_) (fun q_21 => ?_)
            · have q_21' := q_21
              rw [← nI_0] at q_21
              have h_22 : 2 ≠ 0 := fun z => q_21 ((nI_eq (by omega) (by omega)).mpr z)
              refine tg_goto (tgt := 571) hx hb dL_law_359 (by decide) ?_
              refine tg_sub (L' := [(0, .ref b), (1, .ref (ad 0 0)), (2, .ref (ad 11 0)), (3, .ref (ad 10 0)), (4, .int (nI (i)))]) (fun z8 hz8 => (List.mem_append_left [(5, .int (nI (2))), (6, .int (nI (0)))] hz8 : z8 ∈ [(0, .ref b), (1, .ref (ad 0 0)), (2, .ref (ad 11 0)), (3, .ref (ad 10 0)), (4, .int (nI (i)))] ++ [(5, .int (nI (2))), (6, .int (nI (0)))])) ?_
              refine tg_widen (k := cells + 2) (n := slots + 35) (by show cells + 1 ≤ cells + 2; omega) (by show slots + 6 ≤ slots + 35; omega) ?_
              exact hn T ad ok G a dr N bc sp (tg_up (tg_up M 11 0 0) 11 0 2) B o hO (hRR.m0 (M' := (tg_up (tg_up M 11 0 0) 11 0 2)) (fun j hj => by rw [mo_col _ _ _ hj, mo_col _ _ _ hj]) (mo_b0 (mo_b0 hBM (by decide)) (by decide))) rfl rfl rfl
            · have q_21' := q_21
              rw [← nI_0] at q_21
              have h_23 : 2 = 0 := (nI_eq (by omega) (by omega)).mp q_21
              omega
          · have q_19' := q_19
            have h_24 : 2 ≠ 2 := fun z => q_19 ((nI_eq (by omega) (by omega)).mpr z)
            omega
        · skip
          have hT : T (20 * x + y) := (hRR.1 _).mpr ⟨by omega, q4⟩
          have h7 : N 7 (20 * x + y) = M 15 (20 * x + y) := (hRR.2.2.2.1 _ hT).2.2.2.2.2.2
          have h15 := hRR.2.2.2.2.1 (20 * x + y)
          by_cases q5 : M 15 (20 * x + y) = 20
          · skip
            rw [er, eb, el, et, ey, ex]
            refine tg_callSX (As := [.ref (ad 0 0), .int (nI x), .int (nI y), .int (nI t0), .int (nI l0), .int (nI b0), .int (nI r0), .ref (ad 10 0)]) (rest := []) ⟨hx, hb, hml, hown, hts⟩ hK hN hMv (l_speak3 _ _ _ _ _ _ hO.1 rfl (t_speak5 hl9 hO.1 hO.2.2.1 hBN x y hx9 hy9 (20 * x + y) hT (hRR.hself _ hT).2.1 (hRR.hself _ hT).2.2 t0 l0 b0 r0 ht0 hb0 hl0 hr0 (by omega))) (vx_cwSW 8 hts (lg_SW wm_L_58 wt_L_speak wn_L wgL_speak) rfl rfl rfl ⟨by decide, by decide, rfl⟩ ⟨(by rw [hR]; exact Nat.le_of_ble_eq_true rfl), (by rw [hR]; exact Nat.le_of_ble_eq_true rfl)⟩) rfl (Nat.le_of_ble_eq_true rfl) ⟨by rw [hR]; show cells + 1 ≤ 601024; omega, by rw [hR]; show slots + 6 ≤ 7293034; omega⟩ rfl dL_law_283 ?_
            intro r9 ad9 ok9 w9 ⟨ha9, hok9, hr9, hw9⟩
            subst hr9
            rw [ha9, hok9, hw9]
            refine tg_st (st' := [.int (nI 3)]) rfl ?_
            refine tg_istore (L' := [(0, .ref b), (1, .ref (ad 0 0)), (2, .ref (ad 11 0)), (3, .ref (ad 10 0)), (4, .int (nI (i))), (5, .int (nI (3)))]) hx hb dL_law_286 (by decide) rfl rfl ?_
            refine tg_aload_n hx hb dL_law_288 rfl rfl ?_
            refine tg_aload_n hx hb dL_law_289 rfl rfl ?_
            refine tg_iload hx hb dL_law_290 rfl ?_
            refine tg_iconst (v := nI 1) hx hb dL_law_292 (by decide +kernel) ?_
            refine tg_iadd hx hb dL_law_293 ?_
            refine tg_top (y := nI ((i) + (1))) (nI_add _ _) ?_
            refine tg_sld hx hb hX hbl hbF (x := (i) + (1)) (by omega) (by omega) dL_law_294 ?_
            refine tg_aload_n hx hb dL_law_295 rfl rfl ?_
            refine tg_iload hx hb dL_law_296 rfl ?_
            refine tg_iconst (v := nI 2) hx hb dL_law_298 (by decide +kernel) ?_
            refine tg_iadd hx hb dL_law_299 ?_
            refine tg_top (y := nI ((i) + (2))) (nI_add _ _) ?_
            refine tg_sld hx hb hX hbl hbF (x := (i) + (2)) (by omega) (by omega) dL_law_300 ?_
            refine tg_aload_n hx hb dL_law_301 rfl rfl ?_
            refine tg_iload hx hb dL_law_302 rfl ?_
            refine tg_iconst (v := nI 3) hx hb dL_law_304 (by decide +kernel) ?_
            refine tg_iadd hx hb dL_law_305 ?_
            refine tg_top (y := nI ((i) + (3))) (nI_add _ _) ?_
            refine tg_sld hx hb hX hbl hbF (x := (i) + (3)) (by omega) (by omega) dL_law_306 ?_
            refine tg_aload_n hx hb dL_law_307 rfl rfl ?_
            refine tg_iload hx hb dL_law_308 rfl ?_
            refine tg_iconst (v := nI 4) hx hb dL_law_310 (by decide +kernel) ?_
            refine tg_iadd hx hb dL_law_311 ?_
            refine tg_top (y := nI ((i) + (4))) (nI_add _ _) ?_
            refine tg_sld hx hb hX hbl hbF (x := (i) + (4)) (by omega) (by omega) dL_law_312 ?_
            refine tg_aload_n hx hb dL_law_313 rfl rfl ?_
            refine tg_iload hx hb dL_law_314 rfl ?_
            refine tg_iconst (v := nI 5) hx hb dL_law_316 (by decide +kernel) ?_
            refine tg_iadd hx hb dL_law_317 ?_
            refine tg_top (y := nI ((i) + (5))) (nI_add _ _) ?_
            refine tg_sld hx hb hX hbl hbF (x := (i) + (5)) (by omega) (by omega) dL_law_318 ?_
            refine tg_aload_n hx hb dL_law_319 rfl rfl ?_
            refine tg_iload hx hb dL_law_320 rfl ?_
            refine tg_bipush (v := nI 6) hx hb dL_law_322 (by decide +kernel) ?_
            refine tg_iadd hx hb dL_law_324 ?_
            refine tg_top (y := nI ((i) + (6))) (nI_add _ _) ?_
            refine tg_sld hx hb hX hbl hbF (x := (i) + (6)) (by omega) (by omega) dL_law_325 ?_
            rw [er, eb, el, et, ey, ex]
            refine tg_w lw_sw ?_
            refine tg_callV (C := "HangGraphModel") (k := 11) (i := 0) (As := [.int (nI x), .int (nI y), .int (nI t0), .int (nI l0), .int (nI b0), .int (nI r0)]) (rest := []) ⟨hx, hb, hml, hown, hts⟩ hK hN hMv (hO.2.1.1 11 (by decide) (by decide) (by decide) (by decide)) rfl rfl rfl (c_mSpeak3 hO.2.1 hMv hBM x y hx9 hy9 t0 l0 b0 r0 ht0 hb0 hl0 hr0 q4 q5) (cwV 6 hts (lg_V wm_L_61 wi_M_speak we_M_speak wn_M wc_M_speak) rfl rfl rfl ⟨rfl, by decide, by decide, rfl⟩ ⟨(by rw [hR]; exact Nat.le_of_ble_eq_true rfl), (by rw [hR]; exact Nat.le_of_ble_eq_true rfl)⟩) rfl (Nat.le_of_ble_eq_true rfl) ⟨by rw [hR]; show cells + 1 + 0 ≤ 601024; omega, by rw [hR]; show slots + 6 + 0 ≤ 7293034; omega⟩ rfl dL_law_326 (tg_kv rfl rfl ?_)
            refine tg_w lw_sw.symm ?_
            refine tg_istore (L' := [(0, .ref b), (1, .ref (ad 0 0)), (2, .ref (ad 11 0)), (3, .ref (ad 10 0)), (4, .int (nI (i))), (5, .int (nI (3))), (6, .int (nI (0)))]) hx hb dL_law_329 (by decide) rfl rfl ?_
            refine tg_aload_n hx hb dL_law_331 rfl rfl ?_
            refine tg_w lw_sw ?_
            refine tg_callV (C := "HangGraphModel") (k := 11) (i := 0) (As := []) (rest := []) ⟨hx, hb, hml, hown, hts⟩ hK hN hMv (hO.2.1.1 11 (by decide) (by decide) (by decide) (by decide)) rfl rfl rfl (c_mThrown hO.2.1) (cwV 0 hts (lg_V wm_L_50 wi_M_thrown we_M_thrown wn_M wc_M_thrown) rfl rfl rfl ⟨rfl, by decide, by decide, rfl⟩ ⟨(by rw [hR]; exact Nat.le_of_ble_eq_true rfl), (by rw [hR]; exact Nat.le_of_ble_eq_true rfl)⟩) rfl (Nat.le_of_ble_eq_true rfl) ⟨by rw [hR]; show cells + 1 + 0 ≤ 601024; omega, by rw [hR]; show slots + 6 + 0 ≤ 7293034; omega⟩ rfl dL_law_332 (tg_kv rfl rfl ?_)
            refine tg_w lw_sw.symm ?_
            refine tg_top (y := nI 3) (by rw [tg_up_self]) ?_
            refine tg_iload hx hb dL_law_335 rfl ?_
            refine tg_icmp_eq (tgt := 342) hx hb dL_law_337 (by decide) (fun q_25 => ?_) (fun q_25 => ?_)
            · have q_25' := q_25
              have h_26 : 3 = 3 := (nI_eq (by omega) (by omega)).mp q_25
              refine tg_iload hx hb dL_law_342 rfl ?_
              refine tg_if_ne (tgt := 359) hx hb dL_law_344 (by decide) (fun q_27 => ?_) (fun q_27 => ?_)
              · have q_27' := q_27
                rw [← nI_0] at q_27
                have h_28 : 3 ≠ 0 := fun z => q_27 ((nI_eq (by omega) (by omega)).mpr z)
                refine tg_goto (tgt := 571) hx hb dL_law_359 (by decide) ?_
                refine tg_sub (L' := [(0, .ref b), (1, .ref (ad 0 0)), (2, .ref (ad 11 0)), (3, .ref (ad 10 0)), (4, .int (nI (i)))]) (fun z8 hz8 => (List.mem_append_left [(5, .int (nI (3))), (6, .int (nI (0)))] hz8 : z8 ∈ [(0, .ref b), (1, .ref (ad 0 0)), (2, .ref (ad 11 0)), (3, .ref (ad 10 0)), (4, .int (nI (i)))] ++ [(5, .int (nI (3))), (6, .int (nI (0)))])) ?_
                refine tg_widen (k := cells + 2) (n := slots + 35) (by show cells + 1 ≤ cells + 2; omega) (by show slots + 6 ≤ slots + 35; omega) ?_
                exact hn T ad ok G a dr N bc sp (tg_up (tg_up M 11 0 0) 11 0 3) B o hO (hRR.m0 (M' := (tg_up (tg_up M 11 0 0) 11 0 3)) (fun j hj => by rw [mo_col _ _ _ hj, mo_col _ _ _ hj]) (mo_b0 (mo_b0 hBM (by decide)) (by decide))) rfl rfl rfl
              · have q_27' := q_27
                rw [← nI_0] at q_27
                have h_29 : 3 = 0 := (nI_eq (by omega) (by omega)).mp q_27
                omega
            · have q_25' := q_25
              have h_30 : 3 ≠ 3 := fun z => q_25 ((nI_eq (by omega) (by omega)).mpr z)
              omega
          · skip
            have hR1 := hRR.speak (B' := (tg_up (tg_up (tg_up (tg_up B 17 (20 * x + y) (va_up (B 17 (20 * x + y)) (4 * M 15 (20 * x + y)) t0)) 17 (20 * x + y) (va_up ((tg_up B 17 (20 * x + y) (va_up (B 17 (20 * x + y)) (4 * M 15 (20 * x + y)) t0)) 17 (20 * x + y)) (4 * M 15 (20 * x + y) + 1) l0)) 17 (20 * x + y) (va_up ((tg_up (tg_up B 17 (20 * x + y) (va_up (B 17 (20 * x + y)) (4 * M 15 (20 * x + y)) t0)) 17 (20 * x + y) (va_up ((tg_up B 17 (20 * x + y) (va_up (B 17 (20 * x + y)) (4 * M 15 (20 * x + y)) t0)) 17 (20 * x + y)) (4 * M 15 (20 * x + y) + 1) l0)) 17 (20 * x + y)) (4 * M 15 (20 * x + y) + 2) b0)) 17 (20 * x + y) (va_up ((tg_up (tg_up (tg_up B 17 (20 * x + y) (va_up (B 17 (20 * x + y)) (4 * M 15 (20 * x + y)) t0)) 17 (20 * x + y) (va_up ((tg_up B 17 (20 * x + y) (va_up (B 17 (20 * x + y)) (4 * M 15 (20 * x + y)) t0)) 17 (20 * x + y)) (4 * M 15 (20 * x + y) + 1) l0)) 17 (20 * x + y) (va_up ((tg_up (tg_up B 17 (20 * x + y) (va_up (B 17 (20 * x + y)) (4 * M 15 (20 * x + y)) t0)) 17 (20 * x + y) (va_up ((tg_up B 17 (20 * x + y) (va_up (B 17 (20 * x + y)) (4 * M 15 (20 * x + y)) t0)) 17 (20 * x + y)) (4 * M 15 (20 * x + y) + 1) l0)) 17 (20 * x + y)) (4 * M 15 (20 * x + y) + 2) b0)) 17 (20 * x + y)) (4 * M 15 (20 * x + y) + 3) r0))) hT ht0 hb0 hl0 hr0 (by omega) (by rw [tg_up_self, tg_up_self, tg_up_self, tg_up_self]) (fun u hu => by rw [tg_up_ne _ _ (fun z => hu z.2), tg_up_ne _ _ (fun z => hu z.2), tg_up_ne _ _ (fun z => hu z.2), tg_up_ne _ _ (fun z => hu z.2)]) (mo_bb (mo_bb (mo_bb (mo_bb hRR.2.2.2.2.2.2.2.2.2.2.1.2.2.2 (by omega)) (by omega)) (by omega)) (by omega))
            have hR2 := hR1.m0 (M' := (tg_up (tg_up M 11 0 0) 15 (20 * x + y) (M 15 (20 * x + y) + 1))) (fun j hj => by rw [tg_cm _ _ _ (fun z => absurd z.1 (by decide)), mo_col _ _ _ hj]) (mo_b0 (mo_b0 hBM (by decide)) (by omega))
            rw [er, eb, el, et, ey, ex]
            refine tg_callSX (As := [.ref (ad 0 0), .int (nI x), .int (nI y), .int (nI t0), .int (nI l0), .int (nI b0), .int (nI r0), .ref (ad 10 0)]) (rest := []) ⟨hx, hb, hml, hown, hts⟩ hK hN hMv (l_speak0 _ _ _ _ _ _ hO.1 rfl (c_speak hO.1 hO.2.2.1 hBN x y hx9 hy9 (20 * x + y) hT (hRR.hself _ hT).2.1 (hRR.hself _ hT).2.2 t0 l0 b0 r0 ht0 hb0 hl0 hr0 (by omega)) (fun r ad1 ok1 w1 ⟨h1, h2, h3, h4⟩ => ⟨⟨_, h3⟩, by rw [h2]; exact hO.2.2.2.2, by rw [h1], ⟨o, by rw [h4]; rfl⟩⟩)) (vx_cwSW 8 hts (lg_SW wm_L_58 wt_L_speak wn_L wgL_speak) rfl rfl rfl ⟨by decide, by decide, rfl⟩ ⟨(by rw [hR]; exact Nat.le_of_ble_eq_true rfl), (by rw [hR]; exact Nat.le_of_ble_eq_true rfl)⟩) rfl (Nat.le_of_ble_eq_true rfl) ⟨by rw [hR]; show cells + 0 ≤ 601024; omega, by rw [hR]; show slots + 0 ≤ 7293034; omega⟩ rfl dL_law_283 ?_
            intro r9 ad9 ok9 w9 ⟨hr9, v9, w0, f9, ⟨ha9, hok9, hv9, hw0⟩, hf9, hw9⟩
            subst hr9
            injection hv9 with hv9
            injection hv9 with hv9
            rw [hw9, hw0, ha9, hok9, hv9]
            refine tg_w (w' := (lw_W cF cI cZ cJ cA cB ν ad G a dr (tg_up N 7 (20 * x + y) (N 7 (20 * x + y) + 1)) bc (va_up sp (20 * x + y) (hg_or (sp (20 * x + y)) t0 (b0 + 1) (hg_cb l0 r0))) M B (va_up f9 0 (nI (N 7 (20 * x + y) + 1)).toInt64))) (by show tg_up (hg_w _ _ _ _ _ _ _ _ _ (tg_up _ 10 0 _)) 10 0 _ = _; rw [lw_up, tg_uu]; rfl) ?_
            refine tg_st (st' := [.int (nI 0)]) rfl ?_
            refine tg_istore (L' := [(0, .ref b), (1, .ref (ad 0 0)), (2, .ref (ad 11 0)), (3, .ref (ad 10 0)), (4, .int (nI (i))), (5, .int (nI (0)))]) hx hb dL_law_286 (by decide) rfl rfl ?_
            refine tg_aload_n hx hb dL_law_288 rfl rfl ?_
            refine tg_aload_n hx hb dL_law_289 rfl rfl ?_
            refine tg_iload hx hb dL_law_290 rfl ?_
            refine tg_iconst (v := nI 1) hx hb dL_law_292 (by decide +kernel) ?_
            refine tg_iadd hx hb dL_law_293 ?_
            refine tg_top (y := nI ((i) + (1))) (nI_add _ _) ?_
            refine tg_sld hx hb hX hbl hbF (x := (i) + (1)) (by omega) (by omega) dL_law_294 ?_
            refine tg_aload_n hx hb dL_law_295 rfl rfl ?_
            refine tg_iload hx hb dL_law_296 rfl ?_
            refine tg_iconst (v := nI 2) hx hb dL_law_298 (by decide +kernel) ?_
            refine tg_iadd hx hb dL_law_299 ?_
            refine tg_top (y := nI ((i) + (2))) (nI_add _ _) ?_
            refine tg_sld hx hb hX hbl hbF (x := (i) + (2)) (by omega) (by omega) dL_law_300 ?_
            refine tg_aload_n hx hb dL_law_301 rfl rfl ?_
            refine tg_iload hx hb dL_law_302 rfl ?_
            refine tg_iconst (v := nI 3) hx hb dL_law_304 (by decide +kernel) ?_
            refine tg_iadd hx hb dL_law_305 ?_
            refine tg_top (y := nI ((i) + (3))) (nI_add _ _) ?_
            refine tg_sld hx hb hX hbl hbF (x := (i) + (3)) (by omega) (by omega) dL_law_306 ?_
            refine tg_aload_n hx hb dL_law_307 rfl rfl ?_
            refine tg_iload hx hb dL_law_308 rfl ?_
            refine tg_iconst (v := nI 4) hx hb dL_law_310 (by decide +kernel) ?_
            refine tg_iadd hx hb dL_law_311 ?_
            refine tg_top (y := nI ((i) + (4))) (nI_add _ _) ?_
            refine tg_sld hx hb hX hbl hbF (x := (i) + (4)) (by omega) (by omega) dL_law_312 ?_
            refine tg_aload_n hx hb dL_law_313 rfl rfl ?_
            refine tg_iload hx hb dL_law_314 rfl ?_
            refine tg_iconst (v := nI 5) hx hb dL_law_316 (by decide +kernel) ?_
            refine tg_iadd hx hb dL_law_317 ?_
            refine tg_top (y := nI ((i) + (5))) (nI_add _ _) ?_
            refine tg_sld hx hb hX hbl hbF (x := (i) + (5)) (by omega) (by omega) dL_law_318 ?_
            refine tg_aload_n hx hb dL_law_319 rfl rfl ?_
            refine tg_iload hx hb dL_law_320 rfl ?_
            refine tg_bipush (v := nI 6) hx hb dL_law_322 (by decide +kernel) ?_
            refine tg_iadd hx hb dL_law_324 ?_
            refine tg_top (y := nI ((i) + (6))) (nI_add _ _) ?_
            refine tg_sld hx hb hX hbl hbF (x := (i) + (6)) (by omega) (by omega) dL_law_325 ?_
            rw [er, eb, el, et, ey, ex]
            refine tg_w lw_sw ?_
            refine tg_callV (C := "HangGraphModel") (k := 11) (i := 0) (As := [.int (nI x), .int (nI y), .int (nI t0), .int (nI l0), .int (nI b0), .int (nI r0)]) (rest := []) ⟨hx, hb, hml, hown, hts⟩ hK hN hMv (hO.2.1.1 11 (by decide) (by decide) (by decide) (by decide)) rfl rfl rfl (c_mSpeak0 hO.2.1 hMv hBM x y hx9 hy9 t0 l0 b0 r0 ht0 hb0 hl0 hr0 q4 (by omega)) (cwV 6 hts (lg_V wm_L_61 wi_M_speak we_M_speak wn_M wc_M_speak) rfl rfl rfl ⟨rfl, by decide, by decide, rfl⟩ ⟨(by rw [hR]; exact Nat.le_of_ble_eq_true rfl), (by rw [hR]; exact Nat.le_of_ble_eq_true rfl)⟩) rfl (Nat.le_of_ble_eq_true rfl) ⟨by rw [hR]; show cells + 0 + 0 ≤ 601024; omega, by rw [hR]; show slots + 0 + 0 ≤ 7293034; omega⟩ rfl dL_law_326 (tg_kv rfl rfl ?_)
            refine tg_w lw_sw.symm ?_
            refine tg_istore (L' := [(0, .ref b), (1, .ref (ad 0 0)), (2, .ref (ad 11 0)), (3, .ref (ad 10 0)), (4, .int (nI (i))), (5, .int (nI (0))), (6, .int (nI (M 15 (20 * x + y) + 1)))]) hx hb dL_law_329 (by decide) rfl rfl ?_
            refine tg_aload_n hx hb dL_law_331 rfl rfl ?_
            refine tg_w lw_sw ?_
            refine tg_callV (C := "HangGraphModel") (k := 11) (i := 0) (As := []) (rest := []) ⟨hx, hb, hml, hown, hts⟩ hK hN hMv (hO.2.1.1 11 (by decide) (by decide) (by decide) (by decide)) rfl rfl rfl (c_mThrown hO.2.1) (cwV 0 hts (lg_V wm_L_50 wi_M_thrown we_M_thrown wn_M wc_M_thrown) rfl rfl rfl ⟨rfl, by decide, by decide, rfl⟩ ⟨(by rw [hR]; exact Nat.le_of_ble_eq_true rfl), (by rw [hR]; exact Nat.le_of_ble_eq_true rfl)⟩) rfl (Nat.le_of_ble_eq_true rfl) ⟨by rw [hR]; show cells + 0 + 0 ≤ 601024; omega, by rw [hR]; show slots + 0 + 0 ≤ 7293034; omega⟩ rfl dL_law_332 (tg_kv rfl rfl ?_)
            refine tg_w lw_sw.symm ?_
            refine tg_top (y := nI 0) (by rw [show (tg_up (tg_up M 11 0 0) 15 (20 * x + y) (M 15 (20 * x + y) + 1)) 11 0 = 0 by rw [mo_col _ _ _ (by decide), tg_up_self]]) ?_
            refine tg_iload hx hb dL_law_335 rfl ?_
            refine tg_icmp_eq (tgt := 342) hx hb dL_law_337 (by decide) (fun q_31 => ?_) (fun q_31 => ?_)
            · have q_31' := q_31
              have h_32 : 0 = 0 := (nI_eq (by omega) (by omega)).mp q_31
              refine tg_iload hx hb dL_law_342 rfl ?_
              refine tg_if_ne (tgt := 359) hx hb dL_law_344 (by decide) (fun q_33 => ?_) (fun q_33 => ?_)
              · have q_33' := q_33
                rw [← nI_0] at q_33
                have h_34 : 0 ≠ 0 := fun z => q_33 ((nI_eq (by omega) (by omega)).mpr z)
                omega
              · have q_33' := q_33
                rw [← nI_0] at q_33
                have h_35 : 0 = 0 := (nI_eq (by omega) (by omega)).mp q_33
                refine tg_aload_n hx hb dL_law_347 rfl rfl ?_
                refine tg_iconst (v := nI 0) hx hb dL_law_348 (by decide +kernel) ?_
                refine tg_lald (t0 := 3) hx hb hK hO.2.2.2.2 lw_W10 rfl (x := 0) (by decide) (by decide) dL_law_349 ?_
                refine tg_st (st' := .long (nI (N 7 (20 * x + y) + 1)).toInt64 :: []) (by rw [va_up_self]) ?_
                refine tg_iload hx hb dL_law_350 rfl ?_
                refine tg_i2l (v := (nI (M 15 (20 * x + y) + 1)).toInt64) hx hb dL_law_352 rfl ?_
                refine tg_lcmp hx hb dL_law_353 ?_
                refine tg_top (y := nI 0) (by rw [h7, lw_cmp, nI_0]) ?_
                refine tg_if_eq (tgt := 359) hx hb dL_law_354 (by decide) (fun q_36 => ?_) (fun q_36 => ?_)
                · have q_36' := q_36
                  rw [← nI_0] at q_36
                  have h_37 : 0 = 0 := (nI_eq (by omega) (by omega)).mp q_36
                  refine tg_goto (tgt := 571) hx hb dL_law_359 (by decide) ?_
                  refine tg_sub (L' := [(0, .ref b), (1, .ref (ad 0 0)), (2, .ref (ad 11 0)), (3, .ref (ad 10 0)), (4, .int (nI (i)))]) (fun z8 hz8 => (List.mem_append_left [(5, .int (nI (0))), (6, .int (nI (M 15 (20 * x + y) + 1)))] hz8 : z8 ∈ [(0, .ref b), (1, .ref (ad 0 0)), (2, .ref (ad 11 0)), (3, .ref (ad 10 0)), (4, .int (nI (i)))] ++ [(5, .int (nI (0))), (6, .int (nI (M 15 (20 * x + y) + 1)))])) ?_
                  refine tg_widen (k := cells + 2) (n := slots + 35) (by show cells + 0 ≤ cells + 2; omega) (by show slots + 0 ≤ slots + 35; omega) ?_
                  exact hn T ad ok G a dr (tg_up N 7 (20 * x + y) (N 7 (20 * x + y) + 1)) bc (va_up sp (20 * x + y) (hg_or (sp (20 * x + y)) t0 (b0 + 1) (hg_cb l0 r0))) (tg_up (tg_up M 11 0 0) 15 (20 * x + y) (M 15 (20 * x + y) + 1)) (tg_up (tg_up (tg_up (tg_up B 17 (20 * x + y) (va_up (B 17 (20 * x + y)) (4 * M 15 (20 * x + y)) t0)) 17 (20 * x + y) (va_up ((tg_up B 17 (20 * x + y) (va_up (B 17 (20 * x + y)) (4 * M 15 (20 * x + y)) t0)) 17 (20 * x + y)) (4 * M 15 (20 * x + y) + 1) l0)) 17 (20 * x + y) (va_up ((tg_up (tg_up B 17 (20 * x + y) (va_up (B 17 (20 * x + y)) (4 * M 15 (20 * x + y)) t0)) 17 (20 * x + y) (va_up ((tg_up B 17 (20 * x + y) (va_up (B 17 (20 * x + y)) (4 * M 15 (20 * x + y)) t0)) 17 (20 * x + y)) (4 * M 15 (20 * x + y) + 1) l0)) 17 (20 * x + y)) (4 * M 15 (20 * x + y) + 2) b0)) 17 (20 * x + y) (va_up ((tg_up (tg_up (tg_up B 17 (20 * x + y) (va_up (B 17 (20 * x + y)) (4 * M 15 (20 * x + y)) t0)) 17 (20 * x + y) (va_up ((tg_up B 17 (20 * x + y) (va_up (B 17 (20 * x + y)) (4 * M 15 (20 * x + y)) t0)) 17 (20 * x + y)) (4 * M 15 (20 * x + y) + 1) l0)) 17 (20 * x + y) (va_up ((tg_up (tg_up B 17 (20 * x + y) (va_up (B 17 (20 * x + y)) (4 * M 15 (20 * x + y)) t0)) 17 (20 * x + y) (va_up ((tg_up B 17 (20 * x + y) (va_up (B 17 (20 * x + y)) (4 * M 15 (20 * x + y)) t0)) 17 (20 * x + y)) (4 * M 15 (20 * x + y) + 1) l0)) 17 (20 * x + y)) (4 * M 15 (20 * x + y) + 2) b0)) 17 (20 * x + y)) (4 * M 15 (20 * x + y) + 3) r0)) (va_up f9 0 (nI (N 7 (20 * x + y) + 1)).toInt64) hO hR2 rfl rfl rfl
                · have q_36' := q_36
                  rw [← nI_0] at q_36
                  have h_38 : 0 ≠ 0 := fun z => q_36 ((nI_eq (by omega) (by omega)).mpr z)
                  omega
            · have q_31' := q_31
              have h_39 : 0 ≠ 0 := fun z => q_31 ((nI_eq (by omega) (by omega)).mpr z)
              omega
set_option maxRecDepth 100000 in
set_option maxHeartbeats 8000000 in
/-- told -/
theorem s_told {p : Program} {l : Launch} {e : Env} {R : Room} {s : State} {m : MethodId} {args : Array Value} {below : List Frame} {meth : Method} {c : Code} {Q : State → Prop} {D : va_G} {F : Nat → Prop} {cF cI cZ cJ cA cB : ClassId} {ν : Nat → Nat → va_E} {b L9 : Nat} {xs : Nat → Int32} {x0 x1 x2 i cells slots : Nat} (hx : p.tables.exec = Jvm.exec) (hb : c.code = code) (hml : c.maxLocals = 7) (hl9 : l.stackTraces = false) (hown : s.vm.findClass "HangGraphLaw" = some m.cls) (hts : ∀ w ∈ lw_g, w.before args s = true) (hK : va_K D vwCl (hg_tys cI cF cZ cJ cA cB) s) (hN : hg_N F s s.heap) (hX : va_X b L9 xs s s.heap) (hbl : b < s.heap.size) (hbF : ¬ F b) (hL : L9 ≤ 3584) (hi : i + 7 ≤ L9) (hR : R = room_1) (hcs : cells + 2 ≤ 601024 ∧ slots + 35 ≤ 7293034) (hn : lw_N p l e R s m args below meth c Q D F cF cI cZ cJ cA cB ν b x0 x1 x2 i (cells + 2) (slots + 35) 571) : lw_N p l e R s m args below meth c Q D F cF cI cZ cJ cA cB ν b x0 x1 x2 i cells slots 423 := by
  intro T ad ok G a dr N bc sp M B o hO hRR e0 e1 e2
  subst e0
  subst e1
  subst e2
  have hMv := hg_Mv F
  have hBM := hRR.2.2.2.2.2.2.2.2.2.2.1.2.2.1
  have hBN := hRR.2.2.2.2.2.2.2.2.2.2.1.1
  refine tg_aload_n hx hb dL_law_423 rfl rfl ?_
  refine tg_aload_n hx hb dL_law_424 rfl rfl ?_
  refine tg_iload hx hb dL_law_425 rfl ?_
  refine tg_iconst (v := nI 1) hx hb dL_law_427 (by decide +kernel) ?_
  refine tg_iadd hx hb dL_law_428 ?_
  refine tg_top (y := nI ((i) + (1))) (nI_add _ _) ?_
  refine tg_sld hx hb hX hbl hbF (x := (i) + (1)) (by omega) (by omega) dL_law_429 ?_
  refine tg_aload_n hx hb dL_law_430 rfl rfl ?_
  refine tg_iload hx hb dL_law_431 rfl ?_
  refine tg_iconst (v := nI 2) hx hb dL_law_433 (by decide +kernel) ?_
  refine tg_iadd hx hb dL_law_434 ?_
  refine tg_top (y := nI ((i) + (2))) (nI_add _ _) ?_
  refine tg_sld hx hb hX hbl hbF (x := (i) + (2)) (by omega) (by omega) dL_law_435 ?_
  refine tg_aload_n hx hb dL_law_436 rfl rfl ?_
  refine tg_iload hx hb dL_law_437 rfl ?_
  refine tg_iconst (v := nI 3) hx hb dL_law_439 (by decide +kernel) ?_
  refine tg_iadd hx hb dL_law_440 ?_
  refine tg_top (y := nI ((i) + (3))) (nI_add _ _) ?_
  refine tg_sld hx hb hX hbl hbF (x := (i) + (3)) (by omega) (by omega) dL_law_441 ?_
  refine tg_aload_n hx hb dL_law_442 rfl rfl ?_
  by_cases q1 : hg_bC (xs ((i) + (1))) (xs ((i) + (2)))
  · skip
    refine tg_callSX (As := [.ref (ad 0 0), .int (xs ((i) + (1))), .int (xs ((i) + (2))), .int (xs ((i) + (3))), .ref (ad 10 0)]) (rest := []) ⟨hx, hb, hml, hown, hts⟩ hK hN hMv (l_told1 _ _ _ hO.1 rfl (t_told1 hl9 _ _ q1 _)) (vx_cwSW 5 hts (lg_SW wm_L_70 wt_L_told wn_L wgL_told) rfl rfl rfl ⟨by decide, by decide, rfl⟩ ⟨(by rw [hR]; exact Nat.le_of_ble_eq_true rfl), (by rw [hR]; exact Nat.le_of_ble_eq_true rfl)⟩) rfl (Nat.le_of_ble_eq_true rfl) ⟨by rw [hR]; show cells + 1 ≤ 601024; omega, by rw [hR]; show slots + 6 ≤ 7293034; omega⟩ rfl dL_law_443 ?_
    intro r9 ad9 ok9 w9 ⟨ha9, hok9, hr9, hw9⟩
    subst hr9
    rw [ha9, hok9, hw9]
    refine tg_st (st' := [.int (nI 1)]) rfl ?_
    refine tg_istore (L' := [(0, .ref b), (1, .ref (ad 0 0)), (2, .ref (ad 11 0)), (3, .ref (ad 10 0)), (4, .int (nI (i))), (5, .int (nI (1)))]) hx hb dL_law_446 (by decide) rfl rfl ?_
    refine tg_aload_n hx hb dL_law_448 rfl rfl ?_
    refine tg_aload_n hx hb dL_law_449 rfl rfl ?_
    refine tg_iload hx hb dL_law_450 rfl ?_
    refine tg_iconst (v := nI 1) hx hb dL_law_452 (by decide +kernel) ?_
    refine tg_iadd hx hb dL_law_453 ?_
    refine tg_top (y := nI ((i) + (1))) (nI_add _ _) ?_
    refine tg_sld hx hb hX hbl hbF (x := (i) + (1)) (by omega) (by omega) dL_law_454 ?_
    refine tg_aload_n hx hb dL_law_455 rfl rfl ?_
    refine tg_iload hx hb dL_law_456 rfl ?_
    refine tg_iconst (v := nI 2) hx hb dL_law_458 (by decide +kernel) ?_
    refine tg_iadd hx hb dL_law_459 ?_
    refine tg_top (y := nI ((i) + (2))) (nI_add _ _) ?_
    refine tg_sld hx hb hX hbl hbF (x := (i) + (2)) (by omega) (by omega) dL_law_460 ?_
    refine tg_aload_n hx hb dL_law_461 rfl rfl ?_
    refine tg_iload hx hb dL_law_462 rfl ?_
    refine tg_iconst (v := nI 3) hx hb dL_law_464 (by decide +kernel) ?_
    refine tg_iadd hx hb dL_law_465 ?_
    refine tg_top (y := nI ((i) + (3))) (nI_add _ _) ?_
    refine tg_sld hx hb hX hbl hbF (x := (i) + (3)) (by omega) (by omega) dL_law_466 ?_
    refine tg_w lw_sw ?_
    refine tg_callV (C := "HangGraphModel") (k := 11) (i := 0) (As := [.int (xs ((i) + (1))), .int (xs ((i) + (2))), .int (xs ((i) + (3)))]) (rest := []) ⟨hx, hb, hml, hown, hts⟩ hK hN hMv (hO.2.1.1 11 (by decide) (by decide) (by decide) (by decide)) rfl rfl rfl (c_mTold1 hO.2.1 hMv _ _ _ (Or.inl (lw_c1 q1 _ _))) (cwV 3 hts (lg_V wm_L_73 wi_M_told we_M_told wn_M wc_M_told) rfl rfl rfl ⟨rfl, by decide, by decide, rfl⟩ ⟨(by rw [hR]; exact Nat.le_of_ble_eq_true rfl), (by rw [hR]; exact Nat.le_of_ble_eq_true rfl)⟩) rfl (Nat.le_of_ble_eq_true rfl) ⟨by rw [hR]; show cells + 1 + 0 ≤ 601024; omega, by rw [hR]; show slots + 6 + 0 ≤ 7293034; omega⟩ rfl dL_law_467 (tg_kv rfl rfl ?_)
    refine tg_w lw_sw.symm ?_
    refine tg_istore (L' := [(0, .ref b), (1, .ref (ad 0 0)), (2, .ref (ad 11 0)), (3, .ref (ad 10 0)), (4, .int (nI (i))), (5, .int (nI (1))), (6, .int (nI (0)))]) hx hb dL_law_470 (by decide) rfl rfl ?_
    refine tg_aload_n hx hb dL_law_472 rfl rfl ?_
    refine tg_w lw_sw ?_
    refine tg_callV (C := "HangGraphModel") (k := 11) (i := 0) (As := []) (rest := []) ⟨hx, hb, hml, hown, hts⟩ hK hN hMv (hO.2.1.1 11 (by decide) (by decide) (by decide) (by decide)) rfl rfl rfl (c_mThrown hO.2.1) (cwV 0 hts (lg_V wm_L_50 wi_M_thrown we_M_thrown wn_M wc_M_thrown) rfl rfl rfl ⟨rfl, by decide, by decide, rfl⟩ ⟨(by rw [hR]; exact Nat.le_of_ble_eq_true rfl), (by rw [hR]; exact Nat.le_of_ble_eq_true rfl)⟩) rfl (Nat.le_of_ble_eq_true rfl) ⟨by rw [hR]; show cells + 1 + 0 ≤ 601024; omega, by rw [hR]; show slots + 6 + 0 ≤ 7293034; omega⟩ rfl dL_law_473 (tg_kv rfl rfl ?_)
    refine tg_w lw_sw.symm ?_
    refine tg_top (y := nI 1) (by rw [tg_up_self]) ?_
    refine tg_iload hx hb dL_law_476 rfl ?_
    refine tg_icmp_eq (tgt := 483) hx hb dL_law_478 (by decide) (fun q_1 => ?_) (fun q_1 => ?_)
    · have q_1' := q_1
      have h_2 : 1 = 1 := (nI_eq (by omega) (by omega)).mp q_1
      refine tg_iload hx hb dL_law_483 rfl ?_
      refine tg_if_ne (tgt := 500) hx hb dL_law_485 (by decide) (fun q_3 => ?_) (fun q_3 => ?_)
      · have q_3' := q_3
        rw [← nI_0] at q_3
        have h_4 : 1 ≠ 0 := fun z => q_3 ((nI_eq (by omega) (by omega)).mpr z)
        refine tg_goto (tgt := 571) hx hb dL_law_500 (by decide) ?_
        refine tg_sub (L' := [(0, .ref b), (1, .ref (ad 0 0)), (2, .ref (ad 11 0)), (3, .ref (ad 10 0)), (4, .int (nI (i)))]) (fun z8 hz8 => (List.mem_append_left [(5, .int (nI (1))), (6, .int (nI (0)))] hz8 : z8 ∈ [(0, .ref b), (1, .ref (ad 0 0)), (2, .ref (ad 11 0)), (3, .ref (ad 10 0)), (4, .int (nI (i)))] ++ [(5, .int (nI (1))), (6, .int (nI (0)))])) ?_
        refine tg_widen (k := cells + 2) (n := slots + 35) (by show cells + 1 ≤ cells + 2; omega) (by show slots + 6 ≤ slots + 35; omega) ?_
        exact hn T ad ok G a dr N bc sp (tg_up (tg_up M 11 0 0) 11 0 1) B o hO (hRR.m0 (M' := (tg_up (tg_up M 11 0 0) 11 0 1)) (fun j hj => by rw [mo_col _ _ _ hj, mo_col _ _ _ hj]) (mo_b0 (mo_b0 hBM (by decide)) (by decide))) rfl rfl rfl
      · have q_3' := q_3
        rw [← nI_0] at q_3
        have h_5 : 1 = 0 := (nI_eq (by omega) (by omega)).mp q_3
        omega
    · have q_1' := q_1
      have h_6 : 1 ≠ 1 := fun z => q_1 ((nI_eq (by omega) (by omega)).mpr z)
      omega
  · obtain ⟨x, y, hx9, hy9, ex, ey⟩ := lw_c0 q1
    by_cases q2 : (xs ((i) + (3))) < 0 ∨ ¬ (xs ((i) + (3))) ≤ nI 2
    · skip
      rw [ey, ex]
      refine tg_callSX (As := [.ref (ad 0 0), .int (nI x), .int (nI y), .int (xs ((i) + (3))), .ref (ad 10 0)]) (rest := []) ⟨hx, hb, hml, hown, hts⟩ hK hN hMv (l_told1 _ _ _ hO.1 rfl (t_told2 hl9 x y hx9 hy9 _ q2)) (vx_cwSW 5 hts (lg_SW wm_L_70 wt_L_told wn_L wgL_told) rfl rfl rfl ⟨by decide, by decide, rfl⟩ ⟨(by rw [hR]; exact Nat.le_of_ble_eq_true rfl), (by rw [hR]; exact Nat.le_of_ble_eq_true rfl)⟩) rfl (Nat.le_of_ble_eq_true rfl) ⟨by rw [hR]; show cells + 1 ≤ 601024; omega, by rw [hR]; show slots + 6 ≤ 7293034; omega⟩ rfl dL_law_443 ?_
      intro r9 ad9 ok9 w9 ⟨ha9, hok9, hr9, hw9⟩
      subst hr9
      rw [ha9, hok9, hw9]
      refine tg_st (st' := [.int (nI 1)]) rfl ?_
      refine tg_istore (L' := [(0, .ref b), (1, .ref (ad 0 0)), (2, .ref (ad 11 0)), (3, .ref (ad 10 0)), (4, .int (nI (i))), (5, .int (nI (1)))]) hx hb dL_law_446 (by decide) rfl rfl ?_
      refine tg_aload_n hx hb dL_law_448 rfl rfl ?_
      refine tg_aload_n hx hb dL_law_449 rfl rfl ?_
      refine tg_iload hx hb dL_law_450 rfl ?_
      refine tg_iconst (v := nI 1) hx hb dL_law_452 (by decide +kernel) ?_
      refine tg_iadd hx hb dL_law_453 ?_
      refine tg_top (y := nI ((i) + (1))) (nI_add _ _) ?_
      refine tg_sld hx hb hX hbl hbF (x := (i) + (1)) (by omega) (by omega) dL_law_454 ?_
      refine tg_aload_n hx hb dL_law_455 rfl rfl ?_
      refine tg_iload hx hb dL_law_456 rfl ?_
      refine tg_iconst (v := nI 2) hx hb dL_law_458 (by decide +kernel) ?_
      refine tg_iadd hx hb dL_law_459 ?_
      refine tg_top (y := nI ((i) + (2))) (nI_add _ _) ?_
      refine tg_sld hx hb hX hbl hbF (x := (i) + (2)) (by omega) (by omega) dL_law_460 ?_
      refine tg_aload_n hx hb dL_law_461 rfl rfl ?_
      refine tg_iload hx hb dL_law_462 rfl ?_
      refine tg_iconst (v := nI 3) hx hb dL_law_464 (by decide +kernel) ?_
      refine tg_iadd hx hb dL_law_465 ?_
      refine tg_top (y := nI ((i) + (3))) (nI_add _ _) ?_
      refine tg_sld hx hb hX hbl hbF (x := (i) + (3)) (by omega) (by omega) dL_law_466 ?_
      rw [ey, ex]
      refine tg_w lw_sw ?_
      refine tg_callV (C := "HangGraphModel") (k := 11) (i := 0) (As := [.int (nI x), .int (nI y), .int (xs ((i) + (3)))]) (rest := []) ⟨hx, hb, hml, hown, hts⟩ hK hN hMv (hO.2.1.1 11 (by decide) (by decide) (by decide) (by decide)) rfl rfl rfl (c_mTold1 hO.2.1 hMv _ _ _ (Or.inr q2)) (cwV 3 hts (lg_V wm_L_73 wi_M_told we_M_told wn_M wc_M_told) rfl rfl rfl ⟨rfl, by decide, by decide, rfl⟩ ⟨(by rw [hR]; exact Nat.le_of_ble_eq_true rfl), (by rw [hR]; exact Nat.le_of_ble_eq_true rfl)⟩) rfl (Nat.le_of_ble_eq_true rfl) ⟨by rw [hR]; show cells + 1 + 0 ≤ 601024; omega, by rw [hR]; show slots + 6 + 0 ≤ 7293034; omega⟩ rfl dL_law_467 (tg_kv rfl rfl ?_)
      refine tg_w lw_sw.symm ?_
      refine tg_istore (L' := [(0, .ref b), (1, .ref (ad 0 0)), (2, .ref (ad 11 0)), (3, .ref (ad 10 0)), (4, .int (nI (i))), (5, .int (nI (1))), (6, .int (nI (0)))]) hx hb dL_law_470 (by decide) rfl rfl ?_
      refine tg_aload_n hx hb dL_law_472 rfl rfl ?_
      refine tg_w lw_sw ?_
      refine tg_callV (C := "HangGraphModel") (k := 11) (i := 0) (As := []) (rest := []) ⟨hx, hb, hml, hown, hts⟩ hK hN hMv (hO.2.1.1 11 (by decide) (by decide) (by decide) (by decide)) rfl rfl rfl (c_mThrown hO.2.1) (cwV 0 hts (lg_V wm_L_50 wi_M_thrown we_M_thrown wn_M wc_M_thrown) rfl rfl rfl ⟨rfl, by decide, by decide, rfl⟩ ⟨(by rw [hR]; exact Nat.le_of_ble_eq_true rfl), (by rw [hR]; exact Nat.le_of_ble_eq_true rfl)⟩) rfl (Nat.le_of_ble_eq_true rfl) ⟨by rw [hR]; show cells + 1 + 0 ≤ 601024; omega, by rw [hR]; show slots + 6 + 0 ≤ 7293034; omega⟩ rfl dL_law_473 (tg_kv rfl rfl ?_)
      refine tg_w lw_sw.symm ?_
      refine tg_top (y := nI 1) (by rw [tg_up_self]) ?_
      refine tg_iload hx hb dL_law_476 rfl ?_
      refine tg_icmp_eq (tgt := 483) hx hb dL_law_478 (by decide) (fun q_7 => ?_) (fun q_7 => ?_)
      · have q_7' := q_7
        have h_8 : 1 = 1 := (nI_eq (by omega) (by omega)).mp q_7
        refine tg_iload hx hb dL_law_483 rfl ?_
        refine tg_if_ne (tgt := 500) hx hb dL_law_485 (by decide) (fun q_9 => ?_) (fun q_9 => ?_)
        · have q_9' := q_9
          rw [← nI_0] at q_9
          have h_10 : 1 ≠ 0 := fun z => q_9 ((nI_eq (by omega) (by omega)).mpr z)
          refine tg_goto (tgt := 571) hx hb dL_law_500 (by decide) ?_
          refine tg_sub (L' := [(0, .ref b), (1, .ref (ad 0 0)), (2, .ref (ad 11 0)), (3, .ref (ad 10 0)), (4, .int (nI (i)))]) (fun z8 hz8 => (List.mem_append_left [(5, .int (nI (1))), (6, .int (nI (0)))] hz8 : z8 ∈ [(0, .ref b), (1, .ref (ad 0 0)), (2, .ref (ad 11 0)), (3, .ref (ad 10 0)), (4, .int (nI (i)))] ++ [(5, .int (nI (1))), (6, .int (nI (0)))])) ?_
          refine tg_widen (k := cells + 2) (n := slots + 35) (by show cells + 1 ≤ cells + 2; omega) (by show slots + 6 ≤ slots + 35; omega) ?_
          exact hn T ad ok G a dr N bc sp (tg_up (tg_up M 11 0 0) 11 0 1) B o hO (hRR.m0 (M' := (tg_up (tg_up M 11 0 0) 11 0 1)) (fun j hj => by rw [mo_col _ _ _ hj, mo_col _ _ _ hj]) (mo_b0 (mo_b0 hBM (by decide)) (by decide))) rfl rfl rfl
        · have q_9' := q_9
          rw [← nI_0] at q_9
          have h_11 : 1 = 0 := (nI_eq (by omega) (by omega)).mp q_9
          omega
      · have q_7' := q_7
        have h_12 : 1 ≠ 1 := fun z => q_7 ((nI_eq (by omega) (by omega)).mpr z)
        omega
    · obtain ⟨q, hq, eq⟩ := lw_w0 q2
      by_cases q4 : M 12 (20 * x + y) = 0
      · skip
        rw [eq, ey, ex]
        refine tg_callSX (As := [.ref (ad 0 0), .int (nI x), .int (nI y), .int (nI q), .ref (ad 10 0)]) (rest := []) ⟨hx, hb, hml, hown, hts⟩ hK hN hMv (l_told2 _ _ _ hO.1 rfl (t_told3 hl9 hO.1 hO.2.2.1 hBN x y hx9 hy9 (hRR.un (by omega) q4) q hq)) (vx_cwSW 5 hts (lg_SW wm_L_70 wt_L_told wn_L wgL_told) rfl rfl rfl ⟨by decide, by decide, rfl⟩ ⟨(by rw [hR]; exact Nat.le_of_ble_eq_true rfl), (by rw [hR]; exact Nat.le_of_ble_eq_true rfl)⟩) rfl (Nat.le_of_ble_eq_true rfl) ⟨by rw [hR]; show cells + 1 ≤ 601024; omega, by rw [hR]; show slots + 6 ≤ 7293034; omega⟩ rfl dL_law_443 ?_
        intro r9 ad9 ok9 w9 ⟨ha9, hok9, hr9, hw9⟩
        subst hr9
        rw [ha9, hok9, hw9]
        refine tg_st (st' := [.int (nI 2)]) rfl ?_
        refine tg_istore (L' := [(0, .ref b), (1, .ref (ad 0 0)), (2, .ref (ad 11 0)), (3, .ref (ad 10 0)), (4, .int (nI (i))), (5, .int (nI (2)))]) hx hb dL_law_446 (by decide) rfl rfl ?_
        refine tg_aload_n hx hb dL_law_448 rfl rfl ?_
        refine tg_aload_n hx hb dL_law_449 rfl rfl ?_
        refine tg_iload hx hb dL_law_450 rfl ?_
        refine tg_iconst (v := nI 1) hx hb dL_law_452 (by decide +kernel) ?_
        refine tg_iadd hx hb dL_law_453 ?_
        refine tg_top (y := nI ((i) + (1))) (nI_add _ _) ?_
        refine tg_sld hx hb hX hbl hbF (x := (i) + (1)) (by omega) (by omega) dL_law_454 ?_
        refine tg_aload_n hx hb dL_law_455 rfl rfl ?_
        refine tg_iload hx hb dL_law_456 rfl ?_
        refine tg_iconst (v := nI 2) hx hb dL_law_458 (by decide +kernel) ?_
        refine tg_iadd hx hb dL_law_459 ?_
        refine tg_top (y := nI ((i) + (2))) (nI_add _ _) ?_
        refine tg_sld hx hb hX hbl hbF (x := (i) + (2)) (by omega) (by omega) dL_law_460 ?_
        refine tg_aload_n hx hb dL_law_461 rfl rfl ?_
        refine tg_iload hx hb dL_law_462 rfl ?_
        refine tg_iconst (v := nI 3) hx hb dL_law_464 (by decide +kernel) ?_
        refine tg_iadd hx hb dL_law_465 ?_
        refine tg_top (y := nI ((i) + (3))) (nI_add _ _) ?_
        refine tg_sld hx hb hX hbl hbF (x := (i) + (3)) (by omega) (by omega) dL_law_466 ?_
        rw [eq, ey, ex]
        refine tg_w lw_sw ?_
        refine tg_callV (C := "HangGraphModel") (k := 11) (i := 0) (As := [.int (nI x), .int (nI y), .int (nI q)]) (rest := []) ⟨hx, hb, hml, hown, hts⟩ hK hN hMv (hO.2.1.1 11 (by decide) (by decide) (by decide) (by decide)) rfl rfl rfl (c_mTold2 hO.2.1 hMv hBM x y hx9 hy9 q4 q hq) (cwV 3 hts (lg_V wm_L_73 wi_M_told we_M_told wn_M wc_M_told) rfl rfl rfl ⟨rfl, by decide, by decide, rfl⟩ ⟨(by rw [hR]; exact Nat.le_of_ble_eq_true rfl), (by rw [hR]; exact Nat.le_of_ble_eq_true rfl)⟩) rfl (Nat.le_of_ble_eq_true rfl) ⟨by rw [hR]; show cells + 1 + 0 ≤ 601024; omega, by rw [hR]; show slots + 6 + 0 ≤ 7293034; omega⟩ rfl dL_law_467 (tg_kv rfl rfl ?_)
        refine tg_w lw_sw.symm ?_
        refine tg_istore (L' := [(0, .ref b), (1, .ref (ad 0 0)), (2, .ref (ad 11 0)), (3, .ref (ad 10 0)), (4, .int (nI (i))), (5, .int (nI (2))), (6, .int (nI (0)))]) hx hb dL_law_470 (by decide) rfl rfl ?_
        refine tg_aload_n hx hb dL_law_472 rfl rfl ?_
        refine tg_w lw_sw ?_
        refine tg_callV (C := "HangGraphModel") (k := 11) (i := 0) (As := []) (rest := []) ⟨hx, hb, hml, hown, hts⟩ hK hN hMv (hO.2.1.1 11 (by decide) (by decide) (by decide) (by decide)) rfl rfl rfl (c_mThrown hO.2.1) (cwV 0 hts (lg_V wm_L_50 wi_M_thrown we_M_thrown wn_M wc_M_thrown) rfl rfl rfl ⟨rfl, by decide, by decide, rfl⟩ ⟨(by rw [hR]; exact Nat.le_of_ble_eq_true rfl), (by rw [hR]; exact Nat.le_of_ble_eq_true rfl)⟩) rfl (Nat.le_of_ble_eq_true rfl) ⟨by rw [hR]; show cells + 1 + 0 ≤ 601024; omega, by rw [hR]; show slots + 6 + 0 ≤ 7293034; omega⟩ rfl dL_law_473 (tg_kv rfl rfl ?_)
        refine tg_w lw_sw.symm ?_
        refine tg_top (y := nI 2) (by rw [tg_up_self]) ?_
        refine tg_iload hx hb dL_law_476 rfl ?_
        refine tg_icmp_eq (tgt := 483) hx hb dL_law_478 (by decide) (fun q_13 => ?_) (fun q_13 => ?_)
        · have q_13' := q_13
          have h_14 : 2 = 2 := (nI_eq (by omega) (by omega)).mp q_13
          refine tg_iload hx hb dL_law_483 rfl ?_
          refine tg_if_ne (tgt := 500) hx hb dL_law_485 (by decide) (fun q_15 => ?_) (fun q_15 => ?_)
          · have q_15' := q_15
            rw [← nI_0] at q_15
            have h_16 : 2 ≠ 0 := fun z => q_15 ((nI_eq (by omega) (by omega)).mpr z)
            refine tg_goto (tgt := 571) hx hb dL_law_500 (by decide) ?_
            refine tg_sub (L' := [(0, .ref b), (1, .ref (ad 0 0)), (2, .ref (ad 11 0)), (3, .ref (ad 10 0)), (4, .int (nI (i)))]) (fun z8 hz8 => (List.mem_append_left [(5, .int (nI (2))), (6, .int (nI (0)))] hz8 : z8 ∈ [(0, .ref b), (1, .ref (ad 0 0)), (2, .ref (ad 11 0)), (3, .ref (ad 10 0)), (4, .int (nI (i)))] ++ [(5, .int (nI (2))), (6, .int (nI (0)))])) ?_
            refine tg_widen (k := cells + 2) (n := slots + 35) (by show cells + 1 ≤ cells + 2; omega) (by show slots + 6 ≤ slots + 35; omega) ?_
            exact hn T ad ok G a dr N bc sp (tg_up (tg_up M 11 0 0) 11 0 2) B o hO (hRR.m0 (M' := (tg_up (tg_up M 11 0 0) 11 0 2)) (fun j hj => by rw [mo_col _ _ _ hj, mo_col _ _ _ hj]) (mo_b0 (mo_b0 hBM (by decide)) (by decide))) rfl rfl rfl
          · have q_15' := q_15
            rw [← nI_0] at q_15
            have h_17 : 2 = 0 := (nI_eq (by omega) (by omega)).mp q_15
            omega
        · have q_13' := q_13
          have h_18 : 2 ≠ 2 := fun z => q_13 ((nI_eq (by omega) (by omega)).mpr z)
          omega
      · skip
        have hT : T (20 * x + y) := (hRR.1 _).mpr ⟨by omega, q4⟩
        have htv : hg_tv N (20 * x + y) q = mo_tv M (20 * x + y) q := lw_tv (hRR.2.2.2.2.2.2.2.2.2.1 _ hT)
        rw [eq, ey, ex]
        refine tg_callSX (As := [.ref (ad 0 0), .int (nI x), .int (nI y), .int (nI q), .ref (ad 10 0)]) (rest := []) ⟨hx, hb, hml, hown, hts⟩ hK hN hMv (l_told0 _ _ _ hO.1 rfl (c_told hO.1 hO.2.2.1 hMv hBN x y hx9 hy9 (20 * x + y) hT (hRR.hself _ hT).2.1 (hRR.hself _ hT).2.2 q hq) (fun r ad1 ok1 w1 ⟨h1, h2, h3, h4⟩ => ⟨⟨_, h3⟩, by rw [h2]; exact hO.2.2.2.2, by rw [h1], ⟨o, by rw [h4]; rfl⟩⟩)) (vx_cwSW 5 hts (lg_SW wm_L_70 wt_L_told wn_L wgL_told) rfl rfl rfl ⟨by decide, by decide, rfl⟩ ⟨(by rw [hR]; exact Nat.le_of_ble_eq_true rfl), (by rw [hR]; exact Nat.le_of_ble_eq_true rfl)⟩) rfl (Nat.le_of_ble_eq_true rfl) ⟨by rw [hR]; show cells + 0 ≤ 601024; omega, by rw [hR]; show slots + 0 ≤ 7293034; omega⟩ rfl dL_law_443 ?_
        intro r9 ad9 ok9 w9 ⟨hr9, v9, w0, f9, ⟨ha9, hok9, hv9, hw0⟩, hf9, hw9⟩
        subst hr9
        injection hv9 with hv9
        injection hv9 with hv9
        rw [hw9, hw0, ha9, hok9, hv9]
        refine tg_w (w' := (lw_W cF cI cZ cJ cA cB ν ad G a dr N bc sp M B (va_up f9 0 (nI (hg_tv N (20 * x + y) q)).toInt64))) (by show tg_up (hg_w _ _ _ _ _ _ _ _ _ (tg_up _ 10 0 _)) 10 0 _ = _; rw [lw_up, tg_uu]; rfl) ?_
        refine tg_st (st' := [.int (nI 0)]) rfl ?_
        refine tg_istore (L' := [(0, .ref b), (1, .ref (ad 0 0)), (2, .ref (ad 11 0)), (3, .ref (ad 10 0)), (4, .int (nI (i))), (5, .int (nI (0)))]) hx hb dL_law_446 (by decide) rfl rfl ?_
        refine tg_aload_n hx hb dL_law_448 rfl rfl ?_
        refine tg_aload_n hx hb dL_law_449 rfl rfl ?_
        refine tg_iload hx hb dL_law_450 rfl ?_
        refine tg_iconst (v := nI 1) hx hb dL_law_452 (by decide +kernel) ?_
        refine tg_iadd hx hb dL_law_453 ?_
        refine tg_top (y := nI ((i) + (1))) (nI_add _ _) ?_
        refine tg_sld hx hb hX hbl hbF (x := (i) + (1)) (by omega) (by omega) dL_law_454 ?_
        refine tg_aload_n hx hb dL_law_455 rfl rfl ?_
        refine tg_iload hx hb dL_law_456 rfl ?_
        refine tg_iconst (v := nI 2) hx hb dL_law_458 (by decide +kernel) ?_
        refine tg_iadd hx hb dL_law_459 ?_
        refine tg_top (y := nI ((i) + (2))) (nI_add _ _) ?_
        refine tg_sld hx hb hX hbl hbF (x := (i) + (2)) (by omega) (by omega) dL_law_460 ?_
        refine tg_aload_n hx hb dL_law_461 rfl rfl ?_
        refine tg_iload hx hb dL_law_462 rfl ?_
        refine tg_iconst (v := nI 3) hx hb dL_law_464 (by decide +kernel) ?_
        refine tg_iadd hx hb dL_law_465 ?_
        refine tg_top (y := nI ((i) + (3))) (nI_add _ _) ?_
        refine tg_sld hx hb hX hbl hbF (x := (i) + (3)) (by omega) (by omega) dL_law_466 ?_
        rw [eq, ey, ex]
        refine tg_w lw_sw ?_
        refine tg_callV (C := "HangGraphModel") (k := 11) (i := 0) (As := [.int (nI x), .int (nI y), .int (nI q)]) (rest := []) ⟨hx, hb, hml, hown, hts⟩ hK hN hMv (hO.2.1.1 11 (by decide) (by decide) (by decide) (by decide)) rfl rfl rfl (c_mTold0 hO.2.1 hMv hBM x y hx9 hy9 q4 q hq) (cwV 3 hts (lg_V wm_L_73 wi_M_told we_M_told wn_M wc_M_told) rfl rfl rfl ⟨rfl, by decide, by decide, rfl⟩ ⟨(by rw [hR]; exact Nat.le_of_ble_eq_true rfl), (by rw [hR]; exact Nat.le_of_ble_eq_true rfl)⟩) rfl (Nat.le_of_ble_eq_true rfl) ⟨by rw [hR]; show cells + 0 + 0 ≤ 601024; omega, by rw [hR]; show slots + 0 + 0 ≤ 7293034; omega⟩ rfl dL_law_467 (tg_kv rfl rfl ?_)
        refine tg_w lw_sw.symm ?_
        refine tg_istore (L' := [(0, .ref b), (1, .ref (ad 0 0)), (2, .ref (ad 11 0)), (3, .ref (ad 10 0)), (4, .int (nI (i))), (5, .int (nI (0))), (6, .int (nI (mo_tv M (20 * x + y) q)))]) hx hb dL_law_470 (by decide) rfl rfl ?_
        refine tg_aload_n hx hb dL_law_472 rfl rfl ?_
        refine tg_w lw_sw ?_
        refine tg_callV (C := "HangGraphModel") (k := 11) (i := 0) (As := []) (rest := []) ⟨hx, hb, hml, hown, hts⟩ hK hN hMv (hO.2.1.1 11 (by decide) (by decide) (by decide) (by decide)) rfl rfl rfl (c_mThrown hO.2.1) (cwV 0 hts (lg_V wm_L_50 wi_M_thrown we_M_thrown wn_M wc_M_thrown) rfl rfl rfl ⟨rfl, by decide, by decide, rfl⟩ ⟨(by rw [hR]; exact Nat.le_of_ble_eq_true rfl), (by rw [hR]; exact Nat.le_of_ble_eq_true rfl)⟩) rfl (Nat.le_of_ble_eq_true rfl) ⟨by rw [hR]; show cells + 0 + 0 ≤ 601024; omega, by rw [hR]; show slots + 0 + 0 ≤ 7293034; omega⟩ rfl dL_law_473 (tg_kv rfl rfl ?_)
        refine tg_w lw_sw.symm ?_
        refine tg_top (y := nI 0) (by rw [tg_up_self]) ?_
        refine tg_iload hx hb dL_law_476 rfl ?_
        refine tg_icmp_eq (tgt := 483) hx hb dL_law_478 (by decide) (fun q_19 => ?_) (fun q_19 => ?_)
        · have q_19' := q_19
          have h_20 : 0 = 0 := (nI_eq (by omega) (by omega)).mp q_19
          refine tg_iload hx hb dL_law_483 rfl ?_
          refine tg_if_ne (tgt := 500) hx hb dL_law_485 (by decide) (fun q_21 => ?_) (fun q_21 => ?_)
          · have q_21' := q_21
            rw [← nI_0] at q_21
            have h_22 : 0 ≠ 0 := fun z => q_21 ((nI_eq (by omega) (by omega)).mpr z)
            omega
          · have q_21' := q_21
            rw [← nI_0] at q_21
            have h_23 : 0 = 0 := (nI_eq (by omega) (by omega)).mp q_21
            refine tg_aload_n hx hb dL_law_488 rfl rfl ?_
            refine tg_iconst (v := nI 0) hx hb dL_law_489 (by decide +kernel) ?_
            refine tg_lald (t0 := 3) hx hb hK hO.2.2.2.2 lw_W10 rfl (x := 0) (by decide) (by decide) dL_law_490 ?_
            refine tg_st (st' := .long (nI (hg_tv N (20 * x + y) q)).toInt64 :: []) (by rw [va_up_self]) ?_
            refine tg_iload hx hb dL_law_491 rfl ?_
            refine tg_i2l (v := (nI (mo_tv M (20 * x + y) q)).toInt64) hx hb dL_law_493 rfl ?_
            refine tg_lcmp hx hb dL_law_494 ?_
            refine tg_top (y := nI 0) (by rw [htv, lw_cmp, nI_0]) ?_
            refine tg_if_eq (tgt := 500) hx hb dL_law_495 (by decide) (fun q_24 => ?_) (fun q_24 => ?_)
            · have q_24' := q_24
              rw [← nI_0] at q_24
              have h_25 : 0 = 0 := (nI_eq (by omega) (by omega)).mp q_24
              refine tg_goto (tgt := 571) hx hb dL_law_500 (by decide) ?_
              refine tg_sub (L' := [(0, .ref b), (1, .ref (ad 0 0)), (2, .ref (ad 11 0)), (3, .ref (ad 10 0)), (4, .int (nI (i)))]) (fun z8 hz8 => (List.mem_append_left [(5, .int (nI (0))), (6, .int (nI (mo_tv M (20 * x + y) q)))] hz8 : z8 ∈ [(0, .ref b), (1, .ref (ad 0 0)), (2, .ref (ad 11 0)), (3, .ref (ad 10 0)), (4, .int (nI (i)))] ++ [(5, .int (nI (0))), (6, .int (nI (mo_tv M (20 * x + y) q)))])) ?_
              refine tg_widen (k := cells + 2) (n := slots + 35) (by show cells + 0 ≤ cells + 2; omega) (by show slots + 0 ≤ slots + 35; omega) ?_
              exact hn T ad ok G a dr N bc sp (tg_up M 11 0 0) B (va_up f9 0 (nI (hg_tv N (20 * x + y) q)).toInt64) hO (hRR.m0 (M' := (tg_up M 11 0 0)) (fun j hj => mo_col _ _ _ hj) (mo_b0 hBM (by decide))) rfl rfl rfl
            · have q_24' := q_24
              rw [← nI_0] at q_24
              have h_26 : 0 ≠ 0 := fun z => q_24 ((nI_eq (by omega) (by omega)).mpr z)
              omega
        · have q_19' := q_19
          have h_27 : 0 ≠ 0 := fun z => q_19 ((nI_eq (by omega) (by omega)).mpr z)
          omega
set_option maxRecDepth 100000 in
set_option maxHeartbeats 8000000 in
/-- owner -/
theorem s_owner {p : Program} {l : Launch} {e : Env} {R : Room} {s : State} {m : MethodId} {args : Array Value} {below : List Frame} {meth : Method} {c : Code} {Q : State → Prop} {D : va_G} {F : Nat → Prop} {cF cI cZ cJ cA cB : ClassId} {ν : Nat → Nat → va_E} {b L9 : Nat} {xs : Nat → Int32} {x0 x1 x2 i cells slots : Nat} (hx : p.tables.exec = Jvm.exec) (hb : c.code = code) (hml : c.maxLocals = 7) (hl9 : l.stackTraces = false) (hown : s.vm.findClass "HangGraphLaw" = some m.cls) (hts : ∀ w ∈ lw_g, w.before args s = true) (hK : va_K D vwCl (hg_tys cI cF cZ cJ cA cB) s) (hN : hg_N F s s.heap) (hX : va_X b L9 xs s s.heap) (hbl : b < s.heap.size) (hbF : ¬ F b) (hL : L9 ≤ 3584) (hi : i + 7 ≤ L9) (hR : R = room_1) (hcs : cells + 2 ≤ 601024 ∧ slots + 35 ≤ 7293034) (hn : lw_N p l e R s m args below meth c Q D F cF cI cZ cJ cA cB ν b x0 x1 x2 i (cells + 2) (slots + 35) 571) : lw_N p l e R s m args below meth c Q D F cF cI cZ cJ cA cB ν b x0 x1 x2 i cells slots 503 := by
  intro T ad ok G a dr N bc sp M B o hO hRR e0 e1 e2
  subst e0
  subst e1
  subst e2
  have hMv := hg_Mv F
  have hBM := hRR.2.2.2.2.2.2.2.2.2.2.1.2.2.1
  have hBN := hRR.2.2.2.2.2.2.2.2.2.2.1.1
  refine tg_aload_n hx hb dL_law_503 rfl rfl ?_
  refine tg_aload_n hx hb dL_law_504 rfl rfl ?_
  refine tg_iload hx hb dL_law_505 rfl ?_
  refine tg_iconst (v := nI 1) hx hb dL_law_507 (by decide +kernel) ?_
  refine tg_iadd hx hb dL_law_508 ?_
  refine tg_top (y := nI ((i) + (1))) (nI_add _ _) ?_
  refine tg_sld hx hb hX hbl hbF (x := (i) + (1)) (by omega) (by omega) dL_law_509 ?_
  refine tg_aload_n hx hb dL_law_510 rfl rfl ?_
  refine tg_iload hx hb dL_law_511 rfl ?_
  refine tg_iconst (v := nI 2) hx hb dL_law_513 (by decide +kernel) ?_
  refine tg_iadd hx hb dL_law_514 ?_
  refine tg_top (y := nI ((i) + (2))) (nI_add _ _) ?_
  refine tg_sld hx hb hX hbl hbF (x := (i) + (2)) (by omega) (by omega) dL_law_515 ?_
  refine tg_aload_n hx hb dL_law_516 rfl rfl ?_
  by_cases q1 : hg_bC (xs ((i) + (1))) (xs ((i) + (2)))
  · skip
    refine tg_callSX (As := [.ref (ad 0 0), .int (xs ((i) + (1))), .int (xs ((i) + (2))), .ref (ad 10 0)]) (rest := []) ⟨hx, hb, hml, hown, hts⟩ hK hN hMv (l_owner1 _ _ hO.1 rfl (t_owner1 hl9 _ _ q1)) (vx_cwSW 4 hts (lg_SW wm_L_74 wt_L_owner wn_L wgL_owner) rfl rfl rfl ⟨by decide, by decide, rfl⟩ ⟨(by rw [hR]; exact Nat.le_of_ble_eq_true rfl), (by rw [hR]; exact Nat.le_of_ble_eq_true rfl)⟩) rfl (Nat.le_of_ble_eq_true rfl) ⟨by rw [hR]; show cells + 1 ≤ 601024; omega, by rw [hR]; show slots + 6 ≤ 7293034; omega⟩ rfl dL_law_517 ?_
    intro r9 ad9 ok9 w9 ⟨ha9, hok9, hr9, hw9⟩
    subst hr9
    rw [ha9, hok9, hw9]
    refine tg_st (st' := [.int (nI 1)]) rfl ?_
    refine tg_istore (L' := [(0, .ref b), (1, .ref (ad 0 0)), (2, .ref (ad 11 0)), (3, .ref (ad 10 0)), (4, .int (nI (i))), (5, .int (nI (1)))]) hx hb dL_law_520 (by decide) rfl rfl ?_
    refine tg_aload_n hx hb dL_law_522 rfl rfl ?_
    refine tg_aload_n hx hb dL_law_523 rfl rfl ?_
    refine tg_iload hx hb dL_law_524 rfl ?_
    refine tg_iconst (v := nI 1) hx hb dL_law_526 (by decide +kernel) ?_
    refine tg_iadd hx hb dL_law_527 ?_
    refine tg_top (y := nI ((i) + (1))) (nI_add _ _) ?_
    refine tg_sld hx hb hX hbl hbF (x := (i) + (1)) (by omega) (by omega) dL_law_528 ?_
    refine tg_aload_n hx hb dL_law_529 rfl rfl ?_
    refine tg_iload hx hb dL_law_530 rfl ?_
    refine tg_iconst (v := nI 2) hx hb dL_law_532 (by decide +kernel) ?_
    refine tg_iadd hx hb dL_law_533 ?_
    refine tg_top (y := nI ((i) + (2))) (nI_add _ _) ?_
    refine tg_sld hx hb hX hbl hbF (x := (i) + (2)) (by omega) (by omega) dL_law_534 ?_
    refine tg_w lw_sw ?_
    refine tg_callV (C := "HangGraphModel") (k := 11) (i := 0) (As := [.int (xs ((i) + (1))), .int (xs ((i) + (2)))]) (rest := []) ⟨hx, hb, hml, hown, hts⟩ hK hN hMv (hO.2.1.1 11 (by decide) (by decide) (by decide) (by decide)) rfl rfl rfl (c_mOwner21 hO.2.1 hMv _ _ (lw_c1 q1 _ _)) (cwV 2 hts (lg_V wm_L_76 wi_M_owner2 we_M_owner2 wn_M wc_M_owner2) rfl rfl rfl ⟨rfl, by decide, by decide, rfl⟩ ⟨(by rw [hR]; exact Nat.le_of_ble_eq_true rfl), (by rw [hR]; exact Nat.le_of_ble_eq_true rfl)⟩) rfl (Nat.le_of_ble_eq_true rfl) ⟨by rw [hR]; show cells + 1 + 0 ≤ 601024; omega, by rw [hR]; show slots + 6 + 0 ≤ 7293034; omega⟩ rfl dL_law_535 (tg_kv rfl rfl ?_)
    refine tg_w lw_sw.symm ?_
    refine tg_istore (L' := [(0, .ref b), (1, .ref (ad 0 0)), (2, .ref (ad 11 0)), (3, .ref (ad 10 0)), (4, .int (nI (i))), (5, .int (nI (1))), (6, .int (nI (0)))]) hx hb dL_law_538 (by decide) rfl rfl ?_
    refine tg_aload_n hx hb dL_law_540 rfl rfl ?_
    refine tg_w lw_sw ?_
    refine tg_callV (C := "HangGraphModel") (k := 11) (i := 0) (As := []) (rest := []) ⟨hx, hb, hml, hown, hts⟩ hK hN hMv (hO.2.1.1 11 (by decide) (by decide) (by decide) (by decide)) rfl rfl rfl (c_mThrown hO.2.1) (cwV 0 hts (lg_V wm_L_50 wi_M_thrown we_M_thrown wn_M wc_M_thrown) rfl rfl rfl ⟨rfl, by decide, by decide, rfl⟩ ⟨(by rw [hR]; exact Nat.le_of_ble_eq_true rfl), (by rw [hR]; exact Nat.le_of_ble_eq_true rfl)⟩) rfl (Nat.le_of_ble_eq_true rfl) ⟨by rw [hR]; show cells + 1 + 0 ≤ 601024; omega, by rw [hR]; show slots + 6 + 0 ≤ 7293034; omega⟩ rfl dL_law_541 (tg_kv rfl rfl ?_)
    refine tg_w lw_sw.symm ?_
    refine tg_top (y := nI 1) (by rw [tg_up_self]) ?_
    refine tg_iload hx hb dL_law_544 rfl ?_
    refine tg_icmp_eq (tgt := 551) hx hb dL_law_546 (by decide) (fun q_1 => ?_) (fun q_1 => ?_)
    · have q_1' := q_1
      have h_2 : 1 = 1 := (nI_eq (by omega) (by omega)).mp q_1
      refine tg_iload hx hb dL_law_551 rfl ?_
      refine tg_if_ne (tgt := 568) hx hb dL_law_553 (by decide) (fun q_3 => ?_) (fun q_3 => ?_)
      · have q_3' := q_3
        rw [← nI_0] at q_3
        have h_4 : 1 ≠ 0 := fun z => q_3 ((nI_eq (by omega) (by omega)).mpr z)
        refine tg_goto (tgt := 571) hx hb dL_law_568 (by decide) ?_
        refine tg_sub (L' := [(0, .ref b), (1, .ref (ad 0 0)), (2, .ref (ad 11 0)), (3, .ref (ad 10 0)), (4, .int (nI (i)))]) (fun z8 hz8 => (List.mem_append_left [(5, .int (nI (1))), (6, .int (nI (0)))] hz8 : z8 ∈ [(0, .ref b), (1, .ref (ad 0 0)), (2, .ref (ad 11 0)), (3, .ref (ad 10 0)), (4, .int (nI (i)))] ++ [(5, .int (nI (1))), (6, .int (nI (0)))])) ?_
        refine tg_widen (k := cells + 2) (n := slots + 35) (by show cells + 1 ≤ cells + 2; omega) (by show slots + 6 ≤ slots + 35; omega) ?_
        exact hn T ad ok G a dr N bc sp (tg_up (tg_up M 11 0 0) 11 0 1) B o hO (hRR.m0 (M' := (tg_up (tg_up M 11 0 0) 11 0 1)) (fun j hj => by rw [mo_col _ _ _ hj, mo_col _ _ _ hj]) (mo_b0 (mo_b0 hBM (by decide)) (by decide))) rfl rfl rfl
      · have q_3' := q_3
        rw [← nI_0] at q_3
        have h_5 : 1 = 0 := (nI_eq (by omega) (by omega)).mp q_3
        omega
    · have q_1' := q_1
      have h_6 : 1 ≠ 1 := fun z => q_1 ((nI_eq (by omega) (by omega)).mpr z)
      omega
  · obtain ⟨x, y, hx9, hy9, ex, ey⟩ := lw_c0 q1
    by_cases q4 : ∃ f, f < 400 ∧ mo_in M f (20 * x + y)
    · obtain ⟨f, hf4, hfi⟩ := q4
      have hT : T f := hRR.inT hf4 hfi
      have ho : a 0 (20 * x + y) = some (ad 8 f) := (hRR.2.2.2.2.2.2.2.1 _ (by omega)).1 f hf4 hfi
      have hn0 : N 0 f = f := (hRR.2.2.2.1 f hT).1
      rw [ey, ex]
      refine tg_callSX (As := [.ref (ad 0 0), .int (nI x), .int (nI y), .ref (ad 10 0)]) (rest := []) ⟨hx, hb, hml, hown, hts⟩ hK hN hMv (l_owner0 _ _ hO.1 rfl (c_owner1 hO.1 hO.2.2.1 hMv x y hx9 hy9 f hT ho) (fun r ad1 ok1 w1 ⟨h1, h2, h3, h4⟩ => ⟨⟨_, h3⟩, by rw [h2]; exact hO.2.2.2.2, by rw [h1], ⟨o, by rw [h4]; rfl⟩⟩)) (vx_cwSW 4 hts (lg_SW wm_L_74 wt_L_owner wn_L wgL_owner) rfl rfl rfl ⟨by decide, by decide, rfl⟩ ⟨(by rw [hR]; exact Nat.le_of_ble_eq_true rfl), (by rw [hR]; exact Nat.le_of_ble_eq_true rfl)⟩) rfl (Nat.le_of_ble_eq_true rfl) ⟨by rw [hR]; show cells + 0 ≤ 601024; omega, by rw [hR]; show slots + 0 ≤ 7293034; omega⟩ rfl dL_law_517 ?_
      intro r9 ad9 ok9 w9 ⟨hr9, v9, w0, f9, ⟨ha9, hok9, hv9, hw0⟩, hf9, hw9⟩
      subst hr9
      injection hv9 with hv9
      injection hv9 with hv9
      rw [hw9, hw0, ha9, hok9, hv9]
      refine tg_w (w' := (lw_W cF cI cZ cJ cA cB ν ad G a dr N bc sp M B (va_up f9 0 (nI (N 0 f)).toInt64))) (by show tg_up (hg_w _ _ _ _ _ _ _ _ _ (tg_up _ 10 0 _)) 10 0 _ = _; rw [lw_up, tg_uu]; rfl) ?_
      refine tg_st (st' := [.int (nI 0)]) rfl ?_
      refine tg_istore (L' := [(0, .ref b), (1, .ref (ad 0 0)), (2, .ref (ad 11 0)), (3, .ref (ad 10 0)), (4, .int (nI (i))), (5, .int (nI (0)))]) hx hb dL_law_520 (by decide) rfl rfl ?_
      refine tg_aload_n hx hb dL_law_522 rfl rfl ?_
      refine tg_aload_n hx hb dL_law_523 rfl rfl ?_
      refine tg_iload hx hb dL_law_524 rfl ?_
      refine tg_iconst (v := nI 1) hx hb dL_law_526 (by decide +kernel) ?_
      refine tg_iadd hx hb dL_law_527 ?_
      refine tg_top (y := nI ((i) + (1))) (nI_add _ _) ?_
      refine tg_sld hx hb hX hbl hbF (x := (i) + (1)) (by omega) (by omega) dL_law_528 ?_
      refine tg_aload_n hx hb dL_law_529 rfl rfl ?_
      refine tg_iload hx hb dL_law_530 rfl ?_
      refine tg_iconst (v := nI 2) hx hb dL_law_532 (by decide +kernel) ?_
      refine tg_iadd hx hb dL_law_533 ?_
      refine tg_top (y := nI ((i) + (2))) (nI_add _ _) ?_
      refine tg_sld hx hb hX hbl hbF (x := (i) + (2)) (by omega) (by omega) dL_law_534 ?_
      rw [ey, ex]
      refine tg_w lw_sw ?_
      refine tg_callV (C := "HangGraphModel") (k := 11) (i := 0) (As := [.int (nI x), .int (nI y)]) (rest := []) ⟨hx, hb, hml, hown, hts⟩ hK hN hMv (hO.2.1.1 11 (by decide) (by decide) (by decide) (by decide)) rfl rfl rfl (c_mOwner20 hO.2.1 hMv hBM x y hx9 hy9) (cwV 2 hts (lg_V wm_L_76 wi_M_owner2 we_M_owner2 wn_M wc_M_owner2) rfl rfl rfl ⟨rfl, by decide, by decide, rfl⟩ ⟨(by rw [hR]; exact Nat.le_of_ble_eq_true rfl), (by rw [hR]; exact Nat.le_of_ble_eq_true rfl)⟩) rfl (Nat.le_of_ble_eq_true rfl) ⟨by rw [hR]; show cells + 0 + 0 ≤ 601024; omega, by rw [hR]; show slots + 0 + 0 ≤ 7293034; omega⟩ rfl dL_law_535 (tg_kk rfl rfl ?_)
      intro r8 w8 ⟨how, hw8⟩
      subst hw8
      refine tg_w lw_sw.symm ?_
      rcases how with ⟨g, g1, g2, g3, g4⟩ | ⟨g1, g3⟩
      · have eg : g = f := hRR.2.2.1 g f (20 * x + y) g1 hf4 g2 hfi
        subst g3
        rw [eg]
        refine tg_st (st' := [.int (nI f)]) rfl ?_
        refine tg_istore (L' := [(0, .ref b), (1, .ref (ad 0 0)), (2, .ref (ad 11 0)), (3, .ref (ad 10 0)), (4, .int (nI (i))), (5, .int (nI (0))), (6, .int (nI (f)))]) hx hb dL_law_538 (by decide) rfl rfl ?_
        refine tg_aload_n hx hb dL_law_540 rfl rfl ?_
        refine tg_w lw_sw ?_
        refine tg_callV (C := "HangGraphModel") (k := 11) (i := 0) (As := []) (rest := []) ⟨hx, hb, hml, hown, hts⟩ hK hN hMv (hO.2.1.1 11 (by decide) (by decide) (by decide) (by decide)) rfl rfl rfl (c_mThrown hO.2.1) (cwV 0 hts (lg_V wm_L_50 wi_M_thrown we_M_thrown wn_M wc_M_thrown) rfl rfl rfl ⟨rfl, by decide, by decide, rfl⟩ ⟨(by rw [hR]; exact Nat.le_of_ble_eq_true rfl), (by rw [hR]; exact Nat.le_of_ble_eq_true rfl)⟩) rfl (Nat.le_of_ble_eq_true rfl) ⟨by rw [hR]; show cells + 0 + 0 ≤ 601024; omega, by rw [hR]; show slots + 0 + 0 ≤ 7293034; omega⟩ rfl dL_law_541 (tg_kv rfl rfl ?_)
        refine tg_w lw_sw.symm ?_
        refine tg_top (y := nI 0) (by rw [tg_up_self]) ?_
        refine tg_iload hx hb dL_law_544 rfl ?_
        refine tg_icmp_eq (tgt := 551) hx hb dL_law_546 (by decide) (fun q_7 => ?_) (fun q_7 => ?_)
        · have q_7' := q_7
          have h_8 : 0 = 0 := (nI_eq (by omega) (by omega)).mp q_7
          refine tg_iload hx hb dL_law_551 rfl ?_
          refine tg_if_ne (tgt := 568) hx hb dL_law_553 (by decide) (fun q_9 => ?_) (fun q_9 => ?_)
          · have q_9' := q_9
            rw [← nI_0] at q_9
            have h_10 : 0 ≠ 0 := fun z => q_9 ((nI_eq (by omega) (by omega)).mpr z)
            omega
          · have q_9' := q_9
            rw [← nI_0] at q_9
            have h_11 : 0 = 0 := (nI_eq (by omega) (by omega)).mp q_9
            refine tg_aload_n hx hb dL_law_556 rfl rfl ?_
            refine tg_iconst (v := nI 0) hx hb dL_law_557 (by decide +kernel) ?_
            refine tg_lald (t0 := 3) hx hb hK hO.2.2.2.2 lw_W10 rfl (x := 0) (by decide) (by decide) dL_law_558 ?_
            refine tg_st (st' := .long (nI (N 0 f)).toInt64 :: []) (by rw [va_up_self]) ?_
            refine tg_iload hx hb dL_law_559 rfl ?_
            refine tg_i2l (v := (nI (f)).toInt64) hx hb dL_law_561 rfl ?_
            refine tg_lcmp hx hb dL_law_562 ?_
            refine tg_top (y := nI 0) (by rw [hn0, lw_cmp, nI_0]) ?_
            refine tg_if_eq (tgt := 568) hx hb dL_law_563 (by decide) (fun q_12 => ?_) (fun q_12 => ?_)
            · have q_12' := q_12
              rw [← nI_0] at q_12
              have h_13 : 0 = 0 := (nI_eq (by omega) (by omega)).mp q_12
              refine tg_goto (tgt := 571) hx hb dL_law_568 (by decide) ?_
              refine tg_sub (L' := [(0, .ref b), (1, .ref (ad 0 0)), (2, .ref (ad 11 0)), (3, .ref (ad 10 0)), (4, .int (nI (i)))]) (fun z8 hz8 => (List.mem_append_left [(5, .int (nI (0))), (6, .int (nI (f)))] hz8 : z8 ∈ [(0, .ref b), (1, .ref (ad 0 0)), (2, .ref (ad 11 0)), (3, .ref (ad 10 0)), (4, .int (nI (i)))] ++ [(5, .int (nI (0))), (6, .int (nI (f)))])) ?_
              refine tg_widen (k := cells + 2) (n := slots + 35) (by show cells + 0 ≤ cells + 2; omega) (by show slots + 0 ≤ slots + 35; omega) ?_
              exact hn T ad ok G a dr N bc sp (tg_up M 11 0 0) B (va_up f9 0 (nI (N 0 f)).toInt64) hO (hRR.m0 (M' := (tg_up M 11 0 0)) (fun j hj => mo_col _ _ _ hj) (mo_b0 hBM (by decide))) rfl rfl rfl
            · have q_12' := q_12
              rw [← nI_0] at q_12
              have h_14 : 0 ≠ 0 := fun z => q_12 ((nI_eq (by omega) (by omega)).mpr z)
              omega
        · have q_7' := q_7
          have h_15 : 0 ≠ 0 := fun z => q_7 ((nI_eq (by omega) (by omega)).mpr z)
          omega
      · exact absurd hfi (g1 f hf4)
    · have ho : a 0 (20 * x + y) = none := (hRR.2.2.2.2.2.2.2.1 _ (by omega)).2 (fun f hf z => q4 ⟨f, hf, z⟩)
      rw [ey, ex]
      refine tg_callSX (As := [.ref (ad 0 0), .int (nI x), .int (nI y), .ref (ad 10 0)]) (rest := []) ⟨hx, hb, hml, hown, hts⟩ hK hN hMv (l_owner0 _ _ hO.1 rfl (c_owner0 hO.1 hMv x y hx9 hy9 ho) (fun r ad1 ok1 w1 ⟨h1, h2, h3, h4⟩ => ⟨⟨_, h3⟩, by rw [h2]; exact hO.2.2.2.2, by rw [h1], ⟨o, by rw [h4]; rfl⟩⟩)) (vx_cwSW 4 hts (lg_SW wm_L_74 wt_L_owner wn_L wgL_owner) rfl rfl rfl ⟨by decide, by decide, rfl⟩ ⟨(by rw [hR]; exact Nat.le_of_ble_eq_true rfl), (by rw [hR]; exact Nat.le_of_ble_eq_true rfl)⟩) rfl (Nat.le_of_ble_eq_true rfl) ⟨by rw [hR]; show cells + 0 ≤ 601024; omega, by rw [hR]; show slots + 0 ≤ 7293034; omega⟩ rfl dL_law_517 ?_
      intro r9 ad9 ok9 w9 ⟨hr9, v9, w0, f9, ⟨ha9, hok9, hv9, hw0⟩, hf9, hw9⟩
      subst hr9
      injection hv9 with hv9
      injection hv9 with hv9
      rw [hw9, hw0, ha9, hok9, hv9]
      refine tg_w (w' := (lw_W cF cI cZ cJ cA cB ν ad G a dr N bc sp M B (va_up f9 0 ((-1 : Int32)).toInt64))) (by show tg_up (hg_w _ _ _ _ _ _ _ _ _ (tg_up _ 10 0 _)) 10 0 _ = _; rw [lw_up, tg_uu]; rfl) ?_
      refine tg_st (st' := [.int (nI 0)]) rfl ?_
      refine tg_istore (L' := [(0, .ref b), (1, .ref (ad 0 0)), (2, .ref (ad 11 0)), (3, .ref (ad 10 0)), (4, .int (nI (i))), (5, .int (nI (0)))]) hx hb dL_law_520 (by decide) rfl rfl ?_
      refine tg_aload_n hx hb dL_law_522 rfl rfl ?_
      refine tg_aload_n hx hb dL_law_523 rfl rfl ?_
      refine tg_iload hx hb dL_law_524 rfl ?_
      refine tg_iconst (v := nI 1) hx hb dL_law_526 (by decide +kernel) ?_
      refine tg_iadd hx hb dL_law_527 ?_
      refine tg_top (y := nI ((i) + (1))) (nI_add _ _) ?_
      refine tg_sld hx hb hX hbl hbF (x := (i) + (1)) (by omega) (by omega) dL_law_528 ?_
      refine tg_aload_n hx hb dL_law_529 rfl rfl ?_
      refine tg_iload hx hb dL_law_530 rfl ?_
      refine tg_iconst (v := nI 2) hx hb dL_law_532 (by decide +kernel) ?_
      refine tg_iadd hx hb dL_law_533 ?_
      refine tg_top (y := nI ((i) + (2))) (nI_add _ _) ?_
      refine tg_sld hx hb hX hbl hbF (x := (i) + (2)) (by omega) (by omega) dL_law_534 ?_
      rw [ey, ex]
      refine tg_w lw_sw ?_
      refine tg_callV (C := "HangGraphModel") (k := 11) (i := 0) (As := [.int (nI x), .int (nI y)]) (rest := []) ⟨hx, hb, hml, hown, hts⟩ hK hN hMv (hO.2.1.1 11 (by decide) (by decide) (by decide) (by decide)) rfl rfl rfl (c_mOwner20 hO.2.1 hMv hBM x y hx9 hy9) (cwV 2 hts (lg_V wm_L_76 wi_M_owner2 we_M_owner2 wn_M wc_M_owner2) rfl rfl rfl ⟨rfl, by decide, by decide, rfl⟩ ⟨(by rw [hR]; exact Nat.le_of_ble_eq_true rfl), (by rw [hR]; exact Nat.le_of_ble_eq_true rfl)⟩) rfl (Nat.le_of_ble_eq_true rfl) ⟨by rw [hR]; show cells + 0 + 0 ≤ 601024; omega, by rw [hR]; show slots + 0 + 0 ≤ 7293034; omega⟩ rfl dL_law_535 (tg_kk rfl rfl ?_)
      intro r8 w8 ⟨how, hw8⟩
      subst hw8
      refine tg_w lw_sw.symm ?_
      rcases how with ⟨g, g1, g2, g3, g4⟩ | ⟨g1, g3⟩
      · exact absurd ⟨g, g1, g2⟩ q4
      · subst g3
        refine tg_st (st' := [.int (-1)]) rfl ?_
        refine tg_istore (L' := [(0, .ref b), (1, .ref (ad 0 0)), (2, .ref (ad 11 0)), (3, .ref (ad 10 0)), (4, .int (nI (i))), (5, .int (nI (0))), (6, .int ((-1 : Int32)))]) hx hb dL_law_538 (by decide) rfl rfl ?_
        refine tg_aload_n hx hb dL_law_540 rfl rfl ?_
        refine tg_w lw_sw ?_
        refine tg_callV (C := "HangGraphModel") (k := 11) (i := 0) (As := []) (rest := []) ⟨hx, hb, hml, hown, hts⟩ hK hN hMv (hO.2.1.1 11 (by decide) (by decide) (by decide) (by decide)) rfl rfl rfl (c_mThrown hO.2.1) (cwV 0 hts (lg_V wm_L_50 wi_M_thrown we_M_thrown wn_M wc_M_thrown) rfl rfl rfl ⟨rfl, by decide, by decide, rfl⟩ ⟨(by rw [hR]; exact Nat.le_of_ble_eq_true rfl), (by rw [hR]; exact Nat.le_of_ble_eq_true rfl)⟩) rfl (Nat.le_of_ble_eq_true rfl) ⟨by rw [hR]; show cells + 0 + 0 ≤ 601024; omega, by rw [hR]; show slots + 0 + 0 ≤ 7293034; omega⟩ rfl dL_law_541 (tg_kv rfl rfl ?_)
        refine tg_w lw_sw.symm ?_
        refine tg_top (y := nI 0) (by rw [tg_up_self]) ?_
        refine tg_iload hx hb dL_law_544 rfl ?_
        refine tg_icmp_eq (tgt := 551) hx hb dL_law_546 (by decide) (fun q_16 => ?_) (fun q_16 => ?_)
        · have q_16' := q_16
          have h_17 : 0 = 0 := (nI_eq (by omega) (by omega)).mp q_16
          refine tg_iload hx hb dL_law_551 rfl ?_
          refine tg_if_ne (tgt := 568) hx hb dL_law_553 (by decide) (fun q_18 => ?_) (fun q_18 => ?_)
          · have q_18' := q_18
            rw [← nI_0] at q_18
            have h_19 : 0 ≠ 0 := fun z => q_18 ((nI_eq (by omega) (by omega)).mpr z)
            omega
          · have q_18' := q_18
            rw [← nI_0] at q_18
            have h_20 : 0 = 0 := (nI_eq (by omega) (by omega)).mp q_18
            refine tg_aload_n hx hb dL_law_556 rfl rfl ?_
            refine tg_iconst (v := nI 0) hx hb dL_law_557 (by decide +kernel) ?_
            refine tg_lald (t0 := 3) hx hb hK hO.2.2.2.2 lw_W10 rfl (x := 0) (by decide) (by decide) dL_law_558 ?_
            refine tg_st (st' := .long ((-1 : Int32)).toInt64 :: []) (by rw [va_up_self]) ?_
            refine tg_iload hx hb dL_law_559 rfl ?_
            refine tg_i2l (v := ((-1 : Int32)).toInt64) hx hb dL_law_561 rfl ?_
            refine tg_lcmp hx hb dL_law_562 ?_
            refine tg_top (y := nI 0) (by rw [show (-1 : Int32) = (-1 : Int32) from rfl, lw_cmp, nI_0]) ?_
            refine tg_if_eq (tgt := 568) hx hb dL_law_563 (by decide) (fun q_21 => ?_) (fun q_21 => ?_)
            · have q_21' := q_21
              rw [← nI_0] at q_21
              have h_22 : 0 = 0 := (nI_eq (by omega) (by omega)).mp q_21
              refine tg_goto (tgt := 571) hx hb dL_law_568 (by decide) ?_
              refine tg_sub (L' := [(0, .ref b), (1, .ref (ad 0 0)), (2, .ref (ad 11 0)), (3, .ref (ad 10 0)), (4, .int (nI (i)))]) (fun z8 hz8 => (List.mem_append_left [(5, .int (nI (0))), (6, .int ((-1 : Int32)))] hz8 : z8 ∈ [(0, .ref b), (1, .ref (ad 0 0)), (2, .ref (ad 11 0)), (3, .ref (ad 10 0)), (4, .int (nI (i)))] ++ [(5, .int (nI (0))), (6, .int ((-1 : Int32)))])) ?_
              refine tg_widen (k := cells + 2) (n := slots + 35) (by show cells + 0 ≤ cells + 2; omega) (by show slots + 0 ≤ slots + 35; omega) ?_
              exact hn T ad ok G a dr N bc sp (tg_up M 11 0 0) B (va_up f9 0 ((-1 : Int32)).toInt64) hO (hRR.m0 (M' := (tg_up M 11 0 0)) (fun j hj => mo_col _ _ _ hj) (mo_b0 hBM (by decide))) rfl rfl rfl
            · have q_21' := q_21
              rw [← nI_0] at q_21
              have h_23 : 0 ≠ 0 := fun z => q_21 ((nI_eq (by omega) (by omega)).mpr z)
              omega
        · have q_16' := q_16
          have h_24 : 0 ≠ 0 := fun z => q_16 ((nI_eq (by omega) (by omega)).mpr z)
          omega
set_option maxRecDepth 100000 in
set_option maxHeartbeats 8000000 in
/-- spread -/
theorem s_spread {p : Program} {l : Launch} {e : Env} {R : Room} {s : State} {m : MethodId} {args : Array Value} {below : List Frame} {meth : Method} {c : Code} {Q : State → Prop} {D : va_G} {F : Nat → Prop} {cF cI cZ cJ cA cB : ClassId} {ν : Nat → Nat → va_E} {b L9 : Nat} {xs : Nat → Int32} {x0 x1 x2 i cells slots : Nat} (hx : p.tables.exec = Jvm.exec) (hb : c.code = code) (hml : c.maxLocals = 7) (hl9 : l.stackTraces = false) (hown : s.vm.findClass "HangGraphLaw" = some m.cls) (hts : ∀ w ∈ lw_g, w.before args s = true) (hK : va_K D vwCl (hg_tys cI cF cZ cJ cA cB) s) (hN : hg_N F s s.heap) (hX : va_X b L9 xs s s.heap) (hbl : b < s.heap.size) (hbF : ¬ F b) (hL : L9 ≤ 3584) (hi : i + 7 ≤ L9) (hR : R = room_1) (hcs : cells + 2 ≤ 601024 ∧ slots + 35 ≤ 7293034) (hn : lw_N p l e R s m args below meth c Q D F cF cI cZ cJ cA cB ν b x0 x1 x2 i (cells + 2) (slots + 35) 571) : lw_N p l e R s m args below meth c Q D F cF cI cZ cJ cA cB ν b x0 x1 x2 i cells slots 410 := by
  intro T ad ok G a dr N bc sp M B o hO hRR e0 e1 e2
  subst e0
  subst e1
  subst e2
  have hMv := hg_Mv F
  have hBM := hRR.2.2.2.2.2.2.2.2.2.2.1.2.2.1
  have hBN := hRR.2.2.2.2.2.2.2.2.2.2.1.1
  refine tg_aload_n hx hb dL_law_410 rfl rfl ?_
  refine tg_callV (C := "HangGraph") (k := 0) (i := 0) (As := []) (rest := []) ⟨hx, hb, hml, hown, hts⟩ hK hN hMv (hO.1.1 0 (by decide)) rfl rfl rfl (c_spread hO.1 hO.2.2.1 hMv hBN hRR.2.2.2.2.2.2.2.2.2.2.1.2.1 hRR.hov hRR.hself hRR.2.2.2.2.2.2.2.2.2.2.2 (fun u hu => ⟨(hRR.dims hu).1, (hRR.dims hu).2.1⟩)) (cwV 0 hts (lg_V wm_L_66 wi_H_spread we_H_spread wn_H wc_H_spread) rfl rfl rfl ⟨rfl, by decide, by decide, rfl⟩ ⟨(by rw [hR]; exact Nat.le_of_ble_eq_true rfl), (by rw [hR]; exact Nat.le_of_ble_eq_true rfl)⟩) rfl (Nat.le_of_ble_eq_true rfl) ⟨by rw [hR]; show cells + 0 ≤ 601024; omega, by rw [hR]; show slots + 0 ≤ 7293034; omega⟩ rfl dL_law_411 (tg_kk rfl rfl ?_)
  intro r9 w9 ⟨G9, a9, N9, hr9, hw9, hsp9⟩
  subst hr9
  subst hw9
  refine tg_w (w' := (lw_W cF cI cZ cJ cA cB ν ad G9 a9 (hg_z dr 20) N9 bc sp M B o)) rfl ?_
  refine tg_st (st' := [.int (nI (G9 2))]) rfl ?_
  refine tg_aload_n hx hb dL_law_414 rfl rfl ?_
  refine tg_w lw_sw ?_
  refine tg_callV (C := "HangGraphModel") (k := 11) (i := 0) (As := []) (rest := [.int (nI (G9 2))]) ⟨hx, hb, hml, hown, hts⟩ hK hN hMv (hO.2.1.1 11 (by decide) (by decide) (by decide) (by decide)) rfl rfl rfl (c_mSpread hO.2.1 hMv hBM hRR.2.2.2.2.2.2.2.2.2.2.1.2.2.2 (fun u _ => hRR.2.2.2.2.1 u) hRR.2.2.1) (cwV 0 hts (lg_V wm_L_69 wi_M_spread we_M_spread wn_M wc_M_spread) rfl rfl rfl ⟨rfl, by decide, by decide, rfl⟩ ⟨(by rw [hR]; exact Nat.le_of_ble_eq_true rfl), (by rw [hR]; exact Nat.le_of_ble_eq_true rfl)⟩) rfl (Nat.le_of_ble_eq_true rfl) ⟨by rw [hR]; show cells + 0 ≤ 601024; omega, by rw [hR]; show slots + 0 ≤ 7293034; omega⟩ rfl dL_law_415 (tg_kk rfl rfl ?_)
  intro r8 w8 ⟨M9, B9, hr8, hw8, hsp8⟩
  subst hr8
  subst hw8
  refine tg_w lw_sw.symm ?_
  obtain ⟨hR2, hG2⟩ := hRR.spread hsp9 hsp8
  have hcb := hg_cn_bd (fun u => M9 19 u ≠ 0) 400
  refine tg_st (st' := [.int (nI (hg_cn (fun u => M9 19 u ≠ 0) 400)), .int (nI (hg_cn (fun u => M9 19 u ≠ 0) 400))]) (by rw [hG2]; rfl) ?_
  refine tg_icmp_eq (tgt := 571) hx hb dL_law_418 (by decide) (fun q_1 => ?_) (fun q_1 => ?_)
  · have q_1' := q_1
    have h_2 : hg_cn (fun u => M9 19 u ≠ 0) 400 = hg_cn (fun u => M9 19 u ≠ 0) 400 := (nI_eq (by omega) (by omega)).mp q_1
    refine tg_widen (k := cells + 2) (n := slots + 35) (by show cells ≤ cells + 2; omega) (by show slots ≤ slots + 35; omega) ?_
    exact hn T ad ok G9 a9 (hg_z dr 20) N9 bc sp M9 B9 o hO hR2 rfl rfl rfl
  · have q_1' := q_1
    have h_3 : hg_cn (fun u => M9 19 u ≠ 0) 400 ≠ hg_cn (fun u => M9 19 u ≠ 0) 400 := fun z => q_1 ((nI_eq (by omega) (by omega)).mpr z)
    exact absurd rfl h_3
set_option maxRecDepth 100000 in
set_option maxHeartbeats 8000000 in
/-- put -/
theorem s_put {p : Program} {l : Launch} {e : Env} {R : Room} {s : State} {m : MethodId} {args : Array Value} {below : List Frame} {meth : Method} {c : Code} {Q : State → Prop} {D : va_G} {F : Nat → Prop} {cF cI cZ cJ cA cB : ClassId} {ν : Nat → Nat → va_E} {b L9 : Nat} {xs : Nat → Int32} {x0 x1 x2 i cells slots : Nat} (hx : p.tables.exec = Jvm.exec) (hb : c.code = code) (hml : c.maxLocals = 7) (hl9 : l.stackTraces = false) (hown : s.vm.findClass "HangGraphLaw" = some m.cls) (hts : ∀ w ∈ lw_g, w.before args s = true) (hK : va_K D vwCl (hg_tys cI cF cZ cJ cA cB) s) (hN : hg_N F s s.heap) (hX : va_X b L9 xs s s.heap) (hbl : b < s.heap.size) (hbF : ¬ F b) (hL : L9 ≤ 3584) (hi : i + 7 ≤ L9) (hR : R = room_1) (hcs : cells + 2 ≤ 601024 ∧ slots + 35 ≤ 7293034) (hn : lw_N p l e R s m args below meth c Q D F cF cI cZ cJ cA cB ν b x0 x1 x2 i (cells + 2) (slots + 35) 571) : lw_N p l e R s m args below meth c Q D F cF cI cZ cJ cA cB ν b x0 x1 x2 i cells slots 84 := by
  intro T ad ok G a dr N bc sp M B o hO hRR e0 e1 e2
  subst e0
  subst e1
  subst e2
  have hMv := hg_Mv F
  have hBM := hRR.2.2.2.2.2.2.2.2.2.2.1.2.2.1
  have hBN := hRR.2.2.2.2.2.2.2.2.2.2.1.1
  refine tg_aload_n hx hb dL_law_84 rfl rfl ?_
  refine tg_aload_n hx hb dL_law_85 rfl rfl ?_
  refine tg_iload hx hb dL_law_86 rfl ?_
  refine tg_iconst (v := nI 1) hx hb dL_law_88 (by decide +kernel) ?_
  refine tg_iadd hx hb dL_law_89 ?_
  refine tg_top (y := nI ((i) + (1))) (nI_add _ _) ?_
  refine tg_sld hx hb hX hbl hbF (x := (i) + (1)) (by omega) (by omega) dL_law_90 ?_
  refine tg_aload_n hx hb dL_law_91 rfl rfl ?_
  refine tg_iload hx hb dL_law_92 rfl ?_
  refine tg_iconst (v := nI 2) hx hb dL_law_94 (by decide +kernel) ?_
  refine tg_iadd hx hb dL_law_95 ?_
  refine tg_top (y := nI ((i) + (2))) (nI_add _ _) ?_
  refine tg_sld hx hb hX hbl hbF (x := (i) + (2)) (by omega) (by omega) dL_law_96 ?_
  refine tg_aload_n hx hb dL_law_97 rfl rfl ?_
  refine tg_iload hx hb dL_law_98 rfl ?_
  refine tg_iconst (v := nI 3) hx hb dL_law_100 (by decide +kernel) ?_
  refine tg_iadd hx hb dL_law_101 ?_
  refine tg_top (y := nI ((i) + (3))) (nI_add _ _) ?_
  refine tg_sld hx hb hX hbl hbF (x := (i) + (3)) (by omega) (by omega) dL_law_102 ?_
  refine tg_aload_n hx hb dL_law_103 rfl rfl ?_
  refine tg_iload hx hb dL_law_104 rfl ?_
  refine tg_iconst (v := nI 4) hx hb dL_law_106 (by decide +kernel) ?_
  refine tg_iadd hx hb dL_law_107 ?_
  refine tg_top (y := nI ((i) + (4))) (nI_add _ _) ?_
  refine tg_sld hx hb hX hbl hbF (x := (i) + (4)) (by omega) (by omega) dL_law_108 ?_
  refine tg_aload_n hx hb dL_law_109 rfl rfl ?_
  by_cases q1 : hg_bC (xs ((i) + (1))) (xs ((i) + (2)))
  · skip
    refine tg_callSX (As := [.ref (ad 0 0), .int (xs ((i) + (1))), .int (xs ((i) + (2))), .int (xs ((i) + (3))), .int (xs ((i) + (4))), .ref (ad 10 0)]) (rest := []) ⟨hx, hb, hml, hown, hts⟩ hK hN hMv (l_put1 _ _ _ _ hO.1 rfl (t_put1 hl9 _ _ q1 _ _)) (vx_cwSW 6 hts (lg_SW wm_L_44 wt_L_put wn_L wgL_put) rfl rfl rfl ⟨by decide, by decide, rfl⟩ ⟨(by rw [hR]; exact Nat.le_of_ble_eq_true rfl), (by rw [hR]; exact Nat.le_of_ble_eq_true rfl)⟩) rfl (Nat.le_of_ble_eq_true rfl) ⟨by rw [hR]; show cells + 1 ≤ 601024; omega, by rw [hR]; show slots + 6 ≤ 7293034; omega⟩ rfl dL_law_110 ?_
    intro r9 ad9 ok9 w9 ⟨ha9, hok9, hr9, hw9⟩
    subst hr9
    rw [ha9, hok9, hw9]
    refine tg_st (st' := [.int (nI 1)]) rfl ?_
    refine tg_istore (L' := [(0, .ref b), (1, .ref (ad 0 0)), (2, .ref (ad 11 0)), (3, .ref (ad 10 0)), (4, .int (nI (i))), (5, .int (nI (1)))]) hx hb dL_law_113 (by decide) rfl rfl ?_
    refine tg_aload_n hx hb dL_law_115 rfl rfl ?_
    refine tg_aload_n hx hb dL_law_116 rfl rfl ?_
    refine tg_iload hx hb dL_law_117 rfl ?_
    refine tg_iconst (v := nI 1) hx hb dL_law_119 (by decide +kernel) ?_
    refine tg_iadd hx hb dL_law_120 ?_
    refine tg_top (y := nI ((i) + (1))) (nI_add _ _) ?_
    refine tg_sld hx hb hX hbl hbF (x := (i) + (1)) (by omega) (by omega) dL_law_121 ?_
    refine tg_aload_n hx hb dL_law_122 rfl rfl ?_
    refine tg_iload hx hb dL_law_123 rfl ?_
    refine tg_iconst (v := nI 2) hx hb dL_law_125 (by decide +kernel) ?_
    refine tg_iadd hx hb dL_law_126 ?_
    refine tg_top (y := nI ((i) + (2))) (nI_add _ _) ?_
    refine tg_sld hx hb hX hbl hbF (x := (i) + (2)) (by omega) (by omega) dL_law_127 ?_
    refine tg_aload_n hx hb dL_law_128 rfl rfl ?_
    refine tg_iload hx hb dL_law_129 rfl ?_
    refine tg_iconst (v := nI 3) hx hb dL_law_131 (by decide +kernel) ?_
    refine tg_iadd hx hb dL_law_132 ?_
    refine tg_top (y := nI ((i) + (3))) (nI_add _ _) ?_
    refine tg_sld hx hb hX hbl hbF (x := (i) + (3)) (by omega) (by omega) dL_law_133 ?_
    refine tg_aload_n hx hb dL_law_134 rfl rfl ?_
    refine tg_iload hx hb dL_law_135 rfl ?_
    refine tg_iconst (v := nI 4) hx hb dL_law_137 (by decide +kernel) ?_
    refine tg_iadd hx hb dL_law_138 ?_
    refine tg_top (y := nI ((i) + (4))) (nI_add _ _) ?_
    refine tg_sld hx hb hX hbl hbF (x := (i) + (4)) (by omega) (by omega) dL_law_139 ?_
    refine tg_w lw_sw ?_
    refine tg_callV (C := "HangGraphModel") (k := 11) (i := 0) (As := [.int (xs ((i) + (1))), .int (xs ((i) + (2))), .int (xs ((i) + (3))), .int (xs ((i) + (4)))]) (rest := []) ⟨hx, hb, hml, hown, hts⟩ hK hN hMv (hO.2.1.1 11 (by decide) (by decide) (by decide) (by decide)) rfl rfl rfl (c_mPut1 hO.2.1 hMv _ _ _ _ (lw_c1 q1 _ _)) (cwV 4 hts (lg_V wm_L_49 wi_M_put we_M_put wn_M wc_M_put) rfl rfl rfl ⟨rfl, by decide, by decide, rfl⟩ ⟨(by rw [hR]; exact Nat.le_of_ble_eq_true rfl), (by rw [hR]; exact Nat.le_of_ble_eq_true rfl)⟩) rfl (Nat.le_of_ble_eq_true rfl) ⟨by rw [hR]; show cells + 1 + 0 ≤ 601024; omega, by rw [hR]; show slots + 6 + 0 ≤ 7293034; omega⟩ rfl dL_law_140 (tg_kv rfl rfl ?_)
    refine tg_w lw_sw.symm ?_
    refine tg_istore (L' := [(0, .ref b), (1, .ref (ad 0 0)), (2, .ref (ad 11 0)), (3, .ref (ad 10 0)), (4, .int (nI (i))), (5, .int (nI (1))), (6, .int (nI (0)))]) hx hb dL_law_143 (by decide) rfl rfl ?_
    refine tg_aload_n hx hb dL_law_145 rfl rfl ?_
    refine tg_w lw_sw ?_
    refine tg_callV (C := "HangGraphModel") (k := 11) (i := 0) (As := []) (rest := []) ⟨hx, hb, hml, hown, hts⟩ hK hN hMv (hO.2.1.1 11 (by decide) (by decide) (by decide) (by decide)) rfl rfl rfl (c_mThrown hO.2.1) (cwV 0 hts (lg_V wm_L_50 wi_M_thrown we_M_thrown wn_M wc_M_thrown) rfl rfl rfl ⟨rfl, by decide, by decide, rfl⟩ ⟨(by rw [hR]; exact Nat.le_of_ble_eq_true rfl), (by rw [hR]; exact Nat.le_of_ble_eq_true rfl)⟩) rfl (Nat.le_of_ble_eq_true rfl) ⟨by rw [hR]; show cells + 1 + 0 ≤ 601024; omega, by rw [hR]; show slots + 6 + 0 ≤ 7293034; omega⟩ rfl dL_law_146 (tg_kv rfl rfl ?_)
    refine tg_w lw_sw.symm ?_
    refine tg_top (y := nI 1) (by rw [tg_up_self]) ?_
    refine tg_iload hx hb dL_law_149 rfl ?_
    refine tg_icmp_eq (tgt := 156) hx hb dL_law_151 (by decide) (fun q_1 => ?_) (fun q_1 => ?_)
    · have q_1' := q_1
      have h_2 : 1 = 1 := (nI_eq (by omega) (by omega)).mp q_1
      refine tg_iload hx hb dL_law_156 rfl ?_
      refine tg_if_ne (tgt := 173) hx hb dL_law_158 (by decide) (fun q_3 => ?_) (fun q_3 => ?_)
      · have q_3' := q_3
        rw [← nI_0] at q_3
        have h_4 : 1 ≠ 0 := fun z => q_3 ((nI_eq (by omega) (by omega)).mpr z)
        refine tg_goto (tgt := 571) hx hb dL_law_173 (by decide) ?_
        refine tg_sub (L' := [(0, .ref b), (1, .ref (ad 0 0)), (2, .ref (ad 11 0)), (3, .ref (ad 10 0)), (4, .int (nI (i)))]) (fun z8 hz8 => (List.mem_append_left [(5, .int (nI (1))), (6, .int (nI (0)))] hz8 : z8 ∈ [(0, .ref b), (1, .ref (ad 0 0)), (2, .ref (ad 11 0)), (3, .ref (ad 10 0)), (4, .int (nI (i)))] ++ [(5, .int (nI (1))), (6, .int (nI (0)))])) ?_
        refine tg_widen (k := cells + 2) (n := slots + 35) (by show cells + 1 ≤ cells + 2; omega) (by show slots + 6 ≤ slots + 35; omega) ?_
        exact hn T ad ok G a dr N bc sp (tg_up (tg_up M 11 0 0) 11 0 1) B o hO (hRR.m0 (M' := (tg_up (tg_up M 11 0 0) 11 0 1)) (fun j hj => by rw [mo_col _ _ _ hj, mo_col _ _ _ hj]) (mo_b0 (mo_b0 hBM (by decide)) (by decide))) rfl rfl rfl
      · have q_3' := q_3
        rw [← nI_0] at q_3
        have h_5 : 1 = 0 := (nI_eq (by omega) (by omega)).mp q_3
        omega
    · have q_1' := q_1
      have h_6 : 1 ≠ 1 := fun z => q_1 ((nI_eq (by omega) (by omega)).mpr z)
      omega
  · obtain ⟨x, y, hx9, hy9, ex, ey⟩ := lw_c0 q1
    by_cases q2 : hg_bF x (xs ((i) + (3)))
    · skip
      rw [ey, ex]
      refine tg_callSX (As := [.ref (ad 0 0), .int (nI x), .int (nI y), .int (xs ((i) + (3))), .int (xs ((i) + (4))), .ref (ad 10 0)]) (rest := []) ⟨hx, hb, hml, hown, hts⟩ hK hN hMv (l_put1 _ _ _ _ hO.1 rfl (t_put2 hl9 x y hx9 hy9 _ q2 _)) (vx_cwSW 6 hts (lg_SW wm_L_44 wt_L_put wn_L wgL_put) rfl rfl rfl ⟨by decide, by decide, rfl⟩ ⟨(by rw [hR]; exact Nat.le_of_ble_eq_true rfl), (by rw [hR]; exact Nat.le_of_ble_eq_true rfl)⟩) rfl (Nat.le_of_ble_eq_true rfl) ⟨by rw [hR]; show cells + 1 ≤ 601024; omega, by rw [hR]; show slots + 6 ≤ 7293034; omega⟩ rfl dL_law_110 ?_
      intro r9 ad9 ok9 w9 ⟨ha9, hok9, hr9, hw9⟩
      subst hr9
      rw [ha9, hok9, hw9]
      refine tg_st (st' := [.int (nI 1)]) rfl ?_
      refine tg_istore (L' := [(0, .ref b), (1, .ref (ad 0 0)), (2, .ref (ad 11 0)), (3, .ref (ad 10 0)), (4, .int (nI (i))), (5, .int (nI (1)))]) hx hb dL_law_113 (by decide) rfl rfl ?_
      refine tg_aload_n hx hb dL_law_115 rfl rfl ?_
      refine tg_aload_n hx hb dL_law_116 rfl rfl ?_
      refine tg_iload hx hb dL_law_117 rfl ?_
      refine tg_iconst (v := nI 1) hx hb dL_law_119 (by decide +kernel) ?_
      refine tg_iadd hx hb dL_law_120 ?_
      refine tg_top (y := nI ((i) + (1))) (nI_add _ _) ?_
      refine tg_sld hx hb hX hbl hbF (x := (i) + (1)) (by omega) (by omega) dL_law_121 ?_
      refine tg_aload_n hx hb dL_law_122 rfl rfl ?_
      refine tg_iload hx hb dL_law_123 rfl ?_
      refine tg_iconst (v := nI 2) hx hb dL_law_125 (by decide +kernel) ?_
      refine tg_iadd hx hb dL_law_126 ?_
      refine tg_top (y := nI ((i) + (2))) (nI_add _ _) ?_
      refine tg_sld hx hb hX hbl hbF (x := (i) + (2)) (by omega) (by omega) dL_law_127 ?_
      refine tg_aload_n hx hb dL_law_128 rfl rfl ?_
      refine tg_iload hx hb dL_law_129 rfl ?_
      refine tg_iconst (v := nI 3) hx hb dL_law_131 (by decide +kernel) ?_
      refine tg_iadd hx hb dL_law_132 ?_
      refine tg_top (y := nI ((i) + (3))) (nI_add _ _) ?_
      refine tg_sld hx hb hX hbl hbF (x := (i) + (3)) (by omega) (by omega) dL_law_133 ?_
      refine tg_aload_n hx hb dL_law_134 rfl rfl ?_
      refine tg_iload hx hb dL_law_135 rfl ?_
      refine tg_iconst (v := nI 4) hx hb dL_law_137 (by decide +kernel) ?_
      refine tg_iadd hx hb dL_law_138 ?_
      refine tg_top (y := nI ((i) + (4))) (nI_add _ _) ?_
      refine tg_sld hx hb hX hbl hbF (x := (i) + (4)) (by omega) (by omega) dL_law_139 ?_
      rw [ey, ex]
      refine tg_w lw_sw ?_
      refine tg_callV (C := "HangGraphModel") (k := 11) (i := 0) (As := [.int (nI x), .int (nI y), .int (xs ((i) + (3))), .int (xs ((i) + (4)))]) (rest := []) ⟨hx, hb, hml, hown, hts⟩ hK hN hMv (hO.2.1.1 11 (by decide) (by decide) (by decide) (by decide)) rfl rfl rfl (c_mPut1 hO.2.1 hMv _ _ _ _ (lw_f1 hx9 q2 rfl)) (cwV 4 hts (lg_V wm_L_49 wi_M_put we_M_put wn_M wc_M_put) rfl rfl rfl ⟨rfl, by decide, by decide, rfl⟩ ⟨(by rw [hR]; exact Nat.le_of_ble_eq_true rfl), (by rw [hR]; exact Nat.le_of_ble_eq_true rfl)⟩) rfl (Nat.le_of_ble_eq_true rfl) ⟨by rw [hR]; show cells + 1 + 0 ≤ 601024; omega, by rw [hR]; show slots + 6 + 0 ≤ 7293034; omega⟩ rfl dL_law_140 (tg_kv rfl rfl ?_)
      refine tg_w lw_sw.symm ?_
      refine tg_istore (L' := [(0, .ref b), (1, .ref (ad 0 0)), (2, .ref (ad 11 0)), (3, .ref (ad 10 0)), (4, .int (nI (i))), (5, .int (nI (1))), (6, .int (nI (0)))]) hx hb dL_law_143 (by decide) rfl rfl ?_
      refine tg_aload_n hx hb dL_law_145 rfl rfl ?_
      refine tg_w lw_sw ?_
      refine tg_callV (C := "HangGraphModel") (k := 11) (i := 0) (As := []) (rest := []) ⟨hx, hb, hml, hown, hts⟩ hK hN hMv (hO.2.1.1 11 (by decide) (by decide) (by decide) (by decide)) rfl rfl rfl (c_mThrown hO.2.1) (cwV 0 hts (lg_V wm_L_50 wi_M_thrown we_M_thrown wn_M wc_M_thrown) rfl rfl rfl ⟨rfl, by decide, by decide, rfl⟩ ⟨(by rw [hR]; exact Nat.le_of_ble_eq_true rfl), (by rw [hR]; exact Nat.le_of_ble_eq_true rfl)⟩) rfl (Nat.le_of_ble_eq_true rfl) ⟨by rw [hR]; show cells + 1 + 0 ≤ 601024; omega, by rw [hR]; show slots + 6 + 0 ≤ 7293034; omega⟩ rfl dL_law_146 (tg_kv rfl rfl ?_)
      refine tg_w lw_sw.symm ?_
      refine tg_top (y := nI 1) (by rw [tg_up_self]) ?_
      refine tg_iload hx hb dL_law_149 rfl ?_
      refine tg_icmp_eq (tgt := 156) hx hb dL_law_151 (by decide) (fun q_7 => ?_) (fun q_7 => ?_)
      · have q_7' := q_7
        have h_8 : 1 = 1 := (nI_eq (by omega) (by omega)).mp q_7
        refine tg_iload hx hb dL_law_156 rfl ?_
        refine tg_if_ne (tgt := 173) hx hb dL_law_158 (by decide) (fun q_9 => ?_) (fun q_9 => ?_)
        · have q_9' := q_9
          rw [← nI_0] at q_9
          have h_10 : 1 ≠ 0 := fun z => q_9 ((nI_eq (by omega) (by omega)).mpr z)
          refine tg_goto (tgt := 571) hx hb dL_law_173 (by decide) ?_
          refine tg_sub (L' := [(0, .ref b), (1, .ref (ad 0 0)), (2, .ref (ad 11 0)), (3, .ref (ad 10 0)), (4, .int (nI (i)))]) (fun z8 hz8 => (List.mem_append_left [(5, .int (nI (1))), (6, .int (nI (0)))] hz8 : z8 ∈ [(0, .ref b), (1, .ref (ad 0 0)), (2, .ref (ad 11 0)), (3, .ref (ad 10 0)), (4, .int (nI (i)))] ++ [(5, .int (nI (1))), (6, .int (nI (0)))])) ?_
          refine tg_widen (k := cells + 2) (n := slots + 35) (by show cells + 1 ≤ cells + 2; omega) (by show slots + 6 ≤ slots + 35; omega) ?_
          exact hn T ad ok G a dr N bc sp (tg_up (tg_up M 11 0 0) 11 0 1) B o hO (hRR.m0 (M' := (tg_up (tg_up M 11 0 0) 11 0 1)) (fun j hj => by rw [mo_col _ _ _ hj, mo_col _ _ _ hj]) (mo_b0 (mo_b0 hBM (by decide)) (by decide))) rfl rfl rfl
        · have q_9' := q_9
          rw [← nI_0] at q_9
          have h_11 : 1 = 0 := (nI_eq (by omega) (by omega)).mp q_9
          omega
      · have q_7' := q_7
        have h_12 : 1 ≠ 1 := fun z => q_7 ((nI_eq (by omega) (by omega)).mpr z)
        omega
    · obtain ⟨h, hh1, hh2, eh⟩ := lw_f0 hx9 q2
      by_cases q3 : hg_bF y (xs ((i) + (4)))
      · skip
        rw [eh, ey, ex]
        refine tg_callSX (As := [.ref (ad 0 0), .int (nI x), .int (nI y), .int (nI h), .int (xs ((i) + (4))), .ref (ad 10 0)]) (rest := []) ⟨hx, hb, hml, hown, hts⟩ hK hN hMv (l_put1 _ _ _ _ hO.1 rfl (t_put3 hl9 x y hx9 hy9 h hh1 hh2 _ q3)) (vx_cwSW 6 hts (lg_SW wm_L_44 wt_L_put wn_L wgL_put) rfl rfl rfl ⟨by decide, by decide, rfl⟩ ⟨(by rw [hR]; exact Nat.le_of_ble_eq_true rfl), (by rw [hR]; exact Nat.le_of_ble_eq_true rfl)⟩) rfl (Nat.le_of_ble_eq_true rfl) ⟨by rw [hR]; show cells + 1 ≤ 601024; omega, by rw [hR]; show slots + 6 ≤ 7293034; omega⟩ rfl dL_law_110 ?_
        intro r9 ad9 ok9 w9 ⟨ha9, hok9, hr9, hw9⟩
        subst hr9
        rw [ha9, hok9, hw9]
        refine tg_st (st' := [.int (nI 1)]) rfl ?_
        refine tg_istore (L' := [(0, .ref b), (1, .ref (ad 0 0)), (2, .ref (ad 11 0)), (3, .ref (ad 10 0)), (4, .int (nI (i))), (5, .int (nI (1)))]) hx hb dL_law_113 (by decide) rfl rfl ?_
        refine tg_aload_n hx hb dL_law_115 rfl rfl ?_
        refine tg_aload_n hx hb dL_law_116 rfl rfl ?_
        refine tg_iload hx hb dL_law_117 rfl ?_
        refine tg_iconst (v := nI 1) hx hb dL_law_119 (by decide +kernel) ?_
        refine tg_iadd hx hb dL_law_120 ?_
        refine tg_top (y := nI ((i) + (1))) (nI_add _ _) ?_
        refine tg_sld hx hb hX hbl hbF (x := (i) + (1)) (by omega) (by omega) dL_law_121 ?_
        refine tg_aload_n hx hb dL_law_122 rfl rfl ?_
        refine tg_iload hx hb dL_law_123 rfl ?_
        refine tg_iconst (v := nI 2) hx hb dL_law_125 (by decide +kernel) ?_
        refine tg_iadd hx hb dL_law_126 ?_
        refine tg_top (y := nI ((i) + (2))) (nI_add _ _) ?_
        refine tg_sld hx hb hX hbl hbF (x := (i) + (2)) (by omega) (by omega) dL_law_127 ?_
        refine tg_aload_n hx hb dL_law_128 rfl rfl ?_
        refine tg_iload hx hb dL_law_129 rfl ?_
        refine tg_iconst (v := nI 3) hx hb dL_law_131 (by decide +kernel) ?_
        refine tg_iadd hx hb dL_law_132 ?_
        refine tg_top (y := nI ((i) + (3))) (nI_add _ _) ?_
        refine tg_sld hx hb hX hbl hbF (x := (i) + (3)) (by omega) (by omega) dL_law_133 ?_
        refine tg_aload_n hx hb dL_law_134 rfl rfl ?_
        refine tg_iload hx hb dL_law_135 rfl ?_
        refine tg_iconst (v := nI 4) hx hb dL_law_137 (by decide +kernel) ?_
        refine tg_iadd hx hb dL_law_138 ?_
        refine tg_top (y := nI ((i) + (4))) (nI_add _ _) ?_
        refine tg_sld hx hb hX hbl hbF (x := (i) + (4)) (by omega) (by omega) dL_law_139 ?_
        rw [eh, ey, ex]
        refine tg_w lw_sw ?_
        refine tg_callV (C := "HangGraphModel") (k := 11) (i := 0) (As := [.int (nI x), .int (nI y), .int (nI h), .int (xs ((i) + (4)))]) (rest := []) ⟨hx, hb, hml, hown, hts⟩ hK hN hMv (hO.2.1.1 11 (by decide) (by decide) (by decide) (by decide)) rfl rfl rfl (c_mPut1 hO.2.1 hMv _ _ _ _ (lw_f2 hy9 q3 rfl)) (cwV 4 hts (lg_V wm_L_49 wi_M_put we_M_put wn_M wc_M_put) rfl rfl rfl ⟨rfl, by decide, by decide, rfl⟩ ⟨(by rw [hR]; exact Nat.le_of_ble_eq_true rfl), (by rw [hR]; exact Nat.le_of_ble_eq_true rfl)⟩) rfl (Nat.le_of_ble_eq_true rfl) ⟨by rw [hR]; show cells + 1 + 0 ≤ 601024; omega, by rw [hR]; show slots + 6 + 0 ≤ 7293034; omega⟩ rfl dL_law_140 (tg_kv rfl rfl ?_)
        refine tg_w lw_sw.symm ?_
        refine tg_istore (L' := [(0, .ref b), (1, .ref (ad 0 0)), (2, .ref (ad 11 0)), (3, .ref (ad 10 0)), (4, .int (nI (i))), (5, .int (nI (1))), (6, .int (nI (0)))]) hx hb dL_law_143 (by decide) rfl rfl ?_
        refine tg_aload_n hx hb dL_law_145 rfl rfl ?_
        refine tg_w lw_sw ?_
        refine tg_callV (C := "HangGraphModel") (k := 11) (i := 0) (As := []) (rest := []) ⟨hx, hb, hml, hown, hts⟩ hK hN hMv (hO.2.1.1 11 (by decide) (by decide) (by decide) (by decide)) rfl rfl rfl (c_mThrown hO.2.1) (cwV 0 hts (lg_V wm_L_50 wi_M_thrown we_M_thrown wn_M wc_M_thrown) rfl rfl rfl ⟨rfl, by decide, by decide, rfl⟩ ⟨(by rw [hR]; exact Nat.le_of_ble_eq_true rfl), (by rw [hR]; exact Nat.le_of_ble_eq_true rfl)⟩) rfl (Nat.le_of_ble_eq_true rfl) ⟨by rw [hR]; show cells + 1 + 0 ≤ 601024; omega, by rw [hR]; show slots + 6 + 0 ≤ 7293034; omega⟩ rfl dL_law_146 (tg_kv rfl rfl ?_)
        refine tg_w lw_sw.symm ?_
        refine tg_top (y := nI 1) (by rw [tg_up_self]) ?_
        refine tg_iload hx hb dL_law_149 rfl ?_
        refine tg_icmp_eq (tgt := 156) hx hb dL_law_151 (by decide) (fun q_13 => ?_) (fun q_13 => ?_)
        · have q_13' := q_13
          have h_14 : 1 = 1 := (nI_eq (by omega) (by omega)).mp q_13
          refine tg_iload hx hb dL_law_156 rfl ?_
          refine tg_if_ne (tgt := 173) hx hb dL_law_158 (by decide) (fun q_15 => ?_) (fun q_15 => ?_)
          · have q_15' := q_15
            rw [← nI_0] at q_15
            have h_16 : 1 ≠ 0 := fun z => q_15 ((nI_eq (by omega) (by omega)).mpr z)
            refine tg_goto (tgt := 571) hx hb dL_law_173 (by decide) ?_
            refine tg_sub (L' := [(0, .ref b), (1, .ref (ad 0 0)), (2, .ref (ad 11 0)), (3, .ref (ad 10 0)), (4, .int (nI (i)))]) (fun z8 hz8 => (List.mem_append_left [(5, .int (nI (1))), (6, .int (nI (0)))] hz8 : z8 ∈ [(0, .ref b), (1, .ref (ad 0 0)), (2, .ref (ad 11 0)), (3, .ref (ad 10 0)), (4, .int (nI (i)))] ++ [(5, .int (nI (1))), (6, .int (nI (0)))])) ?_
            refine tg_widen (k := cells + 2) (n := slots + 35) (by show cells + 1 ≤ cells + 2; omega) (by show slots + 6 ≤ slots + 35; omega) ?_
            exact hn T ad ok G a dr N bc sp (tg_up (tg_up M 11 0 0) 11 0 1) B o hO (hRR.m0 (M' := (tg_up (tg_up M 11 0 0) 11 0 1)) (fun j hj => by rw [mo_col _ _ _ hj, mo_col _ _ _ hj]) (mo_b0 (mo_b0 hBM (by decide)) (by decide))) rfl rfl rfl
          · have q_15' := q_15
            rw [← nI_0] at q_15
            have h_17 : 1 = 0 := (nI_eq (by omega) (by omega)).mp q_15
            omega
        · have q_13' := q_13
          have h_18 : 1 ≠ 1 := fun z => q_13 ((nI_eq (by omega) (by omega)).mpr z)
          omega
      · obtain ⟨v, hv1, hv2, ev⟩ := lw_f0 hy9 q3
        by_cases q4 : ∀ i j, x ≤ i → i < x + h → y ≤ j → j < y + v → ∀ g, g < 400 → ¬ mo_in M g (20 * i + j)
        · skip
          have hnT : ¬ T (20 * x + y) := fun z => q4 x y (Nat.le_refl _) (by omega) (Nat.le_refl _) (by omega) (20 * x + y) (by omega) (hRR.self z)
          rw [ev, eh, ey, ex]
          refine tg_callSX (As := [.ref (ad 0 0), .int (nI x), .int (nI y), .int (nI h), .int (nI v), .ref (ad 10 0)]) (rest := []) ⟨hx, hb, hml, hown, hts⟩ hK hN hMv (l_put0 _ _ _ _ hO.1 rfl (c_put hO.1 hO.2.2.1 x y hx9 hy9 h v hh1 hh2 hv1 hv2 (fun i j z1 z2 z3 z4 => (hRR.2.2.2.2.2.2.2.1 (20 * i + j) (by omega)).2 (q4 i j z1 (by omega) z3 (by omega))) (20 * x + y) (fun k i z1 z2 e => hnT (e ▸ hO.2.2.2.1 k i z1 z2))) (fun r ad1 ok1 w1 ⟨h1, ad9, h2, h3, h4, h5⟩ => ⟨⟨_, h1⟩, by rw [h3]; exact Or.inl (Or.inl hO.2.2.2.2), by rw [h2]; exact h4 10 0 (fun z => absurd z.1 (by decide)) (fun z => absurd z.1 (by decide)), ⟨o, by rw [h5]; rfl⟩⟩)) (vx_cwSW 6 hts (lg_SW wm_L_44 wt_L_put wn_L wgL_put) rfl rfl rfl ⟨by decide, by decide, rfl⟩ ⟨(by rw [hR]; exact Nat.le_of_ble_eq_true rfl), (by rw [hR]; exact Nat.le_of_ble_eq_true rfl)⟩) rfl (Nat.le_of_ble_eq_true rfl) ⟨by rw [hR]; show cells + 2 ≤ 601024; omega, by rw [hR]; show slots + 35 ≤ 7293034; omega⟩ rfl dL_law_110 ?_
          intro r9 ad1 ok9 w9 ⟨hr9, v9, w0, f9, ⟨hv9, ad9, ha9, hok9, fo, hw0⟩, hf9, hw9⟩
          subst hr9
          injection hv9 with hv9
          injection hv9 with hv9
          rw [hw9, hw0, ha9, hok9, hv9]
          have f0 : ad9 0 0 = ad 0 0 := fo 0 0 (fun z => absurd z.1 (by decide)) (fun z => absurd z.1 (by decide))
          have f11 : ad9 11 0 = ad 11 0 := fo 11 0 (fun z => absurd z.1 (by decide)) (fun z => absurd z.1 (by decide))
          have f10 : ad9 10 0 = ad 10 0 := fo 10 0 (fun z => absurd z.1 (by decide)) (fun z => absurd z.1 (by decide))
          refine tg_w (w' := (lw_W cF cI cZ cJ cA cB ν ad9 (va_up G 0 (G 0 + 1)) (va_up a 0 (hg_cp (a 0) x y (y + v - 1) (x + h - 1 + 1) y (some (ad9 8 (20 * x + y))))) dr (hg_nw N (20 * x + y) x y (x + h - 1) (y + v - 1)) (va_up bc (20 * x + y) (hg_cb y (y + v - 1))) (va_up sp (20 * x + y) (fun _ => nI 0)) M B (va_up f9 0 (nI (G 0 + 1)).toInt64))) (by show tg_up (hg_w _ _ _ _ _ _ _ _ _ (tg_up _ 10 0 _)) 10 0 _ = _; rw [lw_up, tg_uu, mo_w_ad (ad9 := ad9) (fun k i hk => fo k i (fun z => by omega) (fun z => by omega))]; rfl) ?_
          refine tg_st (st' := [.int (nI 0)]) rfl ?_
          rw [← f0, ← f11, ← f10]
          have hO2 : lw_O (fun u => T u ∨ u = (20 * x + y)) (fun a b => (ok a b ∨ (a = 8 ∧ b = (20 * x + y))) ∨ (a = 9 ∧ b = (20 * x + y))) := hO.put
          have hR2 := (hRR.put (M' := (tg_up (tg_up (tg_up (tg_up (tg_up (tg_up (tg_up (tg_up M 11 0 0) 12 (20 * x + y) 1) 13 (20 * x + y) h) 14 (20 * x + y) v) 15 (20 * x + y) 0) 19 (20 * x + y) 0) 20 (20 * x + y) 0) 21 (20 * x + y) 0)) (f := (20 * x + y)) rfl hx9 hy9 hh1 hh2 hv1 hv2 q4 (by funext u; simp [tg_up, va_up]) (by funext u; simp [tg_up, va_up]) (by funext u; simp [tg_up, va_up]) (by funext u; simp [tg_up, va_up]) (by funext u; simp [tg_up, va_up]) (by funext u; simp [tg_up, va_up]) (by funext u; simp [tg_up, va_up]) (by funext u; simp [tg_up, va_up]) (mo_b0 (mo_b0 (mo_b0 (mo_b0 (mo_b0 (mo_b0 (mo_b0 (mo_b0 hBM (by decide)) (by decide)) (by omega)) (by omega)) (by decide)) (by decide)) (by decide)) (by decide)) fo).2
          refine tg_istore (L' := [(0, .ref b), (1, .ref (ad9 0 0)), (2, .ref (ad9 11 0)), (3, .ref (ad9 10 0)), (4, .int (nI (i))), (5, .int (nI (0)))]) hx hb dL_law_113 (by decide) rfl rfl ?_
          refine tg_aload_n hx hb dL_law_115 rfl rfl ?_
          refine tg_aload_n hx hb dL_law_116 rfl rfl ?_
          refine tg_iload hx hb dL_law_117 rfl ?_
          refine tg_iconst (v := nI 1) hx hb dL_law_119 (by decide +kernel) ?_
          refine tg_iadd hx hb dL_law_120 ?_
          refine tg_top (y := nI ((i) + (1))) (nI_add _ _) ?_
          refine tg_sld hx hb hX hbl hbF (x := (i) + (1)) (by omega) (by omega) dL_law_121 ?_
          refine tg_aload_n hx hb dL_law_122 rfl rfl ?_
          refine tg_iload hx hb dL_law_123 rfl ?_
          refine tg_iconst (v := nI 2) hx hb dL_law_125 (by decide +kernel) ?_
          refine tg_iadd hx hb dL_law_126 ?_
          refine tg_top (y := nI ((i) + (2))) (nI_add _ _) ?_
          refine tg_sld hx hb hX hbl hbF (x := (i) + (2)) (by omega) (by omega) dL_law_127 ?_
          refine tg_aload_n hx hb dL_law_128 rfl rfl ?_
          refine tg_iload hx hb dL_law_129 rfl ?_
          refine tg_iconst (v := nI 3) hx hb dL_law_131 (by decide +kernel) ?_
          refine tg_iadd hx hb dL_law_132 ?_
          refine tg_top (y := nI ((i) + (3))) (nI_add _ _) ?_
          refine tg_sld hx hb hX hbl hbF (x := (i) + (3)) (by omega) (by omega) dL_law_133 ?_
          refine tg_aload_n hx hb dL_law_134 rfl rfl ?_
          refine tg_iload hx hb dL_law_135 rfl ?_
          refine tg_iconst (v := nI 4) hx hb dL_law_137 (by decide +kernel) ?_
          refine tg_iadd hx hb dL_law_138 ?_
          refine tg_top (y := nI ((i) + (4))) (nI_add _ _) ?_
          refine tg_sld hx hb hX hbl hbF (x := (i) + (4)) (by omega) (by omega) dL_law_139 ?_
          rw [ev, eh, ey, ex]
          refine tg_w lw_sw ?_
          refine tg_callV (C := "HangGraphModel") (k := 11) (i := 0) (As := [.int (nI x), .int (nI y), .int (nI h), .int (nI v)]) (rest := []) ⟨hx, hb, hml, hown, hts⟩ hK hN hMv (hO2.2.1.1 11 (by decide) (by decide) (by decide) (by decide)) rfl rfl rfl (c_mPut0 hO2.2.1 hMv hBM x y hx9 hy9 h v hh1 hh2 hv1 hv2 q4) (cwV 4 hts (lg_V wm_L_49 wi_M_put we_M_put wn_M wc_M_put) rfl rfl rfl ⟨rfl, by decide, by decide, rfl⟩ ⟨(by rw [hR]; exact Nat.le_of_ble_eq_true rfl), (by rw [hR]; exact Nat.le_of_ble_eq_true rfl)⟩) rfl (Nat.le_of_ble_eq_true rfl) ⟨by rw [hR]; show cells + 2 + 0 ≤ 601024; omega, by rw [hR]; show slots + 35 + 0 ≤ 7293034; omega⟩ rfl dL_law_140 (tg_kv rfl rfl ?_)
          refine tg_w lw_sw.symm ?_
          refine tg_istore (L' := [(0, .ref b), (1, .ref (ad9 0 0)), (2, .ref (ad9 11 0)), (3, .ref (ad9 10 0)), (4, .int (nI (i))), (5, .int (nI (0))), (6, .int (nI (hg_cn (fun f => (tg_up (tg_up (tg_up (tg_up (tg_up (tg_up (tg_up (tg_up M 11 0 0) 12 (20 * x + y) 1) 13 (20 * x + y) h) 14 (20 * x + y) v) 15 (20 * x + y) 0) 19 (20 * x + y) 0) 20 (20 * x + y) 0) 21 (20 * x + y) 0) 12 f ≠ 0) 400)))]) hx hb dL_law_143 (by decide) rfl rfl ?_
          refine tg_aload_n hx hb dL_law_145 rfl rfl ?_
          refine tg_w lw_sw ?_
          refine tg_callV (C := "HangGraphModel") (k := 11) (i := 0) (As := []) (rest := []) ⟨hx, hb, hml, hown, hts⟩ hK hN hMv (hO2.2.1.1 11 (by decide) (by decide) (by decide) (by decide)) rfl rfl rfl (c_mThrown hO2.2.1) (cwV 0 hts (lg_V wm_L_50 wi_M_thrown we_M_thrown wn_M wc_M_thrown) rfl rfl rfl ⟨rfl, by decide, by decide, rfl⟩ ⟨(by rw [hR]; exact Nat.le_of_ble_eq_true rfl), (by rw [hR]; exact Nat.le_of_ble_eq_true rfl)⟩) rfl (Nat.le_of_ble_eq_true rfl) ⟨by rw [hR]; show cells + 2 + 0 ≤ 601024; omega, by rw [hR]; show slots + 35 + 0 ≤ 7293034; omega⟩ rfl dL_law_146 (tg_kv rfl rfl ?_)
          refine tg_w lw_sw.symm ?_
          refine tg_top (y := nI 0) (by rw [show (tg_up (tg_up (tg_up (tg_up (tg_up (tg_up (tg_up (tg_up M 11 0 0) 12 (20 * x + y) 1) 13 (20 * x + y) h) 14 (20 * x + y) v) 15 (20 * x + y) 0) 19 (20 * x + y) 0) 20 (20 * x + y) 0) 21 (20 * x + y) 0) 11 0 = 0 by simp [tg_up]]) ?_
          refine tg_iload hx hb dL_law_149 rfl ?_
          refine tg_icmp_eq (tgt := 156) hx hb dL_law_151 (by decide) (fun q_19 => ?_) (fun q_19 => ?_)
          · have q_19' := q_19
            have h_20 : 0 = 0 := (nI_eq (by omega) (by omega)).mp q_19
            refine tg_iload hx hb dL_law_156 rfl ?_
            refine tg_if_ne (tgt := 173) hx hb dL_law_158 (by decide) (fun q_21 => ?_) (fun q_21 => ?_)
            · have q_21' := q_21
              rw [← nI_0] at q_21
              have h_22 : 0 ≠ 0 := fun z => q_21 ((nI_eq (by omega) (by omega)).mpr z)
              omega
            · have q_21' := q_21
              rw [← nI_0] at q_21
              have h_23 : 0 = 0 := (nI_eq (by omega) (by omega)).mp q_21
              refine tg_aload_n hx hb dL_law_161 rfl rfl ?_
              refine tg_iconst (v := nI 0) hx hb dL_law_162 (by decide +kernel) ?_
              refine tg_lald (t0 := 3) hx hb hK hO2.2.2.2.2 lw_W10 rfl (x := 0) (by decide) (by decide) dL_law_163 ?_
              refine tg_st (st' := .long (nI (G 0 + 1)).toInt64 :: []) (by rw [va_up_self]) ?_
              refine tg_iload hx hb dL_law_164 rfl ?_
              refine tg_i2l (v := (nI (hg_cn (fun f => (tg_up (tg_up (tg_up (tg_up (tg_up (tg_up (tg_up (tg_up M 11 0 0) 12 (20 * x + y) 1) 13 (20 * x + y) h) 14 (20 * x + y) v) 15 (20 * x + y) 0) 19 (20 * x + y) 0) 20 (20 * x + y) 0) 21 (20 * x + y) 0) 12 f ≠ 0) 400)).toInt64) hx hb dL_law_166 rfl ?_
              refine tg_lcmp hx hb dL_law_167 ?_
              refine tg_top (y := nI 0) (by rw [show nI (G 0 + 1) = nI (hg_cn (fun f => (tg_up (tg_up (tg_up (tg_up (tg_up (tg_up (tg_up (tg_up M 11 0 0) 12 (20 * x + y) 1) 13 (20 * x + y) h) 14 (20 * x + y) v) 15 (20 * x + y) 0) 19 (20 * x + y) 0) 20 (20 * x + y) 0) 21 (20 * x + y) 0) 12 f ≠ 0) 400) by rw [← hR2.2.2.2.2.2.2.2.2.1, va_up_self], lw_cmp, nI_0]) ?_
              refine tg_if_eq (tgt := 173) hx hb dL_law_168 (by decide) (fun q_24 => ?_) (fun q_24 => ?_)
              · have q_24' := q_24
                rw [← nI_0] at q_24
                have h_25 : 0 = 0 := (nI_eq (by omega) (by omega)).mp q_24
                refine tg_goto (tgt := 571) hx hb dL_law_173 (by decide) ?_
                refine tg_sub (L' := [(0, .ref b), (1, .ref (ad9 0 0)), (2, .ref (ad9 11 0)), (3, .ref (ad9 10 0)), (4, .int (nI (i)))]) (fun z8 hz8 => (List.mem_append_left [(5, .int (nI (0))), (6, .int (nI (hg_cn (fun f => (tg_up (tg_up (tg_up (tg_up (tg_up (tg_up (tg_up (tg_up M 11 0 0) 12 (20 * x + y) 1) 13 (20 * x + y) h) 14 (20 * x + y) v) 15 (20 * x + y) 0) 19 (20 * x + y) 0) 20 (20 * x + y) 0) 21 (20 * x + y) 0) 12 f ≠ 0) 400)))] hz8 : z8 ∈ [(0, .ref b), (1, .ref (ad9 0 0)), (2, .ref (ad9 11 0)), (3, .ref (ad9 10 0)), (4, .int (nI (i)))] ++ [(5, .int (nI (0))), (6, .int (nI (hg_cn (fun f => (tg_up (tg_up (tg_up (tg_up (tg_up (tg_up (tg_up (tg_up M 11 0 0) 12 (20 * x + y) 1) 13 (20 * x + y) h) 14 (20 * x + y) v) 15 (20 * x + y) 0) 19 (20 * x + y) 0) 20 (20 * x + y) 0) 21 (20 * x + y) 0) 12 f ≠ 0) 400)))])) ?_
                refine tg_widen (k := cells + 2) (n := slots + 35) (by show cells + 2 ≤ cells + 2; omega) (by show slots + 35 ≤ slots + 35; omega) ?_
                rw [f0, f11, f10]
                exact hn (fun u => T u ∨ u = (20 * x + y)) ad9 (fun a b => (ok a b ∨ (a = 8 ∧ b = (20 * x + y))) ∨ (a = 9 ∧ b = (20 * x + y))) (va_up G 0 (G 0 + 1)) (va_up a 0 (hg_cp (a 0) x y (y + v - 1) (x + h - 1 + 1) y (some (ad9 8 (20 * x + y))))) dr (hg_nw N (20 * x + y) x y (x + h - 1) (y + v - 1)) (va_up bc (20 * x + y) (hg_cb y (y + v - 1))) (va_up sp (20 * x + y) (fun _ => nI 0)) (tg_up (tg_up (tg_up (tg_up (tg_up (tg_up (tg_up (tg_up M 11 0 0) 12 (20 * x + y) 1) 13 (20 * x + y) h) 14 (20 * x + y) v) 15 (20 * x + y) 0) 19 (20 * x + y) 0) 20 (20 * x + y) 0) 21 (20 * x + y) 0) B (va_up f9 0 (nI (G 0 + 1)).toInt64) hO2 hR2 f0 f11 f10
              · have q_24' := q_24
                rw [← nI_0] at q_24
                have h_26 : 0 ≠ 0 := fun z => q_24 ((nI_eq (by omega) (by omega)).mpr z)
                omega
          · have q_19' := q_19
            have h_27 : 0 ≠ 0 := fun z => q_19 ((nI_eq (by omega) (by omega)).mpr z)
            omega
        · skip
          rw [ev, eh, ey, ex]
          refine tg_callSX (As := [.ref (ad 0 0), .int (nI x), .int (nI y), .int (nI h), .int (nI v), .ref (ad 10 0)]) (rest := []) ⟨hx, hb, hml, hown, hts⟩ hK hN hMv (l_put2 _ _ _ _ hO.1 rfl (t_put4 hl9 hO.1 hRR.hov x y hx9 hy9 h v hh1 hh2 hv1 hv2 (lw_occ hRR hx9 hy9 hh2 hv2 q4))) (vx_cwSW 6 hts (lg_SW wm_L_44 wt_L_put wn_L wgL_put) rfl rfl rfl ⟨by decide, by decide, rfl⟩ ⟨(by rw [hR]; exact Nat.le_of_ble_eq_true rfl), (by rw [hR]; exact Nat.le_of_ble_eq_true rfl)⟩) rfl (Nat.le_of_ble_eq_true rfl) ⟨by rw [hR]; show cells + 1 ≤ 601024; omega, by rw [hR]; show slots + 6 ≤ 7293034; omega⟩ rfl dL_law_110 ?_
          intro r9 ad9 ok9 w9 ⟨ha9, hok9, hr9, hw9⟩
          subst hr9
          rw [ha9, hok9, hw9]
          refine tg_st (st' := [.int (nI 2)]) rfl ?_
          refine tg_istore (L' := [(0, .ref b), (1, .ref (ad 0 0)), (2, .ref (ad 11 0)), (3, .ref (ad 10 0)), (4, .int (nI (i))), (5, .int (nI (2)))]) hx hb dL_law_113 (by decide) rfl rfl ?_
          refine tg_aload_n hx hb dL_law_115 rfl rfl ?_
          refine tg_aload_n hx hb dL_law_116 rfl rfl ?_
          refine tg_iload hx hb dL_law_117 rfl ?_
          refine tg_iconst (v := nI 1) hx hb dL_law_119 (by decide +kernel) ?_
          refine tg_iadd hx hb dL_law_120 ?_
          refine tg_top (y := nI ((i) + (1))) (nI_add _ _) ?_
          refine tg_sld hx hb hX hbl hbF (x := (i) + (1)) (by omega) (by omega) dL_law_121 ?_
          refine tg_aload_n hx hb dL_law_122 rfl rfl ?_
          refine tg_iload hx hb dL_law_123 rfl ?_
          refine tg_iconst (v := nI 2) hx hb dL_law_125 (by decide +kernel) ?_
          refine tg_iadd hx hb dL_law_126 ?_
          refine tg_top (y := nI ((i) + (2))) (nI_add _ _) ?_
          refine tg_sld hx hb hX hbl hbF (x := (i) + (2)) (by omega) (by omega) dL_law_127 ?_
          refine tg_aload_n hx hb dL_law_128 rfl rfl ?_
          refine tg_iload hx hb dL_law_129 rfl ?_
          refine tg_iconst (v := nI 3) hx hb dL_law_131 (by decide +kernel) ?_
          refine tg_iadd hx hb dL_law_132 ?_
          refine tg_top (y := nI ((i) + (3))) (nI_add _ _) ?_
          refine tg_sld hx hb hX hbl hbF (x := (i) + (3)) (by omega) (by omega) dL_law_133 ?_
          refine tg_aload_n hx hb dL_law_134 rfl rfl ?_
          refine tg_iload hx hb dL_law_135 rfl ?_
          refine tg_iconst (v := nI 4) hx hb dL_law_137 (by decide +kernel) ?_
          refine tg_iadd hx hb dL_law_138 ?_
          refine tg_top (y := nI ((i) + (4))) (nI_add _ _) ?_
          refine tg_sld hx hb hX hbl hbF (x := (i) + (4)) (by omega) (by omega) dL_law_139 ?_
          rw [ev, eh, ey, ex]
          refine tg_w lw_sw ?_
          refine tg_callV (C := "HangGraphModel") (k := 11) (i := 0) (As := [.int (nI x), .int (nI y), .int (nI h), .int (nI v)]) (rest := []) ⟨hx, hb, hml, hown, hts⟩ hK hN hMv (hO.2.1.1 11 (by decide) (by decide) (by decide) (by decide)) rfl rfl rfl (c_mPut2 hO.2.1 hMv hBM x y hx9 hy9 h v hh1 hh2 hv1 hv2 q4) (cwV 4 hts (lg_V wm_L_49 wi_M_put we_M_put wn_M wc_M_put) rfl rfl rfl ⟨rfl, by decide, by decide, rfl⟩ ⟨(by rw [hR]; exact Nat.le_of_ble_eq_true rfl), (by rw [hR]; exact Nat.le_of_ble_eq_true rfl)⟩) rfl (Nat.le_of_ble_eq_true rfl) ⟨by rw [hR]; show cells + 1 + 0 ≤ 601024; omega, by rw [hR]; show slots + 6 + 0 ≤ 7293034; omega⟩ rfl dL_law_140 (tg_kv rfl rfl ?_)
          refine tg_w lw_sw.symm ?_
          refine tg_istore (L' := [(0, .ref b), (1, .ref (ad 0 0)), (2, .ref (ad 11 0)), (3, .ref (ad 10 0)), (4, .int (nI (i))), (5, .int (nI (2))), (6, .int (nI (0)))]) hx hb dL_law_143 (by decide) rfl rfl ?_
          refine tg_aload_n hx hb dL_law_145 rfl rfl ?_
          refine tg_w lw_sw ?_
          refine tg_callV (C := "HangGraphModel") (k := 11) (i := 0) (As := []) (rest := []) ⟨hx, hb, hml, hown, hts⟩ hK hN hMv (hO.2.1.1 11 (by decide) (by decide) (by decide) (by decide)) rfl rfl rfl (c_mThrown hO.2.1) (cwV 0 hts (lg_V wm_L_50 wi_M_thrown we_M_thrown wn_M wc_M_thrown) rfl rfl rfl ⟨rfl, by decide, by decide, rfl⟩ ⟨(by rw [hR]; exact Nat.le_of_ble_eq_true rfl), (by rw [hR]; exact Nat.le_of_ble_eq_true rfl)⟩) rfl (Nat.le_of_ble_eq_true rfl) ⟨by rw [hR]; show cells + 1 + 0 ≤ 601024; omega, by rw [hR]; show slots + 6 + 0 ≤ 7293034; omega⟩ rfl dL_law_146 (tg_kv rfl rfl ?_)
          refine tg_w lw_sw.symm ?_
          refine tg_top (y := nI 2) (by rw [tg_up_self]) ?_
          refine tg_iload hx hb dL_law_149 rfl ?_
          refine tg_icmp_eq (tgt := 156) hx hb dL_law_151 (by decide) (fun q_28 => ?_) (fun q_28 => ?_)
          · have q_28' := q_28
            have h_29 : 2 = 2 := (nI_eq (by omega) (by omega)).mp q_28
            refine tg_iload hx hb dL_law_156 rfl ?_
            refine tg_if_ne (tgt := 173) hx hb dL_law_158 (by decide) (fun q_30 => ?_) (fun q_30 => ?_)
            · have q_30' := q_30
              rw [← nI_0] at q_30
              have h_31 : 2 ≠ 0 := fun z => q_30 ((nI_eq (by omega) (by omega)).mpr z)
              refine tg_goto (tgt := 571) hx hb dL_law_173 (by decide) ?_
              refine tg_sub (L' := [(0, .ref b), (1, .ref (ad 0 0)), (2, .ref (ad 11 0)), (3, .ref (ad 10 0)), (4, .int (nI (i)))]) (fun z8 hz8 => (List.mem_append_left [(5, .int (nI (2))), (6, .int (nI (0)))] hz8 : z8 ∈ [(0, .ref b), (1, .ref (ad 0 0)), (2, .ref (ad 11 0)), (3, .ref (ad 10 0)), (4, .int (nI (i)))] ++ [(5, .int (nI (2))), (6, .int (nI (0)))])) ?_
              refine tg_widen (k := cells + 2) (n := slots + 35) (by show cells + 1 ≤ cells + 2; omega) (by show slots + 6 ≤ slots + 35; omega) ?_
              exact hn T ad ok G a dr N bc sp (tg_up (tg_up M 11 0 0) 11 0 2) B o hO (hRR.m0 (M' := (tg_up (tg_up M 11 0 0) 11 0 2)) (fun j hj => by rw [mo_col _ _ _ hj, mo_col _ _ _ hj]) (mo_b0 (mo_b0 hBM (by decide)) (by decide))) rfl rfl rfl
            · have q_30' := q_30
              rw [← nI_0] at q_30
              have h_32 : 2 = 0 := (nI_eq (by omega) (by omega)).mp q_30
              omega
          · have q_28' := q_28
            have h_33 : 2 ≠ 2 := fun z => q_28 ((nI_eq (by omega) (by omega)).mpr z)
            omega
