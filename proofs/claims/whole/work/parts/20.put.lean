/-! put's answer -/
/-- a new formula's numbers -/
def hg_nw (N : Nat → Nat → Nat) (f x y b r : Nat) : Nat → Nat → Nat := fun j u => if u = f then (match j with | 0 => 20 * x + y | 1 => x | 2 => y | 3 => b | 4 => r | _ => 0) else N j u
theorem hg_nw_o {N : Nat → Nat → Nat} {f x y b r j u : Nat} (h : u ≠ f) : hg_nw N f x y b r j u = N j u := if_neg h
theorem hg_nw_s {N : Nat → Nat → Nat} {f x y b r j : Nat} : hg_nw N f x y b r j f = (match j with | 0 => 20 * x + y | 1 => x | 2 => y | 3 => b | 4 => r | _ => 0) := if_pos rfl
section HGP
variable {l : Launch} {D : va_G} {F : Nat → Prop} {Nn : State → Heap → Prop} {ad : Nat → Nat → Nat} {ok : Nat → Nat → Prop} {cF cI cZ cJ cA cB : ClassId} {G : Nat → Nat} {a : Nat → Nat → Option Nat} {dr : Nat → Int32} {N : Nat → Nat → Nat} {bc : Nat → Int32} {sp : Nat → Nat → Int32} {μ : Nat → Nat → va_E} {T : Nat → Prop} {w : Nat → Nat → va_E}
variable {p : Program} {e : Env} {R : Room} {s : State} {m : MethodId} {args : Array Value} {below : List Frame} {meth : Method} {c : Code} {Q : State → Prop} {cells slots : Nat} {post : Option Value → (Nat → Nat → Nat) → (Nat → Nat → Prop) → (Nat → Nat → va_E) → Prop}
set_option maxRecDepth 100000 in
set_option maxHeartbeats 4000000 in
/-- put from where the formula is made -/
theorem c_putTail (hO : hg_ok ok) (hT : ∀ f, T f → ok 8 f ∧ ok 9 f) (hMv : tg_Mv F Nn) (f x y h v b0 r0 : Nat) (hf : T f) (hN1 : N 1 f ≤ N 3 f) (hN3 : N 3 f < 20) (hN2 : N 2 f ≤ N 4 f) (hN4 : N 4 f < 20) (hx : p.tables.exec = Jvm.exec) (hb : c.code = cH_put) (hml : c.maxLocals = 8) (hr : meth.sig.returnType = some .int) (hlocks : meth.locks = false) (hown : s.vm.findClass "HangGraph" = some m.cls) (hts : ∀ w ∈ lw_g, w.before args s = true) (hK : va_K D vwCl (hg_tys cI cF cZ cJ cA cB) s) (hN : Nn s s.heap) (hR : R = (headSpec wsH_put ({ frames := 7, cells := 2, slots := 35, locals := 140 })).room) (hcs : cells ≤ R.cells ∧ slots ≤ R.slots) (hQ : Q = MQ below (tg_Q D vwCl F post) args s cells slots F) (hpost : post (some (.int (nI (G 0 + 1)))) ad ok (hg_w ad cF cI (va_up G 0 (G 0 + 1)) (va_up a 0 (hg_cp (a 0) (N 1 f) (N 2 f) (N 4 f) (N 3 f + 1) (N 2 f) (some (ad 8 f)))) dr N bc sp μ)) : tg_W p l e R s m args below meth c Q 8 D vwCl F ad ok (hg_w ad cF cI G a dr N bc sp μ) [(0, .ref (ad 0 0)), (1, .int (nI (x))), (2, .int (nI (y))), (3, .int (nI (h))), (4, .int (nI (v))), (5, .int (nI (b0))), (6, .int (nI (r0)))] cells slots 54 [.ref (ad 8 f)] := by
  refine tg_astore (L' := [(0, .ref (ad 0 0)), (1, .int (nI (x))), (2, .int (nI (y))), (3, .int (nI (h))), (4, .int (nI (v))), (5, .int (nI (b0))), (6, .int (nI (r0))), (7, .ref (ad 8 f))]) hx hb dH_put_54 (by decide) rfl rfl ?_
  refine tg_aload_n hx hb dH_put_56 rfl rfl ?_
  refine tg_aload hx hb dH_put_57 rfl ?_
  refine tg_aload hx hb dH_put_59 rfl ?_
  refine tg_callV (C := "HangGraph") (As := [.ref (ad 8 f), .ref (ad 8 f)]) (rest := []) ⟨hx, hb, hml, hown, hts⟩ hK hN hMv (hO.1 0 (by decide)) rfl rfl rfl (c_cover hO hT hMv f hf hN1 hN3 hN2 hN4) (cwV 2 hts (lg_V wm_H_43 wi_H_cover we_H_cover wn_H wc_H_cover) rfl rfl rfl ⟨rfl, by decide, by decide, rfl⟩ ⟨by rw [hR]; exact Nat.le_of_ble_eq_true rfl, by rw [hR]; exact Nat.le_of_ble_eq_true rfl⟩) rfl (Nat.le_of_ble_eq_true rfl) hcs rfl dH_put_61 (tg_kn rfl rfl ?_)
  refine tg_aload_n hx hb dH_put_64 rfl rfl ?_
  refine tg_dup hx hb dH_put_65 rfl ?_
  refine tg_get (T := TH) (N := 4) hx hb hts inH hown hK (hO.1 0 (by decide)) rfl rfl 3 (by decide) (hts _ wf_H_26) (fun _ z => z) rfl dH_put_66 ?_
  refine tg_iconst (v := nI 1) hx hb dH_put_69 (by decide +kernel) ?_
  refine tg_iadd hx hb dH_put_70 ?_
  refine tg_top (y := nI ((G 0) + (1))) (nI_add _ _) ?_
  refine tg_put (T := TH) (N := 4) (ty := .int) hx hb hts inH tyH tyH_ok nmH hown hK (hO.1 0 (by decide)) rfl rfl 3 (by decide) (hts _ wf_H_26) (fun _ z => z) rfl (by decide +kernel) rfl rfl (Nat.le_of_ble_eq_true rfl) dH_put_71 ?_
  refine tg_wp (hg_w_G0 hO ((G 0) + (1))) ?_
  refine tg_aload_n hx hb dH_put_74 rfl rfl ?_
  refine tg_get (T := TH) (N := 4) hx hb hts inH hown hK (hO.1 0 (by decide)) rfl rfl 3 (by decide) (hts _ wf_H_26) (fun _ z => z) rfl dH_put_75 ?_
  refine tg_top (y := nI ((G 0) + (1))) (by simp [va_up]) ?_
  exact tg_iret hx hb hlocks hr hQ hpost dH_put_78
theorem hg_ok.push (h : hg_ok ok) {f : Nat} : hg_ok (fun a b => (ok a b ∨ (a = 8 ∧ b = f)) ∨ (a = 9 ∧ b = f)) := ⟨fun k hk => Or.inl (Or.inl (h.1 k hk)), fun k i hki hk => by
  rcases hki with (z | z) | z
  · exact h.2 k i z hk
  · omega
  · omega⟩
theorem hg_w_nw {ad9 : Nat → Nat → Nat} {f x y b r k i : Nat} {bx : Int32} {sx : Nat → Int32} (fo : ∀ k i, ¬ (k = 8 ∧ i = f) → ¬ (k = 9 ∧ i = f) → ad9 k i = ad k i) (z1 : ¬ (k = 8 ∧ i = f)) (z2 : ¬ (k = 9 ∧ i = f)) (hki : (k = 8 ∨ k = 9) → i ≠ f) : hg_w ad cF cI G a dr N bc sp μ k i = hg_w ad9 cF cI G a dr (hg_nw N f x y b r) (va_up bc f bx) (va_up sp f sx) μ k i := by
  have h1 : ∀ k, k < 8 → ad9 k 0 = ad k 0 := fun k hk => fo k 0 (by omega) (by omega)
  unfold hg_w
  split
  · rw [h1 1 (by decide), h1 2 (by decide), h1 3 (by decide)]
  · rfl
  · rfl
  · rw [h1 4 (by decide), h1 5 (by decide), h1 6 (by decide), h1 7 (by decide)]
  · rfl
  · rfl
  · rfl
  · rfl
  · have hi := hki (Or.inl rfl)
    rw [fo 9 i (by omega) (by omega), va_up_ne _ _ hi]
    simp only [hg_nw_o hi]
  · have hi := hki (Or.inr rfl)
    rw [va_up_ne _ _ hi]
  · rfl
set_option maxRecDepth 100000 in
set_option maxHeartbeats 4000000 in
/-- a formula is put -/
theorem c_put (hO : hg_ok ok) (hT : ∀ f, T f → ok 8 f ∧ ok 9 f) (x y : Nat) (hx9 : x < 20) (hy9 : y < 20) (h v : Nat) (hh1 : 1 ≤ h) (hh2 : h ≤ 20 - x) (hv1 : 1 ≤ v) (hv2 : v ≤ 20 - y) (hfree : ∀ i j, x ≤ i → i ≤ (x + h - 1) → y ≤ j → j ≤ (y + v - 1) → a 0 (20 * i + j) = none) (f : Nat) (hO9 : ∀ k i, ok k i → (k = 8 ∨ k = 9) → i ≠ f) : tg_Met l yH_put wsH_put ({ frames := 7, cells := 2, slots := 35, locals := 140 }) D vwCl (hg_tys cI cF cZ cJ cA cB) F (hg_N F) ad ok (hg_w ad cF cI G a dr N bc sp μ) [.ref (ad 0 0), .int (nI (x)), .int (nI (y)), .int (nI (h)), .int (nI (v))] (fun r1 ad1 ok1 w1 => r1 = some (.int (nI (G 0 + 1))) ∧ ∃ ad9, ad1 = ad9 ∧ ok1 = (fun a b => (ok a b ∨ (a = 8 ∧ b = f)) ∨ (a = 9 ∧ b = f)) ∧ (∀ k i, ¬ (k = 8 ∧ i = f) → ¬ (k = 9 ∧ i = f) → ad9 k i = ad k i) ∧ w1 = hg_w ad1 cF cI (va_up G 0 (G 0 + 1)) (va_up a 0 (hg_cp (a 0) x y (y + v - 1) ((x + h - 1) + 1) y (some (ad1 8 f)))) dr (hg_nw N f x y (x + h - 1) (y + v - 1)) (va_up bc f (hg_cb y (y + v - 1))) (va_up sp f (fun _ => nI 0)) μ) := by
  refine tg_start (cc := cH_put) (maxL := 8) (ret := some .int) (by decide) rfl (Nat.le_of_ble_eq_true rfl) ?_
  intro p e R s m args below meth c Q hx hb hml hr hlocks hown hname hts hK hN hR hQ
  have hown : s.vm.findClass "HangGraph" = some m.cls := hown
  have hts : ∀ w ∈ lw_g, w.before args s = true := fun w z => hts w (List.mem_cons_of_mem _ z)
  have hMv := hg_Mv F
  refine tg_iload_n hx hb dH_put_0 rfl rfl ?_
  refine tg_iload_n hx hb dH_put_1 rfl rfl ?_
  refine tg_callS (As := [.int (nI (x)), .int (nI (y))]) (rest := []) ⟨hx, hb, hml, hown, hts⟩ hK hN hMv (c_requireCell x y hx9 hy9) (va_cwS 2 hts (lg_S wm_H_30 wt_H_requireCell wn_H wc_H_requireCell) rfl rfl rfl ⟨by decide, by decide, rfl⟩ ⟨by rw [hR]; exact Nat.le_of_ble_eq_true rfl, by rw [hR]; exact Nat.le_of_ble_eq_true rfl⟩) rfl (Nat.le_of_ble_eq_true rfl) ⟨by rw [hR]; exact Nat.le_of_ble_eq_true rfl, by rw [hR]; exact Nat.le_of_ble_eq_true rfl⟩ rfl dH_put_2 (tg_kn rfl rfl ?_)
  refine tg_iload_n hx hb dH_put_5 rfl rfl ?_
  refine tg_iload_n hx hb dH_put_6 rfl rfl ?_
  refine tg_callS (As := [.int (nI (x)), .int (nI (h))]) (rest := []) ⟨hx, hb, hml, hown, hts⟩ hK hN hMv (c_requireFits x h hx9 hh1 hh2) (va_cwS 2 hts (lg_S wm_H_34 wt_H_requireFits wn_H wc_H_requireFits) rfl rfl rfl ⟨by decide, by decide, rfl⟩ ⟨by rw [hR]; exact Nat.le_of_ble_eq_true rfl, by rw [hR]; exact Nat.le_of_ble_eq_true rfl⟩) rfl (Nat.le_of_ble_eq_true rfl) ⟨by rw [hR]; exact Nat.le_of_ble_eq_true rfl, by rw [hR]; exact Nat.le_of_ble_eq_true rfl⟩ rfl dH_put_7 (tg_kn rfl rfl ?_)
  refine tg_iload_n hx hb dH_put_10 rfl rfl ?_
  refine tg_iload hx hb dH_put_11 rfl ?_
  refine tg_callS (As := [.int (nI (y)), .int (nI (v))]) (rest := []) ⟨hx, hb, hml, hown, hts⟩ hK hN hMv (c_requireFits y v hy9 hv1 hv2) (va_cwS 2 hts (lg_S wm_H_34 wt_H_requireFits wn_H wc_H_requireFits) rfl rfl rfl ⟨by decide, by decide, rfl⟩ ⟨by rw [hR]; exact Nat.le_of_ble_eq_true rfl, by rw [hR]; exact Nat.le_of_ble_eq_true rfl⟩) rfl (Nat.le_of_ble_eq_true rfl) ⟨by rw [hR]; exact Nat.le_of_ble_eq_true rfl, by rw [hR]; exact Nat.le_of_ble_eq_true rfl⟩ rfl dH_put_13 (tg_kn rfl rfl ?_)
  refine tg_iload_n hx hb dH_put_16 rfl rfl ?_
  refine tg_iload_n hx hb dH_put_17 rfl rfl ?_
  refine tg_iadd hx hb dH_put_18 ?_
  refine tg_top (y := nI ((x) + (h))) (nI_add _ _) ?_
  refine tg_iconst (v := nI 1) hx hb dH_put_19 (by decide +kernel) ?_
  refine tg_isub hx hb dH_put_20 ?_
  refine tg_top (y := nI (((x) + (h)) - (1))) (pk_sub (by omega)) ?_
  refine tg_istore (L' := [(0, .ref (ad 0 0)), (1, .int (nI (x))), (2, .int (nI (y))), (3, .int (nI (h))), (4, .int (nI (v))), (5, .int (nI (((x) + (h)) - (1))))]) hx hb dH_put_21 (by decide) rfl rfl ?_
  refine tg_iload_n hx hb dH_put_23 rfl rfl ?_
  refine tg_iload hx hb dH_put_24 rfl ?_
  refine tg_iadd hx hb dH_put_26 ?_
  refine tg_top (y := nI ((y) + (v))) (nI_add _ _) ?_
  refine tg_iconst (v := nI 1) hx hb dH_put_27 (by decide +kernel) ?_
  refine tg_isub hx hb dH_put_28 ?_
  refine tg_top (y := nI (((y) + (v)) - (1))) (pk_sub (by omega)) ?_
  refine tg_istore (L' := [(0, .ref (ad 0 0)), (1, .int (nI (x))), (2, .int (nI (y))), (3, .int (nI (h))), (4, .int (nI (v))), (5, .int (nI (((x) + (h)) - (1)))), (6, .int (nI (((y) + (v)) - (1))))]) hx hb dH_put_29 (by decide) rfl rfl ?_
  refine tg_aload_n hx hb dH_put_31 rfl rfl ?_
  refine tg_iload_n hx hb dH_put_32 rfl rfl ?_
  refine tg_iload_n hx hb dH_put_33 rfl rfl ?_
  refine tg_iload hx hb dH_put_34 rfl ?_
  refine tg_iload hx hb dH_put_36 rfl ?_
  refine tg_callV (C := "HangGraph") (As := [.int (nI (x)), .int (nI (y)), .int (nI (((x) + (h)) - (1))), .int (nI (((y) + (v)) - (1)))]) (rest := []) ⟨hx, hb, hml, hown, hts⟩ hK hN hMv (hO.1 0 (by decide)) rfl rfl rfl (c_requireFree hO hMv x y (x + h - 1) (y + v - 1) (by omega) (by omega) (by omega) (by omega) hfree) (cwV 4 hts (lg_V wm_H_37 wi_H_requireFree we_H_requireFree wn_H wc_H_requireFree) rfl rfl rfl ⟨rfl, by decide, by decide, rfl⟩ ⟨by rw [hR]; exact Nat.le_of_ble_eq_true rfl, by rw [hR]; exact Nat.le_of_ble_eq_true rfl⟩) rfl (Nat.le_of_ble_eq_true rfl) ⟨by rw [hR]; exact Nat.le_of_ble_eq_true rfl, by rw [hR]; exact Nat.le_of_ble_eq_true rfl⟩ rfl dH_put_38 (tg_kn rfl rfl ?_)
  refine tg_new (C := "HangGraph$Formula") (T := TF) (N := 15) (ci := 1) (fs := [.int 0, .int 0, .int 0, .int 0, .int 0, .int 0, .null, .int 0, .int 0, .int 0, .int 0, .int 0, .int 0, .int 0, .int 0]) hx hb 8 f hts inF tyF tyF_ok hown (hts _ wk_H_9) (hts _ wz_F) (hts _ wn_F) hK rfl hg_dfF (by rw [hR]; exact Nat.le_of_ble_eq_true rfl) (by rw [hR]; exact Nat.le_of_ble_eq_true rfl) dH_put_41 (fun q8 => ?_)
  obtain ⟨ad8, h8⟩ : ∃ z, z = tg_up ad 8 f q8 := ⟨_, rfl⟩
  rw [← h8]
  have e8 : q8 = ad8 8 f := by rw [h8, tg_up_self]
  refine tg_st (st' := [.ref (ad8 8 f)]) (by rw [e8]) ?_
  refine tg_dup hx hb dH_put_44 rfl ?_
  refine tg_iload_n hx hb dH_put_45 rfl rfl ?_
  refine tg_iload_n hx hb dH_put_46 rfl rfl ?_
  refine tg_iload hx hb dH_put_47 rfl ?_
  refine tg_iload hx hb dH_put_49 rfl ?_
  refine tg_callI (As := [.int (nI (x)), .int (nI (y)), .int (nI (((x) + (h)) - (1))), .int (nI (((y) + (v)) - (1)))]) (rest := [.ref (ad8 8 f)]) ⟨hx, hb, hml, hown, hts⟩ hK hN hMv (c_Finit f (Or.inr ⟨rfl, rfl⟩) x y (x + h - 1) (y + v - 1) (by omega) (by omega)) (cwI 4 hts (lg_N wc_F_init) rfl rfl rfl (hts _ wn_F) (hts _ wm_H_41) (hts _ wi_F_init) rfl ⟨by decide, by decide, rfl⟩ ⟨by rw [hR]; exact Nat.le_of_ble_eq_true rfl, by rw [hR]; exact Nat.le_of_ble_eq_true rfl⟩) rfl (Nat.le_of_ble_eq_true rfl) ⟨by rw [hR]; exact Nat.le_of_ble_eq_true rfl, by rw [hR]; exact Nat.le_of_ble_eq_true rfl⟩ rfl dH_put_51 ?_
  intro r1 ad9 ok9 w9 ⟨hr9, q9, ha9, ho9, hw9⟩
  subst hr9
  subst ho9
  subst hw9
  have f8 : ad9 8 f = ad8 8 f := by rw [ha9, tg_up_ne _ _ (fun z => absurd z.1 (by decide))]
  have f9 : ad9 9 f = q9 := by rw [ha9, tg_up_self]
  have fo : ∀ k i, ¬ (k = 8 ∧ i = f) → ¬ (k = 9 ∧ i = f) → ad9 k i = ad k i := fun k i z1 z2 => by rw [ha9, tg_up_ne _ _ z2, h8, tg_up_ne _ _ z1]
  have f0 : ad 0 0 = ad9 0 0 := (fo 0 0 (fun z => absurd z.1 (by decide)) (fun z => absurd z.1 (by decide))).symm
  refine tg_st (st' := [.ref (ad9 8 f)]) (by rw [f8]; rfl) ?_
  refine tg_to (ad' := ad9) (ok' := fun a b => (ok a b ∨ (a = 8 ∧ b = f)) ∨ (a = 9 ∧ b = f)) (w' := hg_w ad9 cF cI G a dr (hg_nw N f x y (x + h - 1) (y + v - 1)) (va_up bc f (hg_cb y (y + v - 1))) (va_up sp f (fun _ => nI 0)) μ) (fun _ _ z => z) (fun _ _ _ => rfl) (fun k i hki => ?_) ?_
  · by_cases z1 : k = 8 ∧ i = f
    · obtain ⟨rfl, rfl⟩ := z1
      simp [tg_up, hg_w, hg_nw, nI_0, f9, va_up]
    · by_cases z2 : k = 9 ∧ i = f
      · obtain ⟨rfl, rfl⟩ := z2
        simp [tg_up, hg_w, va_up]
      · rw [tg_up_ne _ _ z1, tg_up_ne _ _ z2]
        exact hg_w_nw fo z1 z2 (hO9 k i (hki.elim (fun q => q.elim id (fun q => absurd q z1)) (fun q => absurd q z2)))
  rw [f0]
  have g1 : (hg_nw N f x y (x + h - 1) (y + v - 1)) 1 f = x := hg_nw_s
  have g2 : (hg_nw N f x y (x + h - 1) (y + v - 1)) 2 f = y := hg_nw_s
  have g3 : (hg_nw N f x y (x + h - 1) (y + v - 1)) 3 f = (x + h - 1) := hg_nw_s
  have g4 : (hg_nw N f x y (x + h - 1) (y + v - 1)) 4 f = (y + v - 1) := hg_nw_s
  refine c_putTail (T := fun u => T u ∨ u = f) (hO.push) (fun u hu => ?_) hMv f x y h v (x + h - 1) (y + v - 1) (Or.inr rfl) (by rw [g1, g3]; omega) (by rw [g3]; omega) (by rw [g2, g4]; omega) (by rw [g4]; omega) hx hb hml hr hlocks hown hts hK hN hR ⟨(by rw [hR]; exact Nat.le_of_ble_eq_true rfl), (by rw [hR]; exact Nat.le_of_ble_eq_true rfl)⟩ hQ ?_
  · rcases hu with z | z
    · exact ⟨Or.inl (Or.inl (hT u z).1), Or.inl (Or.inl (hT u z).2)⟩
    · exact ⟨Or.inl (Or.inr ⟨rfl, z⟩), Or.inr ⟨rfl, z⟩⟩
  · rw [g1, g2, g3, g4]
    exact ⟨rfl, ad9, rfl, rfl, fo, rfl⟩
end HGP
