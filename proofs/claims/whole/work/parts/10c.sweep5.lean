/-! the hit are found -/
section HGS5
variable {l : Launch} {D : va_G} {F : Nat → Prop} {Nn : State → Heap → Prop} {ad : Nat → Nat → Nat} {ok : Nat → Nat → Prop} {cF cI cZ cJ cA cB : ClassId} {G : Nat → Nat} {a : Nat → Nat → Option Nat} {dr : Nat → Int32} {N : Nat → Nat → Nat} {bc : Nat → Int32} {sp : Nat → Nat → Int32} {μ : Nat → Nat → va_E} {T : Nat → Prop}
set_option maxRecDepth 100000 in
set_option maxHeartbeats 4000000 in
/-- all that hang on g are hit -/
theorem c_hitAll (hO : hg_ok ok) (hT : ∀ f, T f → ok 8 f ∧ ok 9 f) (hMv : tg_Mv F Nn) (hB : ∀ j u, N j u < 1000000) (hBG : ∀ k, G k < 1000000) (lv hs : Nat → Nat) (hF : hg_FV T ad a G N lv hs) (g : Nat) (hg : T g) : tg_Met l yS_hitAllThatHangOn wsS_hitAllThatHangOn ({ frames := 1, cells := 0, slots := 0, locals := 40 }) D vwCl (hg_tys cI cF cZ cJ cA cB) F Nn ad ok (hg_w ad cF cI G a dr N bc sp μ) [.ref (ad 3 0), .ref (ad 8 g)] (tg_po ad ok fun r w1 => r = none ∧ ∃ a' G' N' hs', w1 = hg_w ad cF cI G' a' dr N' bc sp μ ∧ hg_FK T ad lv a G N hs a' G' N' hs' ∧ (∀ u, T u → hg_hk N bc sp u g → N' 8 u ≠ 0) ∧ ∀ u, N' 8 u ≠ 0 → N 8 u ≠ 0 ∨ (T u ∧ hg_hk N bc sp u g)) := by
  refine tg_start (cc := cS_hitAllThatHangOn) (maxL := 4) (ret := none) (by decide) rfl (Nat.le_of_ble_eq_true rfl) ?_
  intro p e R s m args below meth c Q hx hb hml hr hlocks hown hname hts hK hN hR hQ
  have hown : s.vm.findClass "HangGraph$Sweep" = some m.cls := hown
  have hts : ∀ w ∈ lw_g, w.before args s = true := fun w z => hts w (List.mem_cons_of_mem _ z)
  refine tg_iconst (v := nI 0) hx hb dS_hitAllThatHangOn_0 (by decide +kernel) ?_
  refine tg_istore_n (L' := [(0, .ref (ad 3 0)), (1, .ref (ad 8 g)), (2, .int (nI (0)))]) hx hb dS_hitAllThatHangOn_1 rfl (by decide) rfl rfl ?_
  refine tg_loop (fun x : Nat × (Nat → Nat) × (Nat → Nat → Option Nat) × (Nat → Nat → Nat) × (Nat → Nat) => hg_FK T ad lv a G N hs x.2.2.1 x.2.1 x.2.2.2.1 x.2.2.2.2 ∧ x.1 ≤ G 1 ∧ (∀ k, k < x.1 → hg_hk N bc sp (lv k) g → x.2.2.2.1 8 (lv k) ≠ 0) ∧ ∀ u, x.2.2.2.1 8 u ≠ 0 → N 8 u ≠ 0 ∨ (T u ∧ hg_hk N bc sp u g)) (fun x => G 1 - x.1) (fun x => tg_W p l e R s m args below meth c Q 4 D vwCl F ad ok (hg_w ad cF cI x.2.1 x.2.2.1 dr x.2.2.2.1 bc sp μ) [(0, .ref (ad 3 0)), (1, .ref (ad 8 g)), (2, .int (nI (x.1)))] 0 0 2 []) ?_ (0, G, a, N, hs) ⟨hg_FK.refl hF hB hBG, Nat.zero_le _, fun k hk => absurd hk (Nat.not_lt_zero _), fun u z => Or.inl z⟩
  intro ⟨i, G1, a1, N1, hs1⟩ ⟨hFK, hi0, hcl, hsn⟩ ih
  dsimp only at hFK hi0 hcl hsn ih ⊢
  have hFK' := hFK
  obtain ⟨hFV, hN1, hG1, ha1, hB1, hBG1, hg2, hpre, hmo⟩ := hFK'
  obtain ⟨f1, f2, f3, f4, f5, f6, f7, f8, f9⟩ := hFV
  have hNN := f2
  have hG11 := hG1 1 (by decide)
  refine tg_iload_n hx hb dS_hitAllThatHangOn_2 rfl rfl ?_
  refine tg_aload_n hx hb dS_hitAllThatHangOn_3 rfl rfl ?_
  refine tg_get (T := TS) (N := 9) hx hb hts inS hown hK (hO.1 3 (by decide)) rfl rfl 1 (by decide) (hts _ wf_S_26) (fun _ z => z) rfl dS_hitAllThatHangOn_4 ?_
  have hb_1 := hBG1 1
  refine tg_icmp_ge (tgt := 43) hx hb dS_hitAllThatHangOn_7 (by decide) (fun q_2 => ?_) (fun q_2 => ?_)
  · have q_2' := q_2
    have h_3 : G1 1 ≤ i := (nI_leI (by omega) (by omega)).mp q_2
    exact tg_vret hx hb hlocks hr hQ ⟨rfl, rfl, rfl, a1, G1, N1, hs1, rfl, hFK, fun u hu z => by obtain ⟨k, h1, h2⟩ := f5 u hu; rw [← h2]; exact hcl k (by omega) (by rw [h2]; exact z), hsn⟩ dS_hitAllThatHangOn_43
  · have q_2' := q_2
    have h_4 : i < G1 1 := Nat.lt_of_not_le fun z => q_2 ((nI_leI (by omega) (by omega)).mpr z)
    have hi := f4 i (by omega)
    have hhk : hg_hk N1 bc sp (lv i) g ↔ hg_hk N bc sp (lv i) g := hg_hkE (hN1 1 (by decide)) (hN1 3 (by decide))
    refine tg_aload_n hx hb dS_hitAllThatHangOn_10 rfl rfl ?_
    refine tg_get (T := TS) (N := 9) hx hb hts inS hown hK (hO.1 3 (by decide)) rfl rfl 0 (by decide) (hts _ wf_S_11) (fun _ z => z) rfl dS_hitAllThatHangOn_11 ?_
    refine tg_iload_n hx hb dS_hitAllThatHangOn_14 rfl rfl ?_
    refine tg_aald (t0 := 1) hx hb hK (hO.1 4 (by decide)) rfl rfl (x := i) (by decide) (by omega) dS_hitAllThatHangOn_15 ?_
    refine tg_st (st' := .ref (ad 8 (lv i)) :: []) (by rw [hi.2]; rfl) ?_
    refine tg_astore_n (L' := [(0, .ref (ad 3 0)), (1, .ref (ad 8 g)), (2, .int (nI (i))), (3, .ref (ad 8 (lv i)))]) hx hb dS_hitAllThatHangOn_16 rfl (by decide) rfl rfl ?_
    refine tg_aload_n hx hb dS_hitAllThatHangOn_17 rfl rfl ?_
    refine tg_get (T := TF) (N := 15) hx hb hts inF hown hK (hT (lv i) hi.1).1 rfl rfl 8 (by decide) (hts _ wf_S_62) (fun _ z => z) rfl dS_hitAllThatHangOn_18 ?_
    have hb_5 := hB1 8 (lv i)
    refine tg_if_ne (tgt := 37) hx hb dS_hitAllThatHangOn_21 (by decide) (fun q_6 => ?_) (fun q_6 => ?_)
    · have q_6' := q_6
      rw [← nI_0] at q_6
      have h_7 : N1 8 (lv i) ≠ 0 := fun z => q_6 ((nI_eq (by omega) (by omega)).mpr z)
      refine tg_iinc (v := nI (i + 1)) (L' := [(0, .ref (ad 3 0)), (1, .ref (ad 8 g)), (2, .int (nI (i + 1))), (3, .ref (ad 8 (lv i)))]) hx hb dS_hitAllThatHangOn_37 rfl (nI_1 _) (by decide) rfl rfl ?_
      refine tg_goto (tgt := 2) hx hb dS_hitAllThatHangOn_40 (by decide) ?_
      refine tg_sub (L' := [(0, .ref (ad 3 0)), (1, .ref (ad 8 g)), (2, .int (nI (i + 1)))]) (fun q hq => (List.mem_append_left [(3, .ref (ad 8 (lv i)))] hq : q ∈ [(0, .ref (ad 3 0)), (1, .ref (ad 8 g)), (2, .int (nI (i + 1)))] ++ [(3, .ref (ad 8 (lv i)))])) ?_
      exact ih (i + 1, G1, a1, N1, hs1) ⟨hFK, by dsimp only; omega, lt_s hcl (fun _ => h_7), hsn⟩ (by dsimp only; omega)
    · have q_6' := q_6
      rw [← nI_0] at q_6
      have h_8 : N1 8 (lv i) = 0 := (nI_eq (by omega) (by omega)).mp q_6
      refine tg_aload_n hx hb dS_hitAllThatHangOn_24 rfl rfl ?_
      refine tg_aload_n hx hb dS_hitAllThatHangOn_25 rfl rfl ?_
      refine tg_callV (C := "HangGraph$Formula") (As := [.ref (ad 8 g)]) (rest := []) ⟨hx, hb, hml, hown, hts⟩ hK hN hMv (hT (lv i) hi.1).1 rfl rfl rfl (c_hangsOn hO hT (lv i) g hi.1 hg (hNN _ hg).1 (hNN _ hg).2) (cwV 1 hts (lg_V wm_S_66 wi_F_hangsOn we_F_hangsOn wn_F wc_F_hangsOn) rfl rfl rfl ⟨rfl, by decide, by decide, rfl⟩ ⟨by rw [hR]; exact Nat.le_of_ble_eq_true rfl, by rw [hR]; exact Nat.le_of_ble_eq_true rfl⟩) rfl (Nat.le_of_ble_eq_true rfl) ⟨by rw [hR]; exact Nat.le_of_ble_eq_true rfl, by rw [hR]; exact Nat.le_of_ble_eq_true rfl⟩ rfl dS_hitAllThatHangOn_26 (tg_kv rfl rfl ?_)
      have hb9 := hg_b_le (hg_hk N1 bc sp (lv i) g)
      refine tg_if_eq (tgt := 37) hx hb dS_hitAllThatHangOn_29 (by decide) (fun q_9 => ?_) (fun q_9 => ?_)
      · have q_9' := q_9
        rw [← nI_0] at q_9
        have h_10 : hg_b (hg_hk N1 bc sp (lv i) g) = 0 := (nI_eq (by omega) (by omega)).mp q_9
        refine tg_iinc (v := nI (i + 1)) (L' := [(0, .ref (ad 3 0)), (1, .ref (ad 8 g)), (2, .int (nI (i + 1))), (3, .ref (ad 8 (lv i)))]) hx hb dS_hitAllThatHangOn_37 rfl (nI_1 _) (by decide) rfl rfl ?_
        refine tg_goto (tgt := 2) hx hb dS_hitAllThatHangOn_40 (by decide) ?_
        refine tg_sub (L' := [(0, .ref (ad 3 0)), (1, .ref (ad 8 g)), (2, .int (nI (i + 1)))]) (fun q hq => (List.mem_append_left [(3, .ref (ad 8 (lv i)))] hq : q ∈ [(0, .ref (ad 3 0)), (1, .ref (ad 8 g)), (2, .int (nI (i + 1)))] ++ [(3, .ref (ad 8 (lv i)))])) ?_
        exact ih (i + 1, G1, a1, N1, hs1) ⟨hFK, by dsimp only; omega, lt_s hcl (fun z => absurd (hhk.mpr z) (hg_b0 h_10)), hsn⟩ (by dsimp only; omega)
      · have q_9' := q_9
        rw [← nI_0] at q_9
        have h_11 : hg_b (hg_hk N1 bc sp (lv i) g) ≠ 0 := fun z => q_9 ((nI_eq (by omega) (by omega)).mpr z)
        refine tg_aload_n hx hb dS_hitAllThatHangOn_32 rfl rfl ?_
        refine tg_aload_n hx hb dS_hitAllThatHangOn_33 rfl rfl ?_
        have hA := hFK.add hi.1 (by omega)
        refine tg_callV (C := "HangGraph$Sweep") (As := [.ref (ad 8 (lv i))]) (rest := []) ⟨hx, hb, hml, hown, hts⟩ hK hN hMv (hO.1 3 (by decide)) rfl rfl rfl (c_addHit hO hT (lv i) hi.1 hA.1) (cwV 1 hts (lg_V wm_S_55 wi_S_addHit we_S_addHit wn_S wc_S_addHit) rfl rfl rfl ⟨rfl, by decide, by decide, rfl⟩ ⟨by rw [hR]; exact Nat.le_of_ble_eq_true rfl, by rw [hR]; exact Nat.le_of_ble_eq_true rfl⟩) rfl (Nat.le_of_ble_eq_true rfl) ⟨by rw [hR]; exact Nat.le_of_ble_eq_true rfl, by rw [hR]; exact Nat.le_of_ble_eq_true rfl⟩ rfl dS_hitAllThatHangOn_34 (tg_kn rfl rfl ?_)
        refine tg_iinc (v := nI (i + 1)) (L' := [(0, .ref (ad 3 0)), (1, .ref (ad 8 g)), (2, .int (nI (i + 1))), (3, .ref (ad 8 (lv i)))]) hx hb dS_hitAllThatHangOn_37 rfl (nI_1 _) (by decide) rfl rfl ?_
        refine tg_goto (tgt := 2) hx hb dS_hitAllThatHangOn_40 (by decide) ?_
        refine tg_sub (L' := [(0, .ref (ad 3 0)), (1, .ref (ad 8 g)), (2, .int (nI (i + 1)))]) (fun q hq => (List.mem_append_left [(3, .ref (ad 8 (lv i)))] hq : q ∈ [(0, .ref (ad 3 0)), (1, .ref (ad 8 g)), (2, .int (nI (i + 1)))] ++ [(3, .ref (ad 8 (lv i)))])) ?_
        exact ih (i + 1, (va_up G1 2 (G1 2 + 1)), (va_up a1 2 (va_up (a1 2) (G1 2) (some (ad 8 (lv i))))), (tg_up N1 8 (lv i) 1), (va_up hs1 (G1 2) (lv i))) ⟨hA.2, by dsimp only; omega, by dsimp only; rw [hg_colA]; exact lt_s (fun k hk z => by unfold va_up; split; omega; exact hcl k hk z) (fun _ => by rw [va_up_self]; omega), by dsimp only; rw [hg_colA]; exact fun u hu => by by_cases z : u = lv i; exact Or.inr ⟨by rw [z]; exact hi.1, by rw [z]; exact hhk.mp (hg_b1 h_11)⟩; rw [va_up_ne _ _ z] at hu; exact hsn u hu⟩ (by dsimp only; omega)
set_option maxRecDepth 100000 in
set_option maxHeartbeats 4000000 in
/-- the hit are found -/
theorem c_findHit (hO : hg_ok ok) (hT : ∀ f, T f → ok 8 f ∧ ok 9 f) (hMv : tg_Mv F Nn) (hB : ∀ j u, N j u < 1000000) (hBG : ∀ k, G k < 1000000) (lv hs : Nat → Nat) (hF : hg_FV T ad a G N lv hs) (h80 : ∀ u, N 8 u = 0) : tg_Met l yS_findHit wsS_findHit ({ frames := 2, cells := 0, slots := 0, locals := 90 }) D vwCl (hg_tys cI cF cZ cJ cA cB) F Nn ad ok (hg_w ad cF cI G a dr N bc sp μ) [.ref (ad 3 0), .ref (ad 2 0)] (tg_po ad ok fun r w1 => r = none ∧ ∃ a' G' N' hs', w1 = hg_w ad cF cI G' a' dr N' bc sp μ ∧ hg_FK T ad lv a G N hs a' G' N' hs' ∧ ∀ f, N' 8 f ≠ 0 ↔ ∃ g, hg_R (fun u v => T u ∧ T v ∧ hg_hk N bc sp u v) f g ∧ T g ∧ (hg_hh N bc dr g ∨ hg_hd sp dr g)) := by
  refine tg_start (cc := cS_findHit) (maxL := 4) (ret := none) (by decide) rfl (Nat.le_of_ble_eq_true rfl) ?_
  intro p e R s m args below meth c Q hx hb hml hr hlocks hown hname hts hK hN hR hQ
  have hown : s.vm.findClass "HangGraph$Sweep" = some m.cls := hown
  have hts : ∀ w ∈ lw_g, w.before args s = true := fun w z => hts w (List.mem_cons_of_mem _ z)
  refine tg_iconst (v := nI 0) hx hb dS_findHit_0 (by decide +kernel) ?_
  refine tg_istore_n (L' := [(0, .ref (ad 3 0)), (1, .ref (ad 2 0)), (2, .int (nI (0)))]) hx hb dS_findHit_1 rfl (by decide) rfl rfl ?_
  refine tg_loop (fun x : Nat × (Nat → Nat) × (Nat → Nat → Option Nat) × (Nat → Nat → Nat) × (Nat → Nat) => hg_FK T ad lv a G N hs x.2.2.1 x.2.1 x.2.2.2.1 x.2.2.2.2 ∧ x.1 ≤ G 1 ∧ (∀ k, k < x.1 → (hg_hh N bc dr (lv k) ∨ hg_hd sp dr (lv k)) → x.2.2.2.1 8 (lv k) ≠ 0) ∧ ∀ u, x.2.2.2.1 8 u ≠ 0 → (hg_hh N bc dr u ∨ hg_hd sp dr u) ∧ ∃ k, k < x.1 ∧ lv k = u) (fun x => G 1 - x.1) (fun x => tg_W p l e R s m args below meth c Q 4 D vwCl F ad ok (hg_w ad cF cI x.2.1 x.2.2.1 dr x.2.2.2.1 bc sp μ) [(0, .ref (ad 3 0)), (1, .ref (ad 2 0)), (2, .int (nI (x.1)))] 0 0 2 []) ?_ (0, G, a, N, hs) ⟨hg_FK.refl hF hB hBG, Nat.zero_le _, fun k hk => absurd hk (Nat.not_lt_zero _), fun u z => absurd (h80 u) z⟩
  intro ⟨i, G1, a1, N1, hs1⟩ ⟨hFK, hi0, hcl, hsn⟩ ih
  dsimp only at hFK hi0 hcl hsn ih ⊢
  have hFK' := hFK
  obtain ⟨hFV, hN1, hG1, ha1, hB1, hBG1, hg2, hpre, hmo⟩ := hFK'
  obtain ⟨f1, f2, f3, f4, f5, f6, f7, f8, f9⟩ := hFV
  have hNN := f2
  have hG11 := hG1 1 (by decide)
  refine tg_iload_n hx hb dS_findHit_2 rfl rfl ?_
  refine tg_aload_n hx hb dS_findHit_3 rfl rfl ?_
  refine tg_get (T := TS) (N := 9) hx hb hts inS hown hK (hO.1 3 (by decide)) rfl rfl 1 (by decide) (hts _ wf_S_26) (fun _ z => z) rfl dS_findHit_4 ?_
  have hb_1 := hBG1 1
  refine tg_icmp_ge (tgt := 44) hx hb dS_findHit_7 (by decide) (fun q_2 => ?_) (fun q_2 => ?_)
  · have q_2' := q_2
    have h_3 : G1 1 ≤ i := (nI_leI (by omega) (by omega)).mp q_2
    refine tg_iconst (v := nI 0) hx hb dS_findHit_44 (by decide +kernel) ?_
    refine tg_istore_n (L' := [(0, .ref (ad 3 0)), (1, .ref (ad 2 0)), (2, .int (nI (0)))]) hx hb dS_findHit_45 rfl (by decide) rfl rfl ?_
    have hini : ∀ u, T u → (hg_hh N bc dr u ∨ hg_hd sp dr u) → N1 8 u ≠ 0 := fun u hu z => by obtain ⟨k, h1, h2⟩ := f5 u hu; rw [← h2]; exact hcl k (by omega) (by rw [h2]; exact z)
    have hsn0 : ∀ u, N1 8 u ≠ 0 → ∃ g, hg_R (fun u v => T u ∧ T v ∧ hg_hk N bc sp u v) u g ∧ T g ∧ (hg_hh N bc dr g ∨ hg_hd sp dr g) := fun u z => ⟨u, hg_R_refl _ u, by obtain ⟨j, h1, h2⟩ := f8 u z; rw [← h2]; exact (f7 j h1).1, (hsn u z).1⟩
    refine tg_loop (fun x : Nat × (Nat → Nat) × (Nat → Nat → Option Nat) × (Nat → Nat → Nat) × (Nat → Nat) => hg_FK T ad lv a G N hs x.2.2.1 x.2.1 x.2.2.2.1 x.2.2.2.2 ∧ (∀ u, T u → (hg_hh N bc dr u ∨ hg_hd sp dr u) → x.2.2.2.1 8 u ≠ 0) ∧ (x.1 ≤ 400 ∧ ∀ j, j < x.1 → j < x.2.1 2 → ∀ u, T u → hg_hk N bc sp u (x.2.2.2.2 j) → x.2.2.2.1 8 u ≠ 0) ∧ ∀ u, x.2.2.2.1 8 u ≠ 0 → ∃ g, hg_R (fun u v => T u ∧ T v ∧ hg_hk N bc sp u v) u g ∧ T g ∧ (hg_hh N bc dr g ∨ hg_hd sp dr g)) (fun x => 400 - x.1) (fun x => tg_W p l e R s m args below meth c Q 4 D vwCl F ad ok (hg_w ad cF cI x.2.1 x.2.2.1 dr x.2.2.2.1 bc sp μ) [(0, .ref (ad 3 0)), (1, .ref (ad 2 0)), (2, .int (nI (x.1)))] 0 0 46 []) ?_ (0, G1, a1, N1, hs1) ⟨hFK, hini, ⟨Nat.zero_le _, fun j hj => absurd hj (Nat.not_lt_zero _)⟩, hsn0⟩
    clear hFK hi0 hcl hsn ih hN1 hG1 ha1 hB1 hBG1 hg2 hpre hmo f1 f2 f3 f4 f5 f6 f7 f8 f9 hNN hG11 hini hsn0
    intro ⟨i, G1, a1, N1, hs1⟩ ⟨hFK, hini, ⟨hi0, hcl⟩, hsn⟩ ih
    dsimp only at hFK hini hi0 hcl hsn ih ⊢
    have hFK' := hFK
    obtain ⟨hFV, hN1, hG1, ha1, hB1, hBG1, hg2, hpre, hmo⟩ := hFK'
    obtain ⟨f1, f2, f3, f4, f5, f6, f7, f8, f9⟩ := hFV
    have hrm := hFK.1.room
    refine tg_iload_n hx hb dS_findHit_46 rfl rfl ?_
    refine tg_sipush (v := nI 400) hx hb dS_findHit_47 (by decide +kernel) ?_
    refine tg_icmp_ge (tgt := 77) hx hb dS_findHit_50 (by decide) (fun q_4 => ?_) (fun q_4 => ?_)
    · have q_4' := q_4
      have h_5 : 400 ≤ i := (nI_leI (by omega) (by omega)).mp q_4
      have hend : G1 2 ≤ i := by omega
      exact tg_vret hx hb hlocks hr hQ ⟨rfl, rfl, rfl, a1, G1, N1, hs1, rfl, hFK, fun f => hg_hit_uniq (e := (fun u v => T u ∧ T v ∧ hg_hk N bc sp u v)) (h0 := fun g => T g ∧ (hg_hh N bc dr g ∨ hg_hd sp dr g)) (S := fun u => N1 8 u ≠ 0) (fun f z => hini f z.1 z.2) (fun f g z hg => by obtain ⟨j, h1, h2⟩ := f8 g hg; exact hcl j (by omega) h1 f z.1 (by rw [h2]; exact z.2.2)) hsn f⟩ dS_findHit_77
    · have q_4' := q_4
      have h_6 : i < 400 := Nat.lt_of_not_le fun z => q_4 ((nI_leI (by omega) (by omega)).mpr z)
      refine tg_iload_n hx hb dS_findHit_53 rfl rfl ?_
      refine tg_aload_n hx hb dS_findHit_54 rfl rfl ?_
      refine tg_get (T := TS) (N := 9) hx hb hts inS hown hK (hO.1 3 (by decide)) rfl rfl 3 (by decide) (hts _ wf_S_30) (fun _ z => z) rfl dS_findHit_55 ?_
      have hb_7 := hBG1 2
      refine tg_icmp_ge (tgt := 77) hx hb dS_findHit_58 (by decide) (fun q_8 => ?_) (fun q_8 => ?_)
      · have q_8' := q_8
        have h_9 : G1 2 ≤ i := (nI_leI (by omega) (by omega)).mp q_8
        have hend : G1 2 ≤ i := by omega
        exact tg_vret hx hb hlocks hr hQ ⟨rfl, rfl, rfl, a1, G1, N1, hs1, rfl, hFK, fun f => hg_hit_uniq (e := (fun u v => T u ∧ T v ∧ hg_hk N bc sp u v)) (h0 := fun g => T g ∧ (hg_hh N bc dr g ∨ hg_hd sp dr g)) (S := fun u => N1 8 u ≠ 0) (fun f z => hini f z.1 z.2) (fun f g z hg => by obtain ⟨j, h1, h2⟩ := f8 g hg; exact hcl j (by omega) h1 f z.1 (by rw [h2]; exact z.2.2)) hsn f⟩ dS_findHit_77
      · have q_8' := q_8
        have h_10 : i < G1 2 := Nat.lt_of_not_le fun z => q_8 ((nI_leI (by omega) (by omega)).mpr z)
        have hi := f7 i (by omega)
        refine tg_aload_n hx hb dS_findHit_61 rfl rfl ?_
        refine tg_aload_n hx hb dS_findHit_62 rfl rfl ?_
        refine tg_get (T := TS) (N := 9) hx hb hts inS hown hK (hO.1 3 (by decide)) rfl rfl 2 (by decide) (hts _ wf_S_17) (fun _ z => z) rfl dS_findHit_63 ?_
        refine tg_iload_n hx hb dS_findHit_66 rfl rfl ?_
        refine tg_aald (t0 := 1) hx hb hK (hO.1 5 (by decide)) rfl rfl (x := i) (by decide) (by omega) dS_findHit_67 ?_
        refine tg_st (st' := .ref (ad 8 (hs1 i)) :: [.ref (ad 3 0)]) (by rw [hi.2.2]; rfl) ?_
        refine tg_callV (C := "HangGraph$Sweep") (As := [.ref (ad 8 (hs1 i))]) (rest := []) ⟨hx, hb, hml, hown, hts⟩ hK hN hMv (hO.1 3 (by decide)) rfl rfl rfl (c_hitAll hO hT hMv hB1 hBG1 lv hs1 hFK.1 (hs1 i) hi.1) (cwV 1 hts (lg_V wm_S_59 wi_S_hitAllThatHangOn we_S_hitAllThatHangOn wn_S wc_S_hitAllThatHangOn) rfl rfl rfl ⟨rfl, by decide, by decide, rfl⟩ ⟨by rw [hR]; exact Nat.le_of_ble_eq_true rfl, by rw [hR]; exact Nat.le_of_ble_eq_true rfl⟩) rfl (Nat.le_of_ble_eq_true rfl) ⟨by rw [hR]; exact Nat.le_of_ble_eq_true rfl, by rw [hR]; exact Nat.le_of_ble_eq_true rfl⟩ rfl dS_findHit_68 (tg_kk rfl rfl ?_)
        intro r w1 ⟨hr2, a2, G2_, N2, hs2, hw2, hFK2, hcl2, hsn2⟩
        rw [hr2, hw2]
        refine tg_st (st' := []) rfl ?_
        refine tg_iinc (v := nI (i + 1)) (L' := [(0, .ref (ad 3 0)), (1, .ref (ad 2 0)), (2, .int (nI (i + 1)))]) hx hb dS_findHit_71 rfl (nI_1 _) (by decide) rfl rfl ?_
        refine tg_goto (tgt := 46) hx hb dS_findHit_74 (by decide) ?_
        exact ih (i + 1, G2_, a2, N2, hs2) ⟨hFK.trans hFK2, fun u hu z => hFK2.2.2.2.2.2.2.2.2 u (hini u hu z), ⟨by dsimp only; omega, fun j hj hj2 u hu z => by
          dsimp only at hj hj2 z ⊢
          rcases Nat.lt_succ_iff_lt_or_eq.mp hj with q | q
          · have hj3 : j < G1 2 := by omega
            rw [hFK2.2.2.2.2.2.2.2.1 j hj3] at z
            exact hFK2.2.2.2.2.2.2.2.2 u (hcl j q hj3 u hu z)
          · rw [q, hFK2.2.2.2.2.2.2.2.1 i (by omega)] at z
            exact hcl2 u hu ((hg_hkE (hN1 1 (by decide)) (hN1 3 (by decide))).mpr z)⟩, fun u hu => by
          rcases hsn2 u hu with q | ⟨q1, q2⟩
          · exact hsn u q
          · obtain ⟨g, r1, r2⟩ := hsn (hs1 i) hi.2.1
            exact ⟨g, hg_R_step ⟨q1, hi.1, (hg_hkE (hN1 1 (by decide)) (hN1 3 (by decide))).mp q2⟩ r1, r2⟩⟩ (by dsimp only; omega)
  · have q_2' := q_2
    have h_11 : i < G1 1 := Nat.lt_of_not_le fun z => q_2 ((nI_leI (by omega) (by omega)).mpr z)
    have hi := f4 i (by omega)
    have hhh : hg_hh N1 bc dr (lv i) ↔ hg_hh N bc dr (lv i) := hg_hhE (hN1 1 (by decide)) (hN1 3 (by decide))
    have hz8 : N1 8 (lv i) = 0 := Decidable.byContradiction fun z => by obtain ⟨-, k, q1, q2⟩ := hsn _ z; have := f6 k i q1 (by omega); omega
    refine tg_aload_n hx hb dS_findHit_10 rfl rfl ?_
    refine tg_get (T := TS) (N := 9) hx hb hts inS hown hK (hO.1 3 (by decide)) rfl rfl 0 (by decide) (hts _ wf_S_11) (fun _ z => z) rfl dS_findHit_11 ?_
    refine tg_iload_n hx hb dS_findHit_14 rfl rfl ?_
    refine tg_aald (t0 := 1) hx hb hK (hO.1 4 (by decide)) rfl rfl (x := i) (by decide) (by omega) dS_findHit_15 ?_
    refine tg_st (st' := .ref (ad 8 (lv i)) :: []) (by rw [hi.2]; rfl) ?_
    refine tg_astore_n (L' := [(0, .ref (ad 3 0)), (1, .ref (ad 2 0)), (2, .int (nI (i))), (3, .ref (ad 8 (lv i)))]) hx hb dS_findHit_16 rfl (by decide) rfl rfl ?_
    refine tg_aload_n hx hb dS_findHit_17 rfl rfl ?_
    refine tg_aload_n hx hb dS_findHit_18 rfl rfl ?_
    refine tg_callV (C := "HangGraph$Formula") (As := [.ref (ad 2 0)]) (rest := []) ⟨hx, hb, hml, hown, hts⟩ hK hN hMv (hT (lv i) hi.1).1 rfl rfl rfl (c_holdsOneOf hO hT (lv i) hi.1 (hNN _ hi.1).1 (hNN _ hi.1).2) (cwV 1 hts (lg_V wm_S_48 wi_F_holdsOneOf we_F_holdsOneOf wn_F wc_F_holdsOneOf) rfl rfl rfl ⟨rfl, by decide, by decide, rfl⟩ ⟨by rw [hR]; exact Nat.le_of_ble_eq_true rfl, by rw [hR]; exact Nat.le_of_ble_eq_true rfl⟩) rfl (Nat.le_of_ble_eq_true rfl) ⟨by rw [hR]; exact Nat.le_of_ble_eq_true rfl, by rw [hR]; exact Nat.le_of_ble_eq_true rfl⟩ rfl dS_findHit_19 (tg_kv rfl rfl ?_)
    have hb9 := hg_b_le (hg_hh N1 bc dr (lv i))
    refine tg_if_ne (tgt := 33) hx hb dS_findHit_22 (by decide) (fun q_12 => ?_) (fun q_12 => ?_)
    · have q_12' := q_12
      rw [← nI_0] at q_12
      have h_13 : hg_b (hg_hh N1 bc dr (lv i)) ≠ 0 := fun z => q_12 ((nI_eq (by omega) (by omega)).mpr z)
      refine tg_aload_n hx hb dS_findHit_33 rfl rfl ?_
      refine tg_aload_n hx hb dS_findHit_34 rfl rfl ?_
      have hA := hFK.add hi.1 hz8
      refine tg_callV (C := "HangGraph$Sweep") (As := [.ref (ad 8 (lv i))]) (rest := []) ⟨hx, hb, hml, hown, hts⟩ hK hN hMv (hO.1 3 (by decide)) rfl rfl rfl (c_addHit hO hT (lv i) hi.1 hA.1) (cwV 1 hts (lg_V wm_S_55 wi_S_addHit we_S_addHit wn_S wc_S_addHit) rfl rfl rfl ⟨rfl, by decide, by decide, rfl⟩ ⟨by rw [hR]; exact Nat.le_of_ble_eq_true rfl, by rw [hR]; exact Nat.le_of_ble_eq_true rfl⟩) rfl (Nat.le_of_ble_eq_true rfl) ⟨by rw [hR]; exact Nat.le_of_ble_eq_true rfl, by rw [hR]; exact Nat.le_of_ble_eq_true rfl⟩ rfl dS_findHit_35 (tg_kn rfl rfl ?_)
      refine tg_iinc (v := nI (i + 1)) (L' := [(0, .ref (ad 3 0)), (1, .ref (ad 2 0)), (2, .int (nI (i + 1))), (3, .ref (ad 8 (lv i)))]) hx hb dS_findHit_38 rfl (nI_1 _) (by decide) rfl rfl ?_
      refine tg_goto (tgt := 2) hx hb dS_findHit_41 (by decide) ?_
      refine tg_sub (L' := [(0, .ref (ad 3 0)), (1, .ref (ad 2 0)), (2, .int (nI (i + 1)))]) (fun q hq => (List.mem_append_left [(3, .ref (ad 8 (lv i)))] hq : q ∈ [(0, .ref (ad 3 0)), (1, .ref (ad 2 0)), (2, .int (nI (i + 1)))] ++ [(3, .ref (ad 8 (lv i)))])) ?_
      exact ih (i + 1, (va_up G1 2 (G1 2 + 1)), (va_up a1 2 (va_up (a1 2) (G1 2) (some (ad 8 (lv i))))), (tg_up N1 8 (lv i) 1), (va_up hs1 (G1 2) (lv i))) ⟨hA.2, by dsimp only; omega, by dsimp only; rw [hg_colA]; exact lt_s (fun k hk z => by unfold va_up; split; omega; exact hcl k hk z) (fun _ => by rw [va_up_self]; omega), by dsimp only; rw [hg_colA]; exact fun u hu => by by_cases z : u = lv i; exact ⟨by rw [z]; exact Or.inl (hhh.mp (hg_b1 h_13)), i, Nat.lt_succ_self i, z.symm⟩; rw [va_up_ne _ _ z] at hu; obtain ⟨q0, k, q1, q2⟩ := hsn u hu; exact ⟨q0, k, Nat.lt_succ_of_lt q1, q2⟩⟩ (by dsimp only; omega)
    · have q_12' := q_12
      rw [← nI_0] at q_12
      have h_14 : hg_b (hg_hh N1 bc dr (lv i)) = 0 := (nI_eq (by omega) (by omega)).mp q_12
      refine tg_aload_n hx hb dS_findHit_25 rfl rfl ?_
      refine tg_aload_n hx hb dS_findHit_26 rfl rfl ?_
      refine tg_callV (C := "HangGraph$Formula") (As := [.ref (ad 2 0)]) (rest := []) ⟨hx, hb, hml, hown, hts⟩ hK hN hMv (hT (lv i) hi.1).1 rfl rfl rfl (c_hangsOnOneOf hO hT (lv i) hi.1) (cwV 1 hts (lg_V wm_S_52 wi_F_hangsOnOneOf we_F_hangsOnOneOf wn_F wc_F_hangsOnOneOf) rfl rfl rfl ⟨rfl, by decide, by decide, rfl⟩ ⟨by rw [hR]; exact Nat.le_of_ble_eq_true rfl, by rw [hR]; exact Nat.le_of_ble_eq_true rfl⟩) rfl (Nat.le_of_ble_eq_true rfl) ⟨by rw [hR]; exact Nat.le_of_ble_eq_true rfl, by rw [hR]; exact Nat.le_of_ble_eq_true rfl⟩ rfl dS_findHit_27 (tg_kv rfl rfl ?_)
      have hb8 := hg_b_le (hg_hd sp dr (lv i))
      refine tg_if_eq (tgt := 38) hx hb dS_findHit_30 (by decide) (fun q_15 => ?_) (fun q_15 => ?_)
      · have q_15' := q_15
        rw [← nI_0] at q_15
        have h_16 : hg_b (hg_hd sp dr (lv i)) = 0 := (nI_eq (by omega) (by omega)).mp q_15
        refine tg_iinc (v := nI (i + 1)) (L' := [(0, .ref (ad 3 0)), (1, .ref (ad 2 0)), (2, .int (nI (i + 1))), (3, .ref (ad 8 (lv i)))]) hx hb dS_findHit_38 rfl (nI_1 _) (by decide) rfl rfl ?_
        refine tg_goto (tgt := 2) hx hb dS_findHit_41 (by decide) ?_
        refine tg_sub (L' := [(0, .ref (ad 3 0)), (1, .ref (ad 2 0)), (2, .int (nI (i + 1)))]) (fun q hq => (List.mem_append_left [(3, .ref (ad 8 (lv i)))] hq : q ∈ [(0, .ref (ad 3 0)), (1, .ref (ad 2 0)), (2, .int (nI (i + 1)))] ++ [(3, .ref (ad 8 (lv i)))])) ?_
        exact ih (i + 1, G1, a1, N1, hs1) ⟨hFK, by dsimp only; omega, lt_s hcl (fun z => z.elim (fun z => absurd (hhh.mpr z) (hg_b0 h_14)) (fun z => absurd z (hg_b0 h_16))), fun u z => ⟨(hsn u z).1, by obtain ⟨k, q1, q2⟩ := (hsn u z).2; exact ⟨k, Nat.lt_succ_of_lt q1, q2⟩⟩⟩ (by dsimp only; omega)
      · have q_15' := q_15
        rw [← nI_0] at q_15
        have h_17 : hg_b (hg_hd sp dr (lv i)) ≠ 0 := fun z => q_15 ((nI_eq (by omega) (by omega)).mpr z)
        refine tg_aload_n hx hb dS_findHit_33 rfl rfl ?_
        refine tg_aload_n hx hb dS_findHit_34 rfl rfl ?_
        have hA := hFK.add hi.1 hz8
        refine tg_callV (C := "HangGraph$Sweep") (As := [.ref (ad 8 (lv i))]) (rest := []) ⟨hx, hb, hml, hown, hts⟩ hK hN hMv (hO.1 3 (by decide)) rfl rfl rfl (c_addHit hO hT (lv i) hi.1 hA.1) (cwV 1 hts (lg_V wm_S_55 wi_S_addHit we_S_addHit wn_S wc_S_addHit) rfl rfl rfl ⟨rfl, by decide, by decide, rfl⟩ ⟨by rw [hR]; exact Nat.le_of_ble_eq_true rfl, by rw [hR]; exact Nat.le_of_ble_eq_true rfl⟩) rfl (Nat.le_of_ble_eq_true rfl) ⟨by rw [hR]; exact Nat.le_of_ble_eq_true rfl, by rw [hR]; exact Nat.le_of_ble_eq_true rfl⟩ rfl dS_findHit_35 (tg_kn rfl rfl ?_)
        refine tg_iinc (v := nI (i + 1)) (L' := [(0, .ref (ad 3 0)), (1, .ref (ad 2 0)), (2, .int (nI (i + 1))), (3, .ref (ad 8 (lv i)))]) hx hb dS_findHit_38 rfl (nI_1 _) (by decide) rfl rfl ?_
        refine tg_goto (tgt := 2) hx hb dS_findHit_41 (by decide) ?_
        refine tg_sub (L' := [(0, .ref (ad 3 0)), (1, .ref (ad 2 0)), (2, .int (nI (i + 1)))]) (fun q hq => (List.mem_append_left [(3, .ref (ad 8 (lv i)))] hq : q ∈ [(0, .ref (ad 3 0)), (1, .ref (ad 2 0)), (2, .int (nI (i + 1)))] ++ [(3, .ref (ad 8 (lv i)))])) ?_
        exact ih (i + 1, (va_up G1 2 (G1 2 + 1)), (va_up a1 2 (va_up (a1 2) (G1 2) (some (ad 8 (lv i))))), (tg_up N1 8 (lv i) 1), (va_up hs1 (G1 2) (lv i))) ⟨hA.2, by dsimp only; omega, by dsimp only; rw [hg_colA]; exact lt_s (fun k hk z => by unfold va_up; split; omega; exact hcl k hk z) (fun _ => by rw [va_up_self]; omega), by dsimp only; rw [hg_colA]; exact fun u hu => by by_cases z : u = lv i; exact ⟨by rw [z]; exact Or.inr (hg_b1 h_17), i, Nat.lt_succ_self i, z.symm⟩; rw [va_up_ne _ _ z] at hu; obtain ⟨q0, k, q1, q2⟩ := hsn u hu; exact ⟨q0, k, Nat.lt_succ_of_lt q1, q2⟩⟩ (by dsimp only; omega)
end HGS5
