/-! the formula's own methods -/
abbrev hg_tys (cI cF cZ cJ cA cB : ClassId) : List (ClassId × FieldType) := [(cI, .int), (cF, .object "HangGraph$Formula"), (cZ, .boolean), (cJ, .long), (cA, .array .int), (cB, .array .boolean)]
/-- f hangs on g: a row of g's block where f speaks of one of its columns -/
def hg_hk (N : Nat → Nat → Nat) (bc : Nat → Int32) (sp : Nat → Nat → Int32) (f g : Nat) : Prop := ∃ row, N 1 g ≤ row ∧ row ≤ N 3 g ∧ ¬ ((sp f row) &&& (bc g)) = 0
/-- f speaks of a cell of the rows x -/
def hg_hd (sp : Nat → Nat → Int32) (x : Nat → Int32) (f : Nat) : Prop := ∃ row, row < 20 ∧ ¬ ((sp f row) &&& (x row)) = 0
/-- f's block has a cell of the rows x -/
def hg_hh (N : Nat → Nat → Nat) (bc : Nat → Int32) (x : Nat → Int32) (f : Nat) : Prop := ∃ row, N 1 f ≤ row ∧ row ≤ N 3 f ∧ ¬ ((bc f) &&& (x row)) = 0
section HGF
variable {l : Launch} {D : va_G} {F : Nat → Prop} {Nn : State → Heap → Prop} {ad : Nat → Nat → Nat} {ok : Nat → Nat → Prop} {cF cI cZ cJ cA cB : ClassId} {G : Nat → Nat} {a : Nat → Nat → Option Nat} {dr : Nat → Int32} {N : Nat → Nat → Nat} {bc : Nat → Int32} {sp : Nat → Nat → Int32} {μ : Nat → Nat → va_E} {T : Nat → Prop}
/-- a formula forgets the last sweep -/
def hg_fg (N : Nat → Nat → Nat) (f : Nat) : Nat → Nat → Nat := (tg_up (tg_up (tg_up (tg_up (tg_up (tg_up (tg_up N 8 f 0) 9 f 0) 10 f 0) 11 f 0) 12 f 0) 13 f 0) 14 f 0)
set_option maxRecDepth 100000 in
set_option maxHeartbeats 4000000 in
/-- forget -/
theorem c_forget (hO : hg_ok ok) (hT : ∀ f, T f → ok 8 f ∧ ok 9 f) (f : Nat) (hf : T f) : tg_Met l yF_forget wsF_forget ({ frames := 0, cells := 0, slots := 0, locals := 0 }) D vwCl (hg_tys cI cF cZ cJ cA cB) F Nn ad ok (hg_w ad cF cI G a dr N bc sp μ) [.ref (ad 8 f)] (tg_po ad ok fun r w1 => r = none ∧ w1 = hg_w ad cF cI G a dr (hg_fg N f) bc sp μ) := by
  refine tg_start (cc := cF_forget) (maxL := 1) (ret := none) (by decide) rfl (Nat.le_of_ble_eq_true rfl) ?_
  intro p e R s m args below meth c Q hx hb hml hr hlocks hown hname hts hK hN hR hQ
  have hown : s.vm.findClass "HangGraph$Formula" = some m.cls := hown
  have hts : ∀ w ∈ lw_g, w.before args s = true := fun w z => hts w (List.mem_cons_of_mem _ z)
  refine tg_aload_n hx hb dF_forget_0 rfl rfl ?_
  refine tg_iconst (v := nI 0) hx hb dF_forget_1 (by decide +kernel) ?_
  refine tg_put (T := TF) (N := 15) (ty := .boolean) hx hb hts inF tyF tyF_ok nmF hown hK (hT f hf).1 rfl rfl 8 (by decide) (hts _ wf_F_44) (fun _ z => z) rfl (by decide +kernel) (by decide +kernel) (by decide +kernel) (Nat.le_of_ble_eq_true rfl) dF_forget_2 ?_
  refine tg_w (hg_w_N8 f 0) ?_
  refine tg_aload_n hx hb dF_forget_5 rfl rfl ?_
  refine tg_iconst (v := nI 0) hx hb dF_forget_6 (by decide +kernel) ?_
  refine tg_put (T := TF) (N := 15) (ty := .boolean) hx hb hts inF tyF tyF_ok nmF hown hK (hT f hf).1 rfl rfl 9 (by decide) (hts _ wf_F_48) (fun _ z => z) rfl (by decide +kernel) (by decide +kernel) (by decide +kernel) (Nat.le_of_ble_eq_true rfl) dF_forget_7 ?_
  refine tg_w (hg_w_N9 f 0) ?_
  refine tg_aload_n hx hb dF_forget_10 rfl rfl ?_
  refine tg_iconst (v := nI 0) hx hb dF_forget_11 (by decide +kernel) ?_
  refine tg_put (T := TF) (N := 15) (ty := .int) hx hb hts inF tyF tyF_ok nmF hown hK (hT f hf).1 rfl rfl 10 (by decide) (hts _ wf_F_51) (fun _ z => z) rfl (by decide +kernel) rfl rfl (Nat.le_of_ble_eq_true rfl) dF_forget_12 ?_
  refine tg_w (hg_w_N10 f 0) ?_
  refine tg_aload_n hx hb dF_forget_15 rfl rfl ?_
  refine tg_iconst (v := nI 0) hx hb dF_forget_16 (by decide +kernel) ?_
  refine tg_put (T := TF) (N := 15) (ty := .int) hx hb hts inF tyF tyF_ok nmF hown hK (hT f hf).1 rfl rfl 11 (by decide) (hts _ wf_F_54) (fun _ z => z) rfl (by decide +kernel) rfl rfl (Nat.le_of_ble_eq_true rfl) dF_forget_17 ?_
  refine tg_w (hg_w_N11 f 0) ?_
  refine tg_aload_n hx hb dF_forget_20 rfl rfl ?_
  refine tg_iconst (v := nI 0) hx hb dF_forget_21 (by decide +kernel) ?_
  refine tg_put (T := TF) (N := 15) (ty := .int) hx hb hts inF tyF tyF_ok nmF hown hK (hT f hf).1 rfl rfl 12 (by decide) (hts _ wf_F_57) (fun _ z => z) rfl (by decide +kernel) rfl rfl (Nat.le_of_ble_eq_true rfl) dF_forget_22 ?_
  refine tg_w (hg_w_N12 f 0) ?_
  refine tg_aload_n hx hb dF_forget_25 rfl rfl ?_
  refine tg_iconst (v := nI 0) hx hb dF_forget_26 (by decide +kernel) ?_
  refine tg_put (T := TF) (N := 15) (ty := .int) hx hb hts inF tyF tyF_ok nmF hown hK (hT f hf).1 rfl rfl 13 (by decide) (hts _ wf_F_60) (fun _ z => z) rfl (by decide +kernel) rfl rfl (Nat.le_of_ble_eq_true rfl) dF_forget_27 ?_
  refine tg_w (hg_w_N13 f 0) ?_
  refine tg_aload_n hx hb dF_forget_30 rfl rfl ?_
  refine tg_iconst (v := nI 0) hx hb dF_forget_31 (by decide +kernel) ?_
  refine tg_put (T := TF) (N := 15) (ty := .boolean) hx hb hts inF tyF tyF_ok nmF hown hK (hT f hf).1 rfl rfl 14 (by decide) (hts _ wf_F_63) (fun _ z => z) rfl (by decide +kernel) (by decide +kernel) (by decide +kernel) (Nat.le_of_ble_eq_true rfl) dF_forget_32 ?_
  refine tg_w (hg_w_N14 f 0) ?_
  exact tg_vret hx hb hlocks hr hQ ⟨rfl, rfl, rfl, rfl⟩ dF_forget_35
set_option maxRecDepth 100000 in
set_option maxHeartbeats 4000000 in
/-- does f hang on g? -/
theorem c_hangsOn (hO : hg_ok ok) (hT : ∀ f, T f → ok 8 f ∧ ok 9 f) (f g : Nat) (hf : T f) (hg : T g) (hN1 : N 1 g ≤ N 3 g) (hN3 : N 3 g < 20) : tg_Met l yF_hangsOn wsF_hangsOn ({ frames := 0, cells := 0, slots := 0, locals := 0 }) D vwCl (hg_tys cI cF cZ cJ cA cB) F Nn ad ok (hg_w ad cF cI G a dr N bc sp μ) [.ref (ad 8 f), .ref (ad 8 g)] (tg_po ad ok fun r w1 => r = some (.int (nI (hg_b (hg_hk N bc sp f g)))) ∧ w1 = (hg_w ad cF cI G a dr N bc sp μ)) := by
  refine tg_start (cc := cF_hangsOn) (maxL := 3) (ret := some .boolean) (by decide) rfl (Nat.le_of_ble_eq_true rfl) ?_
  intro p e R s m args below meth c Q hx hb hml hr hlocks hown hname hts hK hN hR hQ
  have hown : s.vm.findClass "HangGraph$Formula" = some m.cls := hown
  have hts : ∀ w ∈ lw_g, w.before args s = true := fun w z => hts w (List.mem_cons_of_mem _ z)
  refine tg_aload_n hx hb dF_hangsOn_0 rfl rfl ?_
  refine tg_get (T := TF) (N := 15) hx hb hts inF hown hK (hT g hg).1 rfl rfl 1 (by decide) (hts _ wf_F_19) (fun _ z => z) rfl dF_hangsOn_1 ?_
  refine tg_istore_n (L' := [(0, .ref (ad 8 f)), (1, .ref (ad 8 g)), (2, .int (nI (N 1 g)))]) hx hb dF_hangsOn_4 rfl (by decide) rfl rfl ?_
  refine tg_loop (fun i : Nat => (N 1 g ≤ i ∧ i ≤ 20) ∧ ∀ row, N 1 g ≤ row → row < i → (sp f (row)) &&& (bc g) = 0) (fun i => N 3 g + 1 - i) (fun i => tg_W p l e R s m args below meth c Q 3 D vwCl F ad ok (hg_w ad cF cI G a dr N bc sp μ) [(0, .ref (ad 8 f)), (1, .ref (ad 8 g)), (2, .int (nI (i)))] 0 0 5 []) ?_ (N 1 g) ⟨⟨Nat.le_refl _, by omega⟩, fun row z1 z2 => absurd z1 (Nat.not_le.mpr z2)⟩
  intro i ⟨⟨hi1, hi0⟩, hi2⟩ ih
  refine tg_iload_n hx hb dF_hangsOn_5 rfl rfl ?_
  refine tg_aload_n hx hb dF_hangsOn_6 rfl rfl ?_
  refine tg_get (T := TF) (N := 15) hx hb hts inF hown hK (hT g hg).1 rfl rfl 3 (by decide) (hts _ wf_F_25) (fun _ z => z) rfl dF_hangsOn_7 ?_
  refine tg_icmp_gt (tgt := 35) hx hb dF_hangsOn_10 (by decide) (fun q_1 => ?_) (fun q_1 => ?_)
  · have q_1' := q_1
    have h_2 : N 3 g < i := (nI_ltI (by omega) (by omega)).mp q_1
    refine tg_iconst (v := nI 0) hx hb dF_hangsOn_35 (by decide +kernel) ?_
    have hp : ¬ hg_hk N bc sp f g := fun ⟨row, z1, z2, z3⟩ => z3 (hi2 row z1 (by omega))
    exact tg_zret hx hb hlocks hr hQ (by decide +kernel) ⟨rfl, rfl, by rw [hg_b_f hp], rfl⟩ dF_hangsOn_36
  · have q_1' := q_1
    have h_3 : i ≤ N 3 g := Nat.le_of_not_lt fun z => q_1 ((nI_ltI (by omega) (by omega)).mpr z)
    refine tg_aload_n hx hb dF_hangsOn_13 rfl rfl ?_
    refine tg_get (T := TF) (N := 15) hx hb hts inF hown hK (hT f hf).1 rfl rfl 6 (by decide) (hts _ wf_F_37) (fun _ z => z) rfl dF_hangsOn_14 ?_
    refine tg_iload_n hx hb dF_hangsOn_17 rfl rfl ?_
    refine tg_iald (t0 := 0) hx hb hK (hT f hf).2 rfl rfl (x := i) (by decide) (by omega) dF_hangsOn_18 ?_
    refine tg_aload_n hx hb dF_hangsOn_19 rfl rfl ?_
    refine tg_get (T := TF) (N := 15) hx hb hts inF hown hK (hT g hg).1 rfl rfl 5 (by decide) (hts _ wf_F_34) (fun _ z => z) rfl dF_hangsOn_20 ?_
    refine tg_iand hx hb dF_hangsOn_23 ?_
    refine tg_if_eq (tgt := 29) hx hb dF_hangsOn_24 (by decide) (fun q_4 => ?_) (fun q_4 => ?_)
    · have q_4' := q_4
      refine tg_iinc (v := nI (i + 1)) (L' := [(0, .ref (ad 8 f)), (1, .ref (ad 8 g)), (2, .int (nI (i + 1)))]) hx hb dF_hangsOn_29 rfl (nI_1 _) (by decide) rfl rfl ?_
      refine tg_goto (tgt := 5) hx hb dF_hangsOn_32 (by decide) ?_
      exact ih (i + 1) ⟨⟨Nat.le_succ_of_le hi1, by omega⟩, fun row z1 z2 => by
        rcases Nat.lt_succ_iff_lt_or_eq.mp z2 with z | z
        · exact hi2 row z1 z
        · rw [z]; exact q_4⟩ (by omega)
    · have q_4' := q_4
      refine tg_iconst (v := nI 1) hx hb dF_hangsOn_27 (by decide +kernel) ?_
      have hp : hg_hk N bc sp f g := ⟨i, hi1, by omega, q_4⟩
      exact tg_zret hx hb hlocks hr hQ (by decide +kernel) ⟨rfl, rfl, by rw [hg_b_t hp], rfl⟩ dF_hangsOn_28
set_option maxRecDepth 100000 in
set_option maxHeartbeats 4000000 in
/-- does f speak of a dirty cell? -/
theorem c_hangsOnOneOf (hO : hg_ok ok) (hT : ∀ f, T f → ok 8 f ∧ ok 9 f) (f : Nat) (hf : T f) : tg_Met l yF_hangsOnOneOf wsF_hangsOnOneOf ({ frames := 0, cells := 0, slots := 0, locals := 0 }) D vwCl (hg_tys cI cF cZ cJ cA cB) F Nn ad ok (hg_w ad cF cI G a dr N bc sp μ) [.ref (ad 8 f), .ref (ad 2 0)] (tg_po ad ok fun r w1 => r = some (.int (nI (hg_b (hg_hd sp dr f)))) ∧ w1 = (hg_w ad cF cI G a dr N bc sp μ)) := by
  refine tg_start (cc := cF_hangsOnOneOf) (maxL := 3) (ret := some .boolean) (by decide) rfl (Nat.le_of_ble_eq_true rfl) ?_
  intro p e R s m args below meth c Q hx hb hml hr hlocks hown hname hts hK hN hR hQ
  have hown : s.vm.findClass "HangGraph$Formula" = some m.cls := hown
  have hts : ∀ w ∈ lw_g, w.before args s = true := fun w z => hts w (List.mem_cons_of_mem _ z)
  refine tg_iconst (v := nI 0) hx hb dF_hangsOnOneOf_0 (by decide +kernel) ?_
  refine tg_istore_n (L' := [(0, .ref (ad 8 f)), (1, .ref (ad 2 0)), (2, .int (nI (0)))]) hx hb dF_hangsOnOneOf_1 rfl (by decide) rfl rfl ?_
  refine tg_loop (fun i : Nat => (0 ≤ i ∧ i ≤ 20) ∧ ∀ row, 0 ≤ row → row < i → (sp f (row)) &&& (dr (row)) = 0) (fun i => 20 - i) (fun i => tg_W p l e R s m args below meth c Q 3 D vwCl F ad ok (hg_w ad cF cI G a dr N bc sp μ) [(0, .ref (ad 8 f)), (1, .ref (ad 2 0)), (2, .int (nI (i)))] 0 0 2 []) ?_ (0) ⟨⟨Nat.le_refl _, by omega⟩, fun row z1 z2 => absurd z1 (Nat.not_le.mpr z2)⟩
  intro i ⟨⟨hi1, hi0⟩, hi2⟩ ih
  refine tg_iload_n hx hb dF_hangsOnOneOf_2 rfl rfl ?_
  refine tg_bipush (v := nI 20) hx hb dF_hangsOnOneOf_3 (by decide +kernel) ?_
  refine tg_icmp_ge (tgt := 29) hx hb dF_hangsOnOneOf_5 (by decide) (fun q_1 => ?_) (fun q_1 => ?_)
  · have q_1' := q_1
    have h_2 : 20 ≤ i := (nI_leI (by omega) (by omega)).mp q_1
    refine tg_iconst (v := nI 0) hx hb dF_hangsOnOneOf_29 (by decide +kernel) ?_
    have hp : ¬ hg_hd sp dr f := fun ⟨row, z2, z3⟩ => z3 (hi2 row (Nat.zero_le _) (by omega))
    exact tg_zret hx hb hlocks hr hQ (by decide +kernel) ⟨rfl, rfl, by rw [hg_b_f hp], rfl⟩ dF_hangsOnOneOf_30
  · have q_1' := q_1
    have h_3 : i < 20 := Nat.lt_of_not_le fun z => q_1 ((nI_leI (by omega) (by omega)).mpr z)
    refine tg_aload_n hx hb dF_hangsOnOneOf_8 rfl rfl ?_
    refine tg_get (T := TF) (N := 15) hx hb hts inF hown hK (hT f hf).1 rfl rfl 6 (by decide) (hts _ wf_F_37) (fun _ z => z) rfl dF_hangsOnOneOf_9 ?_
    refine tg_iload_n hx hb dF_hangsOnOneOf_12 rfl rfl ?_
    refine tg_iald (t0 := 0) hx hb hK (hT f hf).2 rfl rfl (x := i) (by decide) (by omega) dF_hangsOnOneOf_13 ?_
    refine tg_aload_n hx hb dF_hangsOnOneOf_14 rfl rfl ?_
    refine tg_iload_n hx hb dF_hangsOnOneOf_15 rfl rfl ?_
    refine tg_iald (t0 := 0) hx hb hK (hO.1 2 (by decide)) rfl rfl (x := i) (by decide) (by omega) dF_hangsOnOneOf_16 ?_
    refine tg_iand hx hb dF_hangsOnOneOf_17 ?_
    refine tg_if_eq (tgt := 23) hx hb dF_hangsOnOneOf_18 (by decide) (fun q_4 => ?_) (fun q_4 => ?_)
    · have q_4' := q_4
      refine tg_iinc (v := nI (i + 1)) (L' := [(0, .ref (ad 8 f)), (1, .ref (ad 2 0)), (2, .int (nI (i + 1)))]) hx hb dF_hangsOnOneOf_23 rfl (nI_1 _) (by decide) rfl rfl ?_
      refine tg_goto (tgt := 2) hx hb dF_hangsOnOneOf_26 (by decide) ?_
      exact ih (i + 1) ⟨⟨Nat.le_succ_of_le hi1, by omega⟩, fun row z1 z2 => by
        rcases Nat.lt_succ_iff_lt_or_eq.mp z2 with z | z
        · exact hi2 row z1 z
        · rw [z]; exact q_4⟩ (by omega)
    · have q_4' := q_4
      refine tg_iconst (v := nI 1) hx hb dF_hangsOnOneOf_21 (by decide +kernel) ?_
      have hp : hg_hd sp dr f := ⟨i, by omega, q_4⟩
      exact tg_zret hx hb hlocks hr hQ (by decide +kernel) ⟨rfl, rfl, by rw [hg_b_t hp], rfl⟩ dF_hangsOnOneOf_22
set_option maxRecDepth 100000 in
set_option maxHeartbeats 4000000 in
/-- has f's block a dirty cell? -/
theorem c_holdsOneOf (hO : hg_ok ok) (hT : ∀ f, T f → ok 8 f ∧ ok 9 f) (f : Nat) (hf : T f) (hN1 : N 1 f ≤ N 3 f) (hN3 : N 3 f < 20) : tg_Met l yF_holdsOneOf wsF_holdsOneOf ({ frames := 0, cells := 0, slots := 0, locals := 0 }) D vwCl (hg_tys cI cF cZ cJ cA cB) F Nn ad ok (hg_w ad cF cI G a dr N bc sp μ) [.ref (ad 8 f), .ref (ad 2 0)] (tg_po ad ok fun r w1 => r = some (.int (nI (hg_b (hg_hh N bc dr f)))) ∧ w1 = (hg_w ad cF cI G a dr N bc sp μ)) := by
  refine tg_start (cc := cF_holdsOneOf) (maxL := 3) (ret := some .boolean) (by decide) rfl (Nat.le_of_ble_eq_true rfl) ?_
  intro p e R s m args below meth c Q hx hb hml hr hlocks hown hname hts hK hN hR hQ
  have hown : s.vm.findClass "HangGraph$Formula" = some m.cls := hown
  have hts : ∀ w ∈ lw_g, w.before args s = true := fun w z => hts w (List.mem_cons_of_mem _ z)
  refine tg_aload_n hx hb dF_holdsOneOf_0 rfl rfl ?_
  refine tg_get (T := TF) (N := 15) hx hb hts inF hown hK (hT f hf).1 rfl rfl 1 (by decide) (hts _ wf_F_19) (fun _ z => z) rfl dF_holdsOneOf_1 ?_
  refine tg_istore_n (L' := [(0, .ref (ad 8 f)), (1, .ref (ad 2 0)), (2, .int (nI (N 1 f)))]) hx hb dF_holdsOneOf_4 rfl (by decide) rfl rfl ?_
  refine tg_loop (fun i : Nat => (N 1 f ≤ i ∧ i ≤ 20) ∧ ∀ row, N 1 f ≤ row → row < i → (bc f) &&& (dr (row)) = 0) (fun i => N 3 f + 1 - i) (fun i => tg_W p l e R s m args below meth c Q 3 D vwCl F ad ok (hg_w ad cF cI G a dr N bc sp μ) [(0, .ref (ad 8 f)), (1, .ref (ad 2 0)), (2, .int (nI (i)))] 0 0 5 []) ?_ (N 1 f) ⟨⟨Nat.le_refl _, by omega⟩, fun row z1 z2 => absurd z1 (Nat.not_le.mpr z2)⟩
  intro i ⟨⟨hi1, hi0⟩, hi2⟩ ih
  refine tg_iload_n hx hb dF_holdsOneOf_5 rfl rfl ?_
  refine tg_aload_n hx hb dF_holdsOneOf_6 rfl rfl ?_
  refine tg_get (T := TF) (N := 15) hx hb hts inF hown hK (hT f hf).1 rfl rfl 3 (by decide) (hts _ wf_F_25) (fun _ z => z) rfl dF_holdsOneOf_7 ?_
  refine tg_icmp_gt (tgt := 32) hx hb dF_holdsOneOf_10 (by decide) (fun q_1 => ?_) (fun q_1 => ?_)
  · have q_1' := q_1
    have h_2 : N 3 f < i := (nI_ltI (by omega) (by omega)).mp q_1
    refine tg_iconst (v := nI 0) hx hb dF_holdsOneOf_32 (by decide +kernel) ?_
    have hp : ¬ hg_hh N bc dr f := fun ⟨row, z1, z2, z3⟩ => z3 (hi2 row z1 (by omega))
    exact tg_zret hx hb hlocks hr hQ (by decide +kernel) ⟨rfl, rfl, by rw [hg_b_f hp], rfl⟩ dF_holdsOneOf_33
  · have q_1' := q_1
    have h_3 : i ≤ N 3 f := Nat.le_of_not_lt fun z => q_1 ((nI_ltI (by omega) (by omega)).mpr z)
    refine tg_aload_n hx hb dF_holdsOneOf_13 rfl rfl ?_
    refine tg_get (T := TF) (N := 15) hx hb hts inF hown hK (hT f hf).1 rfl rfl 5 (by decide) (hts _ wf_F_34) (fun _ z => z) rfl dF_holdsOneOf_14 ?_
    refine tg_aload_n hx hb dF_holdsOneOf_17 rfl rfl ?_
    refine tg_iload_n hx hb dF_holdsOneOf_18 rfl rfl ?_
    refine tg_iald (t0 := 0) hx hb hK (hO.1 2 (by decide)) rfl rfl (x := i) (by decide) (by omega) dF_holdsOneOf_19 ?_
    refine tg_iand hx hb dF_holdsOneOf_20 ?_
    refine tg_if_eq (tgt := 26) hx hb dF_holdsOneOf_21 (by decide) (fun q_4 => ?_) (fun q_4 => ?_)
    · have q_4' := q_4
      refine tg_iinc (v := nI (i + 1)) (L' := [(0, .ref (ad 8 f)), (1, .ref (ad 2 0)), (2, .int (nI (i + 1)))]) hx hb dF_holdsOneOf_26 rfl (nI_1 _) (by decide) rfl rfl ?_
      refine tg_goto (tgt := 5) hx hb dF_holdsOneOf_29 (by decide) ?_
      exact ih (i + 1) ⟨⟨Nat.le_succ_of_le hi1, by omega⟩, fun row z1 z2 => by
        rcases Nat.lt_succ_iff_lt_or_eq.mp z2 with z | z
        · exact hi2 row z1 z
        · rw [z]; exact q_4⟩ (by omega)
    · have q_4' := q_4
      refine tg_iconst (v := nI 1) hx hb dF_holdsOneOf_24 (by decide +kernel) ?_
      have hp : hg_hh N bc dr f := ⟨i, hi1, by omega, q_4⟩
      exact tg_zret hx hb hlocks hr hQ (by decide +kernel) ⟨rfl, rfl, by rw [hg_b_t hp], rfl⟩ dF_holdsOneOf_25
end HGF
