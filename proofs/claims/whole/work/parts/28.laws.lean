/-! rows for the law's own methods: tables of handlers, wider room -/
section LWR
variable {p : Program} {l : Launch} {e : Env} {R : Room} {s : State} {m : MethodId} {args : Array Value} {below : List Frame} {meth : Method} {c : Code} {cells slots : Nat} {Q : State → Prop}
variable {cc bytes : ByteArray} {pc nL maxL index n : Nat} {st : List Value} {D : va_G} {cl : List vw_C} {tys : List (ClassId × FieldType)} {F : Nat → Prop} {Nn : State → Heap → Prop} {ad : Nat → Nat → Nat} {ok : Nat → Nat → Prop} {w : Nat → Nat → va_E} {L : List (Nat × Value)}
variable {y : MethodName} {ws ws' Ts : List Cond} {rm : Room} {ret : Option FieldType} {own : String} {As rest : List Value} {mc ms : Nat} {hh : List (Nat × Nat × Nat × Nat)} {post : Option Value → (Nat → Nat → Nat) → (Nat → Nat → Prop) → (Nat → Nat → va_E) → Prop}
def tg_xf : String → State → State → Prop := fun _ _ _ => False
/-- a contract of a method with handlers, which returns -/
def tg_MetW (l : Launch) (y : MethodName) (ws : List Cond) (rm : Room) (D : va_G) (cl : List vw_C) (tys : List (ClassId × FieldType)) (F : Nat → Prop) (Nn : State → Heap → Prop) (ad : Nat → Nat → Nat) (ok : Nat → Nat → Prop) (w : Nat → Nat → va_E) (av : List Value) (post : Option Value → (Nat → Nat → Nat) → (Nat → Nat → Prop) → (Nat → Nat → va_E) → Prop) : Prop :=
  vx_Met l y ws rm (va_Pc av (tg_B D cl tys F Nn ad ok w)) (tg_Q D cl F post) tg_xf rm.cells rm.slots F
theorem tg_startW {av : List Value} (hy : plainName y.cls = true) (hw : ws = Cond.codeWith y cc maxL ret hh :: ws') (hlen : (lg_sl av).length ≤ maxL)
    (body : ∀ (p : Program) (e : Env) (R : Room) (s : State) (m : MethodId) (args : Array Value) (below : List Frame) (meth : Method) (c : Code) (Q : State → Prop), p.tables.exec = Jvm.exec → c.code = cc → c.maxLocals = maxL → meth.sig.returnType = ret → meth.locks = false → s.vm.findClass y.cls = some m.cls → (∀ w ∈ ws, w.before args s = true) → va_K D cl tys s → Nn s s.heap → c.exceptionTable.toList = tableOf hh → R = (headSpec ws rm).room → Q = vx_MQ below (tg_Q D cl F post) tg_xf args s rm.cells rm.slots F →
      tg_W p l e R s m args below meth c Q maxL D cl F ad ok w (lv_args 0 av) 0 0 0 []) : tg_MetW l y ws rm D cl tys F Nn ad ok w av post := by
  refine vx_ofWH (cc := cc) (maxL := maxL) (ret := ret) (hh := hh) hy hw ?_
  intro p e s m args below meth c s₁ B hml hv
  obtain ⟨rfl, hY, hF, hK, hN⟩ := hv
  rw [lg_entry_eq]
  have hts := atoms_spec (ws := ws) B.pre
  exact body p e _ s m _ below meth c _ B.exec B.bytes hml B.returns B.notSynchronized (findClass_of_methodNamed B.named) hts hK hN (vx_table (x := y) B (hts _ (by rw [hw]; exact List.mem_cons_self))) rfl rfl s.heap [] _ (tg_Z.start hY hF) (lv_entry av hlen)
theorem tg_retW {XC : String → State → State → Prop} (hQ : Q = vx_MQ below (tg_Q D cl F post) XC args s mc ms F) (hc : cells ≤ mc) (hs : slots ≤ ms) (kk : tg_W p l e R s m args below meth c (MQ below (tg_Q D cl F post) args s mc ms F) nL D cl F ad ok w L mc ms pc st) : tg_W p l e R s m args below meth c Q nL D cl F ad ok w L cells slots pc st := by
  subst hQ
  exact tg_widen hc hs fun H locs ls hZ h => vx_ret (kk H locs ls hZ h)
/-- a static call of such a method -/
theorem tg_callSX (S : CallFix p m c cc nL s args Ts own) (hK : va_K D cl tys s) (hN : Nn s s.heap) (hMv : tg_Mv F Nn) (hM : tg_MetW l y ws rm D cl tys F Nn ad ok w As post) (cw : vx_CSW R s args own index y bytes maxL ret hh ws rm rm.cells rm.slots n) (hn : As.length = n) (hW : (rest.map fun v => v.category).sum ≤ 8) (hf : cells + rm.cells ≤ R.cells ∧ slots + rm.slots ≤ R.slots) (hst : st = As.reverse ++ rest) (hdg : decode cc pc = .ok (.invokestatic index, 3)) (kk : ∀ (r : Option Value) (ad1 : Nat → Nat → Nat) (ok1 : Nat → Nat → Prop) (w1 : Nat → Nat → va_E), post r ad1 ok1 w1 → tg_W p l e R s m args below meth c Q nL D cl F ad1 ok1 w1 L (cells + rm.cells) (slots + rm.slots) (pc + 3) (r.toList ++ rest)) : tg_W p l e R s m args below meth c Q nL D cl F ad ok w L cells slots pc st := by
  subst hst
  exact tg_call (rm := rm) (fun H locs ls hZ h T hT X => (vx_runSX S hM cw (tg_pre hMv hZ hK hN) rfl hn h.1 rfl (lv_room hW) hdg hf T hT X).elim id (fun ⟨_, _, _, _, _, _, _, _, _, _, _, _, q, _⟩ => q.elim)) kk
end LWR
section LWM
variable {l : Launch} {D : va_G} {F : Nat → Prop} {ad : Nat → Nat → Nat} {ok : Nat → Nat → Prop} {cF cI cZ cJ cA cB : ClassId} {w : Nat → Nat → va_E}
def wsL_put : List Cond := .codeWith yL_put cL_put 7 (some .int) [(0, 14, 17, 13), (0, 14, 21, 15)] :: lw_g
theorem wcL_put : (.codeWith yL_put cL_put 7 (some .int) [(0, 14, 17, 13), (0, 14, 21, 15)] : Cond) ∈ lw_g := lg_mem (i := 169) (by decide +kernel) (by decide +kernel)
theorem wgL_put : GoodIn lw_g wsL_put := fun w hw => (List.mem_cons.mp hw).elim (fun z => by rw [z]; exact lg_ok wcL_put) lg_ok
def wsL_out : List Cond := .codeWith yL_out cL_out 5 (some .int) [(0, 10, 13, 13), (0, 10, 17, 21)] :: lw_g
theorem wcL_out : (.codeWith yL_out cL_out 5 (some .int) [(0, 10, 13, 13), (0, 10, 17, 21)] : Cond) ∈ lw_g := lg_mem (i := 353) (by decide +kernel) (by decide +kernel)
theorem wgL_out : GoodIn lw_g wsL_out := fun w hw => (List.mem_cons.mp hw).elim (fun z => by rw [z]; exact lg_ok wcL_out) lg_ok
def wsL_speak : List Cond := .codeWith yL_speak cL_speak 9 (some .int) [(0, 18, 21, 13), (0, 18, 25, 21), (0, 18, 29, 27)] :: lw_g
theorem wcL_speak : (.codeWith yL_speak cL_speak 9 (some .int) [(0, 18, 21, 13), (0, 18, 25, 21), (0, 18, 29, 27)] : Cond) ∈ lw_g := lg_mem (i := 381) (by decide +kernel) (by decide +kernel)
theorem wgL_speak : GoodIn lw_g wsL_speak := fun w hw => (List.mem_cons.mp hw).elim (fun z => by rw [z]; exact lg_ok wcL_speak) lg_ok
def wsL_touch : List Cond := .codeWith yL_touch cL_touch 4 (some .int) [(0, 6, 9, 13)] :: lw_g
theorem wcL_touch : (.codeWith yL_touch cL_touch 4 (some .int) [(0, 6, 9, 13)] : Cond) ∈ lw_g := lg_mem (i := 413) (by decide +kernel) (by decide +kernel)
theorem wgL_touch : GoodIn lw_g wsL_touch := fun w hw => (List.mem_cons.mp hw).elim (fun z => by rw [z]; exact lg_ok wcL_touch) lg_ok
def wsL_told : List Cond := .codeWith yL_told cL_told 6 (some .int) [(0, 12, 15, 13), (0, 12, 19, 21)] :: lw_g
theorem wcL_told : (.codeWith yL_told cL_told 6 (some .int) [(0, 12, 15, 13), (0, 12, 19, 21)] : Cond) ∈ lw_g := lg_mem (i := 421) (by decide +kernel) (by decide +kernel)
theorem wgL_told : GoodIn lw_g wsL_told := fun w hw => (List.mem_cons.mp hw).elim (fun z => by rw [z]; exact lg_ok wcL_told) lg_ok
def wsL_owner : List Cond := .codeWith yL_owner cL_owner 5 (some .int) [(0, 10, 13, 13)] :: lw_g
theorem wcL_owner : (.codeWith yL_owner cL_owner 5 (some .int) [(0, 10, 13, 13)] : Cond) ∈ lw_g := lg_mem (i := 429) (by decide +kernel) (by decide +kernel)
theorem wgL_owner : GoodIn lw_g wsL_owner := fun w hw => (List.mem_cons.mp hw).elim (fun z => by rw [z]; exact lg_ok wcL_owner) lg_ok
set_option maxRecDepth 100000 in
set_option maxHeartbeats 4000000 in
theorem l_put0 (v0 v1 v2 v3 : Int32) (hO : hg_ok ok) {cs : List Value} (hw0 : w 0 0 = .inr (0, cs)) {post : Option Value → (Nat → Nat → Nat) → (Nat → Nat → Prop) → (Nat → Nat → va_E) → Prop} (hM : tg_Met l yH_put wsH_put ({ frames := 7, cells := 2, slots := 35, locals := 140 }) D vwCl (hg_tys cI cF cZ cJ cA cB) F (hg_N F) ad ok w (.ref (ad 0 0) :: [.int v0, .int v1, .int v2, .int v3]) post) (hp : ∀ r ad1 ok1 w1, post r ad1 ok1 w1 → (∃ v, r = some (.int v)) ∧ ok1 10 0 ∧ ad1 10 0 = ad 10 0 ∧ ∃ f, w1 10 0 = .inl (cJ, 1, .inr (.inl f))) : tg_MetW l yL_put wsL_put ({ frames := 8, cells := 2, slots := 35, locals := 200 }) D vwCl (hg_tys cI cF cZ cJ cA cB) F (hg_N F) ad ok w [.ref (ad 0 0), .int v0, .int v1, .int v2, .int v3, .ref (ad 10 0)] (fun r1 ad1 ok1 w1 => r1 = some (.int (nI 0)) ∧ ∃ v w0 f, post (some (.int v)) ad1 ok1 w0 ∧ w0 10 0 = .inl (cJ, 1, .inr (.inl f)) ∧ w1 = tg_up w0 10 0 (.inl (cJ, 1, .inr (.inl (va_up f 0 v.toInt64))))) := by
  refine tg_startW (cc := cL_put) (maxL := 7) (ret := some .int) (hh := [(0, 14, 17, 13), (0, 14, 21, 15)]) (by decide) rfl (Nat.le_of_ble_eq_true rfl) ?_
  intro p e R s m args below meth c Q hx hb hml hr hlocks hown hts hK hN htab hR hQ
  have hown : s.vm.findClass "HangGraphLaw" = some m.cls := hown
  have hts : ∀ w ∈ lw_g, w.before args s = true := fun w z => hts w (List.mem_cons_of_mem _ z)
  have hMv := hg_Mv F
  refine tg_aload hx hb dL_put_0 rfl ?_
  refine tg_iconst (v := nI 0) hx hb dL_put_2 (by decide +kernel) ?_
  refine tg_aload_n hx hb dL_put_3 rfl rfl ?_
  refine tg_iload_n hx hb dL_put_4 rfl rfl ?_
  refine tg_iload_n hx hb dL_put_5 rfl rfl ?_
  refine tg_iload_n hx hb dL_put_6 rfl rfl ?_
  refine tg_iload hx hb dL_put_7 rfl ?_
  refine tg_callV (C := "HangGraph") (As := [.int v0, .int v1, .int v2, .int v3]) (rest := [.int (nI 0), .ref (ad 10 0)]) ⟨hx, hb, hml, hown, hts⟩ hK hN hMv (hO.1 0 (by decide)) hw0 rfl rfl hM (cwV 4 hts (lg_V wm_L_7 wi_H_put we_H_put wn_H wc_H_put) rfl rfl rfl ⟨rfl, by decide, by decide, rfl⟩ ⟨by rw [hR]; exact Nat.le_of_ble_eq_true rfl, by rw [hR]; exact Nat.le_of_ble_eq_true rfl⟩) rfl (Nat.le_of_ble_eq_true rfl) ⟨by rw [hR]; exact Nat.le_of_ble_eq_true rfl, by rw [hR]; exact Nat.le_of_ble_eq_true rfl⟩ rfl dL_put_9 ?_
  intro r ad1 ok1 w1 h1
  obtain ⟨⟨v, hv⟩, h10, ha10, f, hf⟩ := hp r ad1 ok1 w1 h1
  subst hv
  refine tg_st (st' := [.int v, .int (nI 0), .ref (ad1 10 0)]) (by rw [ha10]; rfl) ?_
  refine tg_i2l (v := v.toInt64) hx hb dL_put_12 rfl ?_
  refine tg_last (t0 := 3) hx hb hK h10 hf rfl (x := 0) (by decide) (by decide) dL_put_13 ?_
  refine tg_goto (tgt := 25) hx hb dL_put_14 (by decide) ?_
  refine tg_iconst (v := nI 0) hx hb dL_put_25 (by decide +kernel) ?_
  refine tg_retW hQ (Nat.le_of_ble_eq_true rfl) (Nat.le_of_ble_eq_true rfl) ?_
  exact tg_iret hx hb hlocks hr rfl ⟨rfl, v, w1, f, h1, hf, rfl⟩ dL_put_26
set_option maxRecDepth 100000 in
set_option maxHeartbeats 4000000 in
theorem l_put1 (v0 v1 v2 v3 : Int32) (hO : hg_ok ok) {cs : List Value} (hw0 : w 0 0 = .inr (0, cs)) (hM : tg_MetT l yH_put wsH_put ({ frames := 7, cells := 1, slots := 6, locals := 140 }) D vwCl (hg_tys cI cF cZ cJ cA cB) F (hg_N F) ad ok w (.ref (ad 0 0) :: [.int v0, .int v1, .int v2, .int v3]) "java/lang/IllegalArgumentException") : tg_MetW l yL_put wsL_put ({ frames := 8, cells := 1, slots := 6, locals := 200 }) D vwCl (hg_tys cI cF cZ cJ cA cB) F (hg_N F) ad ok w [.ref (ad 0 0), .int v0, .int v1, .int v2, .int v3, .ref (ad 10 0)] (tg_po ad ok fun r1 w1 => r1 = some (.int (nI 1)) ∧ w1 = w) := by
  refine tg_startW (cc := cL_put) (maxL := 7) (ret := some .int) (hh := [(0, 14, 17, 13), (0, 14, 21, 15)]) (by decide) rfl (Nat.le_of_ble_eq_true rfl) ?_
  intro p e R s m args below meth c Q hx hb hml hr hlocks hown hts hK hN htab hR hQ
  have hown : s.vm.findClass "HangGraphLaw" = some m.cls := hown
  have hts : ∀ w ∈ lw_g, w.before args s = true := fun w z => hts w (List.mem_cons_of_mem _ z)
  have hMv := hg_Mv F
  refine tg_aload hx hb dL_put_0 rfl ?_
  refine tg_iconst (v := nI 0) hx hb dL_put_2 (by decide +kernel) ?_
  refine tg_aload_n hx hb dL_put_3 rfl rfl ?_
  refine tg_iload_n hx hb dL_put_4 rfl rfl ?_
  refine tg_iload_n hx hb dL_put_5 rfl rfl ?_
  refine tg_iload_n hx hb dL_put_6 rfl rfl ?_
  refine tg_iload hx hb dL_put_7 rfl ?_
  refine tg_catchT (own := "HangGraphLaw") (name := "java/lang/IllegalArgumentException") (tg_runVT (C := "HangGraph") (As := [.int v0, .int v1, .int v2, .int v3]) (rest := [.int (nI 0), .ref (ad 10 0)]) ⟨hx, hb, hml, hown, hts⟩ hK hN hMv (hO.1 0 (by decide)) hw0 rfl rfl hM (cwV 4 hts (lg_V wm_L_7 wi_H_put we_H_put wn_H wc_H_put) rfl rfl rfl ⟨rfl, by decide, by decide, rfl⟩ ⟨by rw [hR]; exact Nat.le_of_ble_eq_true rfl, by rw [hR]; exact Nat.le_of_ble_eq_true rfl⟩) rfl (Nat.le_of_ble_eq_true rfl) ⟨by rw [hR]; exact Nat.le_of_ble_eq_true rfl, by rw [hR]; exact Nat.le_of_ble_eq_true rfl⟩ rfl dL_put_9) hown [] ⟨0, 14, 17, 13⟩ [⟨0, 14, 21, 15⟩] (htab.trans rfl) ?_ (by decide) (by decide) (hts _ wk_L_13) (va_Nw.use rfl (hN.2.2.2.1 _ (by decide))) ?_
  · intro z hz; exact absurd hz List.not_mem_nil
  · intro q
    refine tg_astore (L' := [(0, .ref (ad 0 0)), (1, .int v0), (2, .int v1), (3, .int v2), (4, .int v3), (5, .ref (ad 10 0)), (6, .ref q)]) hx hb dL_put_17 (by decide) rfl rfl ?_
    refine tg_iconst (v := nI 1) hx hb dL_put_19 (by decide +kernel) ?_
    refine tg_retW hQ (Nat.le_of_ble_eq_true rfl) (Nat.le_of_ble_eq_true rfl) ?_
    exact tg_iret hx hb hlocks hr rfl ⟨rfl, rfl, rfl, rfl⟩ dL_put_20
set_option maxRecDepth 100000 in
set_option maxHeartbeats 4000000 in
theorem l_put2 (v0 v1 v2 v3 : Int32) (hO : hg_ok ok) {cs : List Value} (hw0 : w 0 0 = .inr (0, cs)) (hM : tg_MetT l yH_put wsH_put ({ frames := 7, cells := 1, slots := 6, locals := 140 }) D vwCl (hg_tys cI cF cZ cJ cA cB) F (hg_N F) ad ok w (.ref (ad 0 0) :: [.int v0, .int v1, .int v2, .int v3]) "java/lang/IllegalStateException") : tg_MetW l yL_put wsL_put ({ frames := 8, cells := 1, slots := 6, locals := 200 }) D vwCl (hg_tys cI cF cZ cJ cA cB) F (hg_N F) ad ok w [.ref (ad 0 0), .int v0, .int v1, .int v2, .int v3, .ref (ad 10 0)] (tg_po ad ok fun r1 w1 => r1 = some (.int (nI 2)) ∧ w1 = w) := by
  refine tg_startW (cc := cL_put) (maxL := 7) (ret := some .int) (hh := [(0, 14, 17, 13), (0, 14, 21, 15)]) (by decide) rfl (Nat.le_of_ble_eq_true rfl) ?_
  intro p e R s m args below meth c Q hx hb hml hr hlocks hown hts hK hN htab hR hQ
  have hown : s.vm.findClass "HangGraphLaw" = some m.cls := hown
  have hts : ∀ w ∈ lw_g, w.before args s = true := fun w z => hts w (List.mem_cons_of_mem _ z)
  have hMv := hg_Mv F
  refine tg_aload hx hb dL_put_0 rfl ?_
  refine tg_iconst (v := nI 0) hx hb dL_put_2 (by decide +kernel) ?_
  refine tg_aload_n hx hb dL_put_3 rfl rfl ?_
  refine tg_iload_n hx hb dL_put_4 rfl rfl ?_
  refine tg_iload_n hx hb dL_put_5 rfl rfl ?_
  refine tg_iload_n hx hb dL_put_6 rfl rfl ?_
  refine tg_iload hx hb dL_put_7 rfl ?_
  refine tg_catchT (own := "HangGraphLaw") (name := "java/lang/IllegalStateException") (tg_runVT (C := "HangGraph") (As := [.int v0, .int v1, .int v2, .int v3]) (rest := [.int (nI 0), .ref (ad 10 0)]) ⟨hx, hb, hml, hown, hts⟩ hK hN hMv (hO.1 0 (by decide)) hw0 rfl rfl hM (cwV 4 hts (lg_V wm_L_7 wi_H_put we_H_put wn_H wc_H_put) rfl rfl rfl ⟨rfl, by decide, by decide, rfl⟩ ⟨by rw [hR]; exact Nat.le_of_ble_eq_true rfl, by rw [hR]; exact Nat.le_of_ble_eq_true rfl⟩) rfl (Nat.le_of_ble_eq_true rfl) ⟨by rw [hR]; exact Nat.le_of_ble_eq_true rfl, by rw [hR]; exact Nat.le_of_ble_eq_true rfl⟩ rfl dL_put_9) hown [⟨0, 14, 17, 13⟩] ⟨0, 14, 21, 15⟩ [] (htab.trans rfl) ?_ (by decide) (by decide) (hts _ wk_L_15) (va_Nw.use rfl (hN.2.2.2.1 _ (by decide))) ?_
  · intro z hz
    simp only [List.mem_cons, List.not_mem_nil, or_false] at hz
    rcases hz with hz <;> subst hz
    · exact Or.inr ⟨by decide, "java/lang/IllegalArgumentException", hts _ wk_L_13, hN.2.2.2.2.2.1 _ (by decide) _ (by decide) (by decide)⟩
  · intro q
    refine tg_astore (L' := [(0, .ref (ad 0 0)), (1, .int v0), (2, .int v1), (3, .int v2), (4, .int v3), (5, .ref (ad 10 0)), (6, .ref q)]) hx hb dL_put_21 (by decide) rfl rfl ?_
    refine tg_iconst (v := nI 2) hx hb dL_put_23 (by decide +kernel) ?_
    refine tg_retW hQ (Nat.le_of_ble_eq_true rfl) (Nat.le_of_ble_eq_true rfl) ?_
    exact tg_iret hx hb hlocks hr rfl ⟨rfl, rfl, rfl, rfl⟩ dL_put_24
set_option maxRecDepth 100000 in
set_option maxHeartbeats 4000000 in
theorem l_out0 (v0 v1 : Int32) (hO : hg_ok ok) {cs : List Value} (hw0 : w 0 0 = .inr (0, cs)) {post : Option Value → (Nat → Nat → Nat) → (Nat → Nat → Prop) → (Nat → Nat → va_E) → Prop} (hM : tg_Met l yH_out wsH_out ({ frames := 2, cells := 0, slots := 0, locals := 90 }) D vwCl (hg_tys cI cF cZ cJ cA cB) F (hg_N F) ad ok w (.ref (ad 0 0) :: [.int v0, .int v1]) post) (hp : ∀ r ad1 ok1 w1, post r ad1 ok1 w1 → (∃ v, r = some (.int v)) ∧ ok1 10 0 ∧ ad1 10 0 = ad 10 0 ∧ ∃ f, w1 10 0 = .inl (cJ, 1, .inr (.inl f))) : tg_MetW l yL_out wsL_out ({ frames := 8, cells := 0, slots := 0, locals := 200 }) D vwCl (hg_tys cI cF cZ cJ cA cB) F (hg_N F) ad ok w [.ref (ad 0 0), .int v0, .int v1, .ref (ad 10 0)] (fun r1 ad1 ok1 w1 => r1 = some (.int (nI 0)) ∧ ∃ v w0 f, post (some (.int v)) ad1 ok1 w0 ∧ w0 10 0 = .inl (cJ, 1, .inr (.inl f)) ∧ w1 = tg_up w0 10 0 (.inl (cJ, 1, .inr (.inl (va_up f 0 v.toInt64))))) := by
  refine tg_startW (cc := cL_out) (maxL := 5) (ret := some .int) (hh := [(0, 10, 13, 13), (0, 10, 17, 21)]) (by decide) rfl (Nat.le_of_ble_eq_true rfl) ?_
  intro p e R s m args below meth c Q hx hb hml hr hlocks hown hts hK hN htab hR hQ
  have hown : s.vm.findClass "HangGraphLaw" = some m.cls := hown
  have hts : ∀ w ∈ lw_g, w.before args s = true := fun w z => hts w (List.mem_cons_of_mem _ z)
  have hMv := hg_Mv F
  refine tg_aload_n hx hb dL_out_0 rfl rfl ?_
  refine tg_iconst (v := nI 0) hx hb dL_out_1 (by decide +kernel) ?_
  refine tg_aload_n hx hb dL_out_2 rfl rfl ?_
  refine tg_iload_n hx hb dL_out_3 rfl rfl ?_
  refine tg_iload_n hx hb dL_out_4 rfl rfl ?_
  refine tg_callV (C := "HangGraph") (As := [.int v0, .int v1]) (rest := [.int (nI 0), .ref (ad 10 0)]) ⟨hx, hb, hml, hown, hts⟩ hK hN hMv (hO.1 0 (by decide)) hw0 rfl rfl hM (cwV 2 hts (lg_V wm_L_17 wi_H_out we_H_out wn_H wc_H_out) rfl rfl rfl ⟨rfl, by decide, by decide, rfl⟩ ⟨by rw [hR]; exact Nat.le_of_ble_eq_true rfl, by rw [hR]; exact Nat.le_of_ble_eq_true rfl⟩) rfl (Nat.le_of_ble_eq_true rfl) ⟨by rw [hR]; exact Nat.le_of_ble_eq_true rfl, by rw [hR]; exact Nat.le_of_ble_eq_true rfl⟩ rfl dL_out_5 ?_
  intro r ad1 ok1 w1 h1
  obtain ⟨⟨v, hv⟩, h10, ha10, f, hf⟩ := hp r ad1 ok1 w1 h1
  subst hv
  refine tg_st (st' := [.int v, .int (nI 0), .ref (ad1 10 0)]) (by rw [ha10]; rfl) ?_
  refine tg_i2l (v := v.toInt64) hx hb dL_out_8 rfl ?_
  refine tg_last (t0 := 3) hx hb hK h10 hf rfl (x := 0) (by decide) (by decide) dL_out_9 ?_
  refine tg_goto (tgt := 21) hx hb dL_out_10 (by decide) ?_
  refine tg_iconst (v := nI 0) hx hb dL_out_21 (by decide +kernel) ?_
  refine tg_retW hQ (Nat.le_of_ble_eq_true rfl) (Nat.le_of_ble_eq_true rfl) ?_
  exact tg_iret hx hb hlocks hr rfl ⟨rfl, v, w1, f, h1, hf, rfl⟩ dL_out_22
set_option maxRecDepth 100000 in
set_option maxHeartbeats 4000000 in
theorem l_out1 (v0 v1 : Int32) (hO : hg_ok ok) {cs : List Value} (hw0 : w 0 0 = .inr (0, cs)) (hM : tg_MetT l yH_out wsH_out ({ frames := 7, cells := 1, slots := 6, locals := 140 }) D vwCl (hg_tys cI cF cZ cJ cA cB) F (hg_N F) ad ok w (.ref (ad 0 0) :: [.int v0, .int v1]) "java/lang/IllegalArgumentException") : tg_MetW l yL_out wsL_out ({ frames := 8, cells := 1, slots := 6, locals := 200 }) D vwCl (hg_tys cI cF cZ cJ cA cB) F (hg_N F) ad ok w [.ref (ad 0 0), .int v0, .int v1, .ref (ad 10 0)] (tg_po ad ok fun r1 w1 => r1 = some (.int (nI 1)) ∧ w1 = w) := by
  refine tg_startW (cc := cL_out) (maxL := 5) (ret := some .int) (hh := [(0, 10, 13, 13), (0, 10, 17, 21)]) (by decide) rfl (Nat.le_of_ble_eq_true rfl) ?_
  intro p e R s m args below meth c Q hx hb hml hr hlocks hown hts hK hN htab hR hQ
  have hown : s.vm.findClass "HangGraphLaw" = some m.cls := hown
  have hts : ∀ w ∈ lw_g, w.before args s = true := fun w z => hts w (List.mem_cons_of_mem _ z)
  have hMv := hg_Mv F
  refine tg_aload_n hx hb dL_out_0 rfl rfl ?_
  refine tg_iconst (v := nI 0) hx hb dL_out_1 (by decide +kernel) ?_
  refine tg_aload_n hx hb dL_out_2 rfl rfl ?_
  refine tg_iload_n hx hb dL_out_3 rfl rfl ?_
  refine tg_iload_n hx hb dL_out_4 rfl rfl ?_
  refine tg_catchT (own := "HangGraphLaw") (name := "java/lang/IllegalArgumentException") (tg_runVT (C := "HangGraph") (As := [.int v0, .int v1]) (rest := [.int (nI 0), .ref (ad 10 0)]) ⟨hx, hb, hml, hown, hts⟩ hK hN hMv (hO.1 0 (by decide)) hw0 rfl rfl hM (cwV 2 hts (lg_V wm_L_17 wi_H_out we_H_out wn_H wc_H_out) rfl rfl rfl ⟨rfl, by decide, by decide, rfl⟩ ⟨by rw [hR]; exact Nat.le_of_ble_eq_true rfl, by rw [hR]; exact Nat.le_of_ble_eq_true rfl⟩) rfl (Nat.le_of_ble_eq_true rfl) ⟨by rw [hR]; exact Nat.le_of_ble_eq_true rfl, by rw [hR]; exact Nat.le_of_ble_eq_true rfl⟩ rfl dL_out_5) hown [] ⟨0, 10, 13, 13⟩ [⟨0, 10, 17, 21⟩] (htab.trans rfl) ?_ (by decide) (by decide) (hts _ wk_L_13) (va_Nw.use rfl (hN.2.2.2.1 _ (by decide))) ?_
  · intro z hz; exact absurd hz List.not_mem_nil
  · intro q
    refine tg_astore (L' := [(0, .ref (ad 0 0)), (1, .int v0), (2, .int v1), (3, .ref (ad 10 0)), (4, .ref q)]) hx hb dL_out_13 (by decide) rfl rfl ?_
    refine tg_iconst (v := nI 1) hx hb dL_out_15 (by decide +kernel) ?_
    refine tg_retW hQ (Nat.le_of_ble_eq_true rfl) (Nat.le_of_ble_eq_true rfl) ?_
    exact tg_iret hx hb hlocks hr rfl ⟨rfl, rfl, rfl, rfl⟩ dL_out_16
set_option maxRecDepth 100000 in
set_option maxHeartbeats 4000000 in
theorem l_out2 (v0 v1 : Int32) (hO : hg_ok ok) {cs : List Value} (hw0 : w 0 0 = .inr (0, cs)) (hM : tg_MetT l yH_out wsH_out ({ frames := 7, cells := 1, slots := 6, locals := 140 }) D vwCl (hg_tys cI cF cZ cJ cA cB) F (hg_N F) ad ok w (.ref (ad 0 0) :: [.int v0, .int v1]) "java/util/NoSuchElementException") : tg_MetW l yL_out wsL_out ({ frames := 8, cells := 1, slots := 6, locals := 200 }) D vwCl (hg_tys cI cF cZ cJ cA cB) F (hg_N F) ad ok w [.ref (ad 0 0), .int v0, .int v1, .ref (ad 10 0)] (tg_po ad ok fun r1 w1 => r1 = some (.int (nI 2)) ∧ w1 = w) := by
  refine tg_startW (cc := cL_out) (maxL := 5) (ret := some .int) (hh := [(0, 10, 13, 13), (0, 10, 17, 21)]) (by decide) rfl (Nat.le_of_ble_eq_true rfl) ?_
  intro p e R s m args below meth c Q hx hb hml hr hlocks hown hts hK hN htab hR hQ
  have hown : s.vm.findClass "HangGraphLaw" = some m.cls := hown
  have hts : ∀ w ∈ lw_g, w.before args s = true := fun w z => hts w (List.mem_cons_of_mem _ z)
  have hMv := hg_Mv F
  refine tg_aload_n hx hb dL_out_0 rfl rfl ?_
  refine tg_iconst (v := nI 0) hx hb dL_out_1 (by decide +kernel) ?_
  refine tg_aload_n hx hb dL_out_2 rfl rfl ?_
  refine tg_iload_n hx hb dL_out_3 rfl rfl ?_
  refine tg_iload_n hx hb dL_out_4 rfl rfl ?_
  refine tg_catchT (own := "HangGraphLaw") (name := "java/util/NoSuchElementException") (tg_runVT (C := "HangGraph") (As := [.int v0, .int v1]) (rest := [.int (nI 0), .ref (ad 10 0)]) ⟨hx, hb, hml, hown, hts⟩ hK hN hMv (hO.1 0 (by decide)) hw0 rfl rfl hM (cwV 2 hts (lg_V wm_L_17 wi_H_out we_H_out wn_H wc_H_out) rfl rfl rfl ⟨rfl, by decide, by decide, rfl⟩ ⟨by rw [hR]; exact Nat.le_of_ble_eq_true rfl, by rw [hR]; exact Nat.le_of_ble_eq_true rfl⟩) rfl (Nat.le_of_ble_eq_true rfl) ⟨by rw [hR]; exact Nat.le_of_ble_eq_true rfl, by rw [hR]; exact Nat.le_of_ble_eq_true rfl⟩ rfl dL_out_5) hown [⟨0, 10, 13, 13⟩] ⟨0, 10, 17, 21⟩ [] (htab.trans rfl) ?_ (by decide) (by decide) (hts _ wk_L_21) (va_Nw.use rfl (hN.2.2.2.1 _ (by decide))) ?_
  · intro z hz
    simp only [List.mem_cons, List.not_mem_nil, or_false] at hz
    rcases hz with hz <;> subst hz
    · exact Or.inr ⟨by decide, "java/lang/IllegalArgumentException", hts _ wk_L_13, hN.2.2.2.2.2.1 _ (by decide) _ (by decide) (by decide)⟩
  · intro q
    refine tg_astore (L' := [(0, .ref (ad 0 0)), (1, .int v0), (2, .int v1), (3, .ref (ad 10 0)), (4, .ref q)]) hx hb dL_out_17 (by decide) rfl rfl ?_
    refine tg_iconst (v := nI 2) hx hb dL_out_19 (by decide +kernel) ?_
    refine tg_retW hQ (Nat.le_of_ble_eq_true rfl) (Nat.le_of_ble_eq_true rfl) ?_
    exact tg_iret hx hb hlocks hr rfl ⟨rfl, rfl, rfl, rfl⟩ dL_out_20
set_option maxRecDepth 100000 in
set_option maxHeartbeats 4000000 in
theorem l_speak0 (v0 v1 v2 v3 v4 v5 : Int32) (hO : hg_ok ok) {cs : List Value} (hw0 : w 0 0 = .inr (0, cs)) {post : Option Value → (Nat → Nat → Nat) → (Nat → Nat → Prop) → (Nat → Nat → va_E) → Prop} (hM : tg_Met l yH_speak wsH_speak ({ frames := 2, cells := 0, slots := 0, locals := 90 }) D vwCl (hg_tys cI cF cZ cJ cA cB) F (hg_N F) ad ok w (.ref (ad 0 0) :: [.int v0, .int v1, .int v2, .int v3, .int v4, .int v5]) post) (hp : ∀ r ad1 ok1 w1, post r ad1 ok1 w1 → (∃ v, r = some (.int v)) ∧ ok1 10 0 ∧ ad1 10 0 = ad 10 0 ∧ ∃ f, w1 10 0 = .inl (cJ, 1, .inr (.inl f))) : tg_MetW l yL_speak wsL_speak ({ frames := 8, cells := 0, slots := 0, locals := 200 }) D vwCl (hg_tys cI cF cZ cJ cA cB) F (hg_N F) ad ok w [.ref (ad 0 0), .int v0, .int v1, .int v2, .int v3, .int v4, .int v5, .ref (ad 10 0)] (fun r1 ad1 ok1 w1 => r1 = some (.int (nI 0)) ∧ ∃ v w0 f, post (some (.int v)) ad1 ok1 w0 ∧ w0 10 0 = .inl (cJ, 1, .inr (.inl f)) ∧ w1 = tg_up w0 10 0 (.inl (cJ, 1, .inr (.inl (va_up f 0 v.toInt64))))) := by
  refine tg_startW (cc := cL_speak) (maxL := 9) (ret := some .int) (hh := [(0, 18, 21, 13), (0, 18, 25, 21), (0, 18, 29, 27)]) (by decide) rfl (Nat.le_of_ble_eq_true rfl) ?_
  intro p e R s m args below meth c Q hx hb hml hr hlocks hown hts hK hN htab hR hQ
  have hown : s.vm.findClass "HangGraphLaw" = some m.cls := hown
  have hts : ∀ w ∈ lw_g, w.before args s = true := fun w z => hts w (List.mem_cons_of_mem _ z)
  have hMv := hg_Mv F
  refine tg_aload hx hb dL_speak_0 rfl ?_
  refine tg_iconst (v := nI 0) hx hb dL_speak_2 (by decide +kernel) ?_
  refine tg_aload_n hx hb dL_speak_3 rfl rfl ?_
  refine tg_iload_n hx hb dL_speak_4 rfl rfl ?_
  refine tg_iload_n hx hb dL_speak_5 rfl rfl ?_
  refine tg_iload_n hx hb dL_speak_6 rfl rfl ?_
  refine tg_iload hx hb dL_speak_7 rfl ?_
  refine tg_iload hx hb dL_speak_9 rfl ?_
  refine tg_iload hx hb dL_speak_11 rfl ?_
  refine tg_callV (C := "HangGraph") (As := [.int v0, .int v1, .int v2, .int v3, .int v4, .int v5]) (rest := [.int (nI 0), .ref (ad 10 0)]) ⟨hx, hb, hml, hown, hts⟩ hK hN hMv (hO.1 0 (by decide)) hw0 rfl rfl hM (cwV 6 hts (lg_V wm_L_23 wi_H_speak we_H_speak wn_H wc_H_speak) rfl rfl rfl ⟨rfl, by decide, by decide, rfl⟩ ⟨by rw [hR]; exact Nat.le_of_ble_eq_true rfl, by rw [hR]; exact Nat.le_of_ble_eq_true rfl⟩) rfl (Nat.le_of_ble_eq_true rfl) ⟨by rw [hR]; exact Nat.le_of_ble_eq_true rfl, by rw [hR]; exact Nat.le_of_ble_eq_true rfl⟩ rfl dL_speak_13 ?_
  intro r ad1 ok1 w1 h1
  obtain ⟨⟨v, hv⟩, h10, ha10, f, hf⟩ := hp r ad1 ok1 w1 h1
  subst hv
  refine tg_st (st' := [.int v, .int (nI 0), .ref (ad1 10 0)]) (by rw [ha10]; rfl) ?_
  refine tg_i2l (v := v.toInt64) hx hb dL_speak_16 rfl ?_
  refine tg_last (t0 := 3) hx hb hK h10 hf rfl (x := 0) (by decide) (by decide) dL_speak_17 ?_
  refine tg_goto (tgt := 33) hx hb dL_speak_18 (by decide) ?_
  refine tg_iconst (v := nI 0) hx hb dL_speak_33 (by decide +kernel) ?_
  refine tg_retW hQ (Nat.le_of_ble_eq_true rfl) (Nat.le_of_ble_eq_true rfl) ?_
  exact tg_iret hx hb hlocks hr rfl ⟨rfl, v, w1, f, h1, hf, rfl⟩ dL_speak_34
set_option maxRecDepth 100000 in
set_option maxHeartbeats 4000000 in
theorem l_speak1 (v0 v1 v2 v3 v4 v5 : Int32) (hO : hg_ok ok) {cs : List Value} (hw0 : w 0 0 = .inr (0, cs)) (hM : tg_MetT l yH_speak wsH_speak ({ frames := 7, cells := 1, slots := 6, locals := 140 }) D vwCl (hg_tys cI cF cZ cJ cA cB) F (hg_N F) ad ok w (.ref (ad 0 0) :: [.int v0, .int v1, .int v2, .int v3, .int v4, .int v5]) "java/lang/IllegalArgumentException") : tg_MetW l yL_speak wsL_speak ({ frames := 8, cells := 1, slots := 6, locals := 200 }) D vwCl (hg_tys cI cF cZ cJ cA cB) F (hg_N F) ad ok w [.ref (ad 0 0), .int v0, .int v1, .int v2, .int v3, .int v4, .int v5, .ref (ad 10 0)] (tg_po ad ok fun r1 w1 => r1 = some (.int (nI 1)) ∧ w1 = w) := by
  refine tg_startW (cc := cL_speak) (maxL := 9) (ret := some .int) (hh := [(0, 18, 21, 13), (0, 18, 25, 21), (0, 18, 29, 27)]) (by decide) rfl (Nat.le_of_ble_eq_true rfl) ?_
  intro p e R s m args below meth c Q hx hb hml hr hlocks hown hts hK hN htab hR hQ
  have hown : s.vm.findClass "HangGraphLaw" = some m.cls := hown
  have hts : ∀ w ∈ lw_g, w.before args s = true := fun w z => hts w (List.mem_cons_of_mem _ z)
  have hMv := hg_Mv F
  refine tg_aload hx hb dL_speak_0 rfl ?_
  refine tg_iconst (v := nI 0) hx hb dL_speak_2 (by decide +kernel) ?_
  refine tg_aload_n hx hb dL_speak_3 rfl rfl ?_
  refine tg_iload_n hx hb dL_speak_4 rfl rfl ?_
  refine tg_iload_n hx hb dL_speak_5 rfl rfl ?_
  refine tg_iload_n hx hb dL_speak_6 rfl rfl ?_
  refine tg_iload hx hb dL_speak_7 rfl ?_
  refine tg_iload hx hb dL_speak_9 rfl ?_
  refine tg_iload hx hb dL_speak_11 rfl ?_
  refine tg_catchT (own := "HangGraphLaw") (name := "java/lang/IllegalArgumentException") (tg_runVT (C := "HangGraph") (As := [.int v0, .int v1, .int v2, .int v3, .int v4, .int v5]) (rest := [.int (nI 0), .ref (ad 10 0)]) ⟨hx, hb, hml, hown, hts⟩ hK hN hMv (hO.1 0 (by decide)) hw0 rfl rfl hM (cwV 6 hts (lg_V wm_L_23 wi_H_speak we_H_speak wn_H wc_H_speak) rfl rfl rfl ⟨rfl, by decide, by decide, rfl⟩ ⟨by rw [hR]; exact Nat.le_of_ble_eq_true rfl, by rw [hR]; exact Nat.le_of_ble_eq_true rfl⟩) rfl (Nat.le_of_ble_eq_true rfl) ⟨by rw [hR]; exact Nat.le_of_ble_eq_true rfl, by rw [hR]; exact Nat.le_of_ble_eq_true rfl⟩ rfl dL_speak_13) hown [] ⟨0, 18, 21, 13⟩ [⟨0, 18, 25, 21⟩, ⟨0, 18, 29, 27⟩] (htab.trans rfl) ?_ (by decide) (by decide) (hts _ wk_L_13) (va_Nw.use rfl (hN.2.2.2.1 _ (by decide))) ?_
  · intro z hz; exact absurd hz List.not_mem_nil
  · intro q
    refine tg_astore (L' := [(0, .ref (ad 0 0)), (1, .int v0), (2, .int v1), (3, .int v2), (4, .int v3), (5, .int v4), (6, .int v5), (7, .ref (ad 10 0)), (8, .ref q)]) hx hb dL_speak_21 (by decide) rfl rfl ?_
    refine tg_iconst (v := nI 1) hx hb dL_speak_23 (by decide +kernel) ?_
    refine tg_retW hQ (Nat.le_of_ble_eq_true rfl) (Nat.le_of_ble_eq_true rfl) ?_
    exact tg_iret hx hb hlocks hr rfl ⟨rfl, rfl, rfl, rfl⟩ dL_speak_24
set_option maxRecDepth 100000 in
set_option maxHeartbeats 4000000 in
theorem l_speak2 (v0 v1 v2 v3 v4 v5 : Int32) (hO : hg_ok ok) {cs : List Value} (hw0 : w 0 0 = .inr (0, cs)) (hM : tg_MetT l yH_speak wsH_speak ({ frames := 7, cells := 1, slots := 6, locals := 140 }) D vwCl (hg_tys cI cF cZ cJ cA cB) F (hg_N F) ad ok w (.ref (ad 0 0) :: [.int v0, .int v1, .int v2, .int v3, .int v4, .int v5]) "java/util/NoSuchElementException") : tg_MetW l yL_speak wsL_speak ({ frames := 8, cells := 1, slots := 6, locals := 200 }) D vwCl (hg_tys cI cF cZ cJ cA cB) F (hg_N F) ad ok w [.ref (ad 0 0), .int v0, .int v1, .int v2, .int v3, .int v4, .int v5, .ref (ad 10 0)] (tg_po ad ok fun r1 w1 => r1 = some (.int (nI 2)) ∧ w1 = w) := by
  refine tg_startW (cc := cL_speak) (maxL := 9) (ret := some .int) (hh := [(0, 18, 21, 13), (0, 18, 25, 21), (0, 18, 29, 27)]) (by decide) rfl (Nat.le_of_ble_eq_true rfl) ?_
  intro p e R s m args below meth c Q hx hb hml hr hlocks hown hts hK hN htab hR hQ
  have hown : s.vm.findClass "HangGraphLaw" = some m.cls := hown
  have hts : ∀ w ∈ lw_g, w.before args s = true := fun w z => hts w (List.mem_cons_of_mem _ z)
  have hMv := hg_Mv F
  refine tg_aload hx hb dL_speak_0 rfl ?_
  refine tg_iconst (v := nI 0) hx hb dL_speak_2 (by decide +kernel) ?_
  refine tg_aload_n hx hb dL_speak_3 rfl rfl ?_
  refine tg_iload_n hx hb dL_speak_4 rfl rfl ?_
  refine tg_iload_n hx hb dL_speak_5 rfl rfl ?_
  refine tg_iload_n hx hb dL_speak_6 rfl rfl ?_
  refine tg_iload hx hb dL_speak_7 rfl ?_
  refine tg_iload hx hb dL_speak_9 rfl ?_
  refine tg_iload hx hb dL_speak_11 rfl ?_
  refine tg_catchT (own := "HangGraphLaw") (name := "java/util/NoSuchElementException") (tg_runVT (C := "HangGraph") (As := [.int v0, .int v1, .int v2, .int v3, .int v4, .int v5]) (rest := [.int (nI 0), .ref (ad 10 0)]) ⟨hx, hb, hml, hown, hts⟩ hK hN hMv (hO.1 0 (by decide)) hw0 rfl rfl hM (cwV 6 hts (lg_V wm_L_23 wi_H_speak we_H_speak wn_H wc_H_speak) rfl rfl rfl ⟨rfl, by decide, by decide, rfl⟩ ⟨by rw [hR]; exact Nat.le_of_ble_eq_true rfl, by rw [hR]; exact Nat.le_of_ble_eq_true rfl⟩) rfl (Nat.le_of_ble_eq_true rfl) ⟨by rw [hR]; exact Nat.le_of_ble_eq_true rfl, by rw [hR]; exact Nat.le_of_ble_eq_true rfl⟩ rfl dL_speak_13) hown [⟨0, 18, 21, 13⟩] ⟨0, 18, 25, 21⟩ [⟨0, 18, 29, 27⟩] (htab.trans rfl) ?_ (by decide) (by decide) (hts _ wk_L_21) (va_Nw.use rfl (hN.2.2.2.1 _ (by decide))) ?_
  · intro z hz
    simp only [List.mem_cons, List.not_mem_nil, or_false] at hz
    rcases hz with hz <;> subst hz
    · exact Or.inr ⟨by decide, "java/lang/IllegalArgumentException", hts _ wk_L_13, hN.2.2.2.2.2.1 _ (by decide) _ (by decide) (by decide)⟩
  · intro q
    refine tg_astore (L' := [(0, .ref (ad 0 0)), (1, .int v0), (2, .int v1), (3, .int v2), (4, .int v3), (5, .int v4), (6, .int v5), (7, .ref (ad 10 0)), (8, .ref q)]) hx hb dL_speak_25 (by decide) rfl rfl ?_
    refine tg_iconst (v := nI 2) hx hb dL_speak_27 (by decide +kernel) ?_
    refine tg_retW hQ (Nat.le_of_ble_eq_true rfl) (Nat.le_of_ble_eq_true rfl) ?_
    exact tg_iret hx hb hlocks hr rfl ⟨rfl, rfl, rfl, rfl⟩ dL_speak_28
set_option maxRecDepth 100000 in
set_option maxHeartbeats 4000000 in
theorem l_speak3 (v0 v1 v2 v3 v4 v5 : Int32) (hO : hg_ok ok) {cs : List Value} (hw0 : w 0 0 = .inr (0, cs)) (hM : tg_MetT l yH_speak wsH_speak ({ frames := 7, cells := 1, slots := 6, locals := 140 }) D vwCl (hg_tys cI cF cZ cJ cA cB) F (hg_N F) ad ok w (.ref (ad 0 0) :: [.int v0, .int v1, .int v2, .int v3, .int v4, .int v5]) "java/lang/IndexOutOfBoundsException") : tg_MetW l yL_speak wsL_speak ({ frames := 8, cells := 1, slots := 6, locals := 200 }) D vwCl (hg_tys cI cF cZ cJ cA cB) F (hg_N F) ad ok w [.ref (ad 0 0), .int v0, .int v1, .int v2, .int v3, .int v4, .int v5, .ref (ad 10 0)] (tg_po ad ok fun r1 w1 => r1 = some (.int (nI 3)) ∧ w1 = w) := by
  refine tg_startW (cc := cL_speak) (maxL := 9) (ret := some .int) (hh := [(0, 18, 21, 13), (0, 18, 25, 21), (0, 18, 29, 27)]) (by decide) rfl (Nat.le_of_ble_eq_true rfl) ?_
  intro p e R s m args below meth c Q hx hb hml hr hlocks hown hts hK hN htab hR hQ
  have hown : s.vm.findClass "HangGraphLaw" = some m.cls := hown
  have hts : ∀ w ∈ lw_g, w.before args s = true := fun w z => hts w (List.mem_cons_of_mem _ z)
  have hMv := hg_Mv F
  refine tg_aload hx hb dL_speak_0 rfl ?_
  refine tg_iconst (v := nI 0) hx hb dL_speak_2 (by decide +kernel) ?_
  refine tg_aload_n hx hb dL_speak_3 rfl rfl ?_
  refine tg_iload_n hx hb dL_speak_4 rfl rfl ?_
  refine tg_iload_n hx hb dL_speak_5 rfl rfl ?_
  refine tg_iload_n hx hb dL_speak_6 rfl rfl ?_
  refine tg_iload hx hb dL_speak_7 rfl ?_
  refine tg_iload hx hb dL_speak_9 rfl ?_
  refine tg_iload hx hb dL_speak_11 rfl ?_
  refine tg_catchT (own := "HangGraphLaw") (name := "java/lang/IndexOutOfBoundsException") (tg_runVT (C := "HangGraph") (As := [.int v0, .int v1, .int v2, .int v3, .int v4, .int v5]) (rest := [.int (nI 0), .ref (ad 10 0)]) ⟨hx, hb, hml, hown, hts⟩ hK hN hMv (hO.1 0 (by decide)) hw0 rfl rfl hM (cwV 6 hts (lg_V wm_L_23 wi_H_speak we_H_speak wn_H wc_H_speak) rfl rfl rfl ⟨rfl, by decide, by decide, rfl⟩ ⟨by rw [hR]; exact Nat.le_of_ble_eq_true rfl, by rw [hR]; exact Nat.le_of_ble_eq_true rfl⟩) rfl (Nat.le_of_ble_eq_true rfl) ⟨by rw [hR]; exact Nat.le_of_ble_eq_true rfl, by rw [hR]; exact Nat.le_of_ble_eq_true rfl⟩ rfl dL_speak_13) hown [⟨0, 18, 21, 13⟩, ⟨0, 18, 25, 21⟩] ⟨0, 18, 29, 27⟩ [] (htab.trans rfl) ?_ (by decide) (by decide) (hts _ wk_L_27) (va_Nw.use rfl (hN.2.2.2.1 _ (by decide))) ?_
  · intro z hz
    simp only [List.mem_cons, List.not_mem_nil, or_false] at hz
    rcases hz with hz | hz <;> subst hz
    · exact Or.inr ⟨by decide, "java/lang/IllegalArgumentException", hts _ wk_L_13, hN.2.2.2.2.2.1 _ (by decide) _ (by decide) (by decide)⟩
    · exact Or.inr ⟨by decide, "java/util/NoSuchElementException", hts _ wk_L_21, hN.2.2.2.2.2.1 _ (by decide) _ (by decide) (by decide)⟩
  · intro q
    refine tg_astore (L' := [(0, .ref (ad 0 0)), (1, .int v0), (2, .int v1), (3, .int v2), (4, .int v3), (5, .int v4), (6, .int v5), (7, .ref (ad 10 0)), (8, .ref q)]) hx hb dL_speak_29 (by decide) rfl rfl ?_
    refine tg_iconst (v := nI 3) hx hb dL_speak_31 (by decide +kernel) ?_
    refine tg_retW hQ (Nat.le_of_ble_eq_true rfl) (Nat.le_of_ble_eq_true rfl) ?_
    exact tg_iret hx hb hlocks hr rfl ⟨rfl, rfl, rfl, rfl⟩ dL_speak_32
set_option maxRecDepth 100000 in
set_option maxHeartbeats 4000000 in
theorem l_touch0 (v0 v1 : Int32) (hO : hg_ok ok) {cs : List Value} (hw0 : w 0 0 = .inr (0, cs)) {post : Option Value → (Nat → Nat → Nat) → (Nat → Nat → Prop) → (Nat → Nat → va_E) → Prop} (hM : tg_Met l yH_touch wsH_touch ({ frames := 1, cells := 0, slots := 0, locals := 40 }) D vwCl (hg_tys cI cF cZ cJ cA cB) F (hg_N F) ad ok w (.ref (ad 0 0) :: [.int v0, .int v1]) post) (hp : ∀ r ad1 ok1 w1, post r ad1 ok1 w1 → r = none) : tg_MetW l yL_touch wsL_touch ({ frames := 8, cells := 0, slots := 0, locals := 200 }) D vwCl (hg_tys cI cF cZ cJ cA cB) F (hg_N F) ad ok w [.ref (ad 0 0), .int v0, .int v1] (fun r1 ad1 ok1 w1 => r1 = some (.int (nI 0)) ∧ post none ad1 ok1 w1) := by
  refine tg_startW (cc := cL_touch) (maxL := 4) (ret := some .int) (hh := [(0, 6, 9, 13)]) (by decide) rfl (Nat.le_of_ble_eq_true rfl) ?_
  intro p e R s m args below meth c Q hx hb hml hr hlocks hown hts hK hN htab hR hQ
  have hown : s.vm.findClass "HangGraphLaw" = some m.cls := hown
  have hts : ∀ w ∈ lw_g, w.before args s = true := fun w z => hts w (List.mem_cons_of_mem _ z)
  have hMv := hg_Mv F
  refine tg_aload_n hx hb dL_touch_0 rfl rfl ?_
  refine tg_iload_n hx hb dL_touch_1 rfl rfl ?_
  refine tg_iload_n hx hb dL_touch_2 rfl rfl ?_
  refine tg_callV (C := "HangGraph") (As := [.int v0, .int v1]) (rest := []) ⟨hx, hb, hml, hown, hts⟩ hK hN hMv (hO.1 0 (by decide)) hw0 rfl rfl hM (cwV 2 hts (lg_V wm_L_29 wi_H_touch we_H_touch wn_H wc_H_touch) rfl rfl rfl ⟨rfl, by decide, by decide, rfl⟩ ⟨by rw [hR]; exact Nat.le_of_ble_eq_true rfl, by rw [hR]; exact Nat.le_of_ble_eq_true rfl⟩) rfl (Nat.le_of_ble_eq_true rfl) ⟨by rw [hR]; exact Nat.le_of_ble_eq_true rfl, by rw [hR]; exact Nat.le_of_ble_eq_true rfl⟩ rfl dL_touch_3 ?_
  intro r ad1 ok1 w1 h1
  have hv := hp r ad1 ok1 w1 h1
  subst hv
  refine tg_st (st' := []) rfl ?_
  refine tg_goto (tgt := 12) hx hb dL_touch_6 (by decide) ?_
  refine tg_iconst (v := nI 0) hx hb dL_touch_12 (by decide +kernel) ?_
  refine tg_retW hQ (Nat.le_of_ble_eq_true rfl) (Nat.le_of_ble_eq_true rfl) ?_
  exact tg_iret hx hb hlocks hr rfl ⟨rfl, h1⟩ dL_touch_13
set_option maxRecDepth 100000 in
set_option maxHeartbeats 4000000 in
theorem l_touch1 (v0 v1 : Int32) (hO : hg_ok ok) {cs : List Value} (hw0 : w 0 0 = .inr (0, cs)) (hM : tg_MetT l yH_touch wsH_touch ({ frames := 7, cells := 1, slots := 6, locals := 140 }) D vwCl (hg_tys cI cF cZ cJ cA cB) F (hg_N F) ad ok w (.ref (ad 0 0) :: [.int v0, .int v1]) "java/lang/IllegalArgumentException") : tg_MetW l yL_touch wsL_touch ({ frames := 8, cells := 1, slots := 6, locals := 200 }) D vwCl (hg_tys cI cF cZ cJ cA cB) F (hg_N F) ad ok w [.ref (ad 0 0), .int v0, .int v1] (tg_po ad ok fun r1 w1 => r1 = some (.int (nI 1)) ∧ w1 = w) := by
  refine tg_startW (cc := cL_touch) (maxL := 4) (ret := some .int) (hh := [(0, 6, 9, 13)]) (by decide) rfl (Nat.le_of_ble_eq_true rfl) ?_
  intro p e R s m args below meth c Q hx hb hml hr hlocks hown hts hK hN htab hR hQ
  have hown : s.vm.findClass "HangGraphLaw" = some m.cls := hown
  have hts : ∀ w ∈ lw_g, w.before args s = true := fun w z => hts w (List.mem_cons_of_mem _ z)
  have hMv := hg_Mv F
  refine tg_aload_n hx hb dL_touch_0 rfl rfl ?_
  refine tg_iload_n hx hb dL_touch_1 rfl rfl ?_
  refine tg_iload_n hx hb dL_touch_2 rfl rfl ?_
  refine tg_catchT (own := "HangGraphLaw") (name := "java/lang/IllegalArgumentException") (tg_runVT (C := "HangGraph") (As := [.int v0, .int v1]) (rest := []) ⟨hx, hb, hml, hown, hts⟩ hK hN hMv (hO.1 0 (by decide)) hw0 rfl rfl hM (cwV 2 hts (lg_V wm_L_29 wi_H_touch we_H_touch wn_H wc_H_touch) rfl rfl rfl ⟨rfl, by decide, by decide, rfl⟩ ⟨by rw [hR]; exact Nat.le_of_ble_eq_true rfl, by rw [hR]; exact Nat.le_of_ble_eq_true rfl⟩) rfl (Nat.le_of_ble_eq_true rfl) ⟨by rw [hR]; exact Nat.le_of_ble_eq_true rfl, by rw [hR]; exact Nat.le_of_ble_eq_true rfl⟩ rfl dL_touch_3) hown [] ⟨0, 6, 9, 13⟩ [] (htab.trans rfl) ?_ (by decide) (by decide) (hts _ wk_L_13) (va_Nw.use rfl (hN.2.2.2.1 _ (by decide))) ?_
  · intro z hz; exact absurd hz List.not_mem_nil
  · intro q
    refine tg_astore_n (L' := [(0, .ref (ad 0 0)), (1, .int v0), (2, .int v1), (3, .ref q)]) hx hb dL_touch_9 rfl (by decide) rfl rfl ?_
    refine tg_iconst (v := nI 1) hx hb dL_touch_10 (by decide +kernel) ?_
    refine tg_retW hQ (Nat.le_of_ble_eq_true rfl) (Nat.le_of_ble_eq_true rfl) ?_
    exact tg_iret hx hb hlocks hr rfl ⟨rfl, rfl, rfl, rfl⟩ dL_touch_11
set_option maxRecDepth 100000 in
set_option maxHeartbeats 4000000 in
theorem l_told0 (v0 v1 v2 : Int32) (hO : hg_ok ok) {cs : List Value} (hw0 : w 0 0 = .inr (0, cs)) {post : Option Value → (Nat → Nat → Nat) → (Nat → Nat → Prop) → (Nat → Nat → va_E) → Prop} (hM : tg_Met l yH_told wsH_told ({ frames := 2, cells := 0, slots := 0, locals := 90 }) D vwCl (hg_tys cI cF cZ cJ cA cB) F (hg_N F) ad ok w (.ref (ad 0 0) :: [.int v0, .int v1, .int v2]) post) (hp : ∀ r ad1 ok1 w1, post r ad1 ok1 w1 → (∃ v, r = some (.int v)) ∧ ok1 10 0 ∧ ad1 10 0 = ad 10 0 ∧ ∃ f, w1 10 0 = .inl (cJ, 1, .inr (.inl f))) : tg_MetW l yL_told wsL_told ({ frames := 8, cells := 0, slots := 0, locals := 200 }) D vwCl (hg_tys cI cF cZ cJ cA cB) F (hg_N F) ad ok w [.ref (ad 0 0), .int v0, .int v1, .int v2, .ref (ad 10 0)] (fun r1 ad1 ok1 w1 => r1 = some (.int (nI 0)) ∧ ∃ v w0 f, post (some (.int v)) ad1 ok1 w0 ∧ w0 10 0 = .inl (cJ, 1, .inr (.inl f)) ∧ w1 = tg_up w0 10 0 (.inl (cJ, 1, .inr (.inl (va_up f 0 v.toInt64))))) := by
  refine tg_startW (cc := cL_told) (maxL := 6) (ret := some .int) (hh := [(0, 12, 15, 13), (0, 12, 19, 21)]) (by decide) rfl (Nat.le_of_ble_eq_true rfl) ?_
  intro p e R s m args below meth c Q hx hb hml hr hlocks hown hts hK hN htab hR hQ
  have hown : s.vm.findClass "HangGraphLaw" = some m.cls := hown
  have hts : ∀ w ∈ lw_g, w.before args s = true := fun w z => hts w (List.mem_cons_of_mem _ z)
  have hMv := hg_Mv F
  refine tg_aload hx hb dL_told_0 rfl ?_
  refine tg_iconst (v := nI 0) hx hb dL_told_2 (by decide +kernel) ?_
  refine tg_aload_n hx hb dL_told_3 rfl rfl ?_
  refine tg_iload_n hx hb dL_told_4 rfl rfl ?_
  refine tg_iload_n hx hb dL_told_5 rfl rfl ?_
  refine tg_iload_n hx hb dL_told_6 rfl rfl ?_
  refine tg_callV (C := "HangGraph") (As := [.int v0, .int v1, .int v2]) (rest := [.int (nI 0), .ref (ad 10 0)]) ⟨hx, hb, hml, hown, hts⟩ hK hN hMv (hO.1 0 (by decide)) hw0 rfl rfl hM (cwV 3 hts (lg_V wm_L_33 wi_H_told we_H_told wn_H wc_H_told) rfl rfl rfl ⟨rfl, by decide, by decide, rfl⟩ ⟨by rw [hR]; exact Nat.le_of_ble_eq_true rfl, by rw [hR]; exact Nat.le_of_ble_eq_true rfl⟩) rfl (Nat.le_of_ble_eq_true rfl) ⟨by rw [hR]; exact Nat.le_of_ble_eq_true rfl, by rw [hR]; exact Nat.le_of_ble_eq_true rfl⟩ rfl dL_told_7 ?_
  intro r ad1 ok1 w1 h1
  obtain ⟨⟨v, hv⟩, h10, ha10, f, hf⟩ := hp r ad1 ok1 w1 h1
  subst hv
  refine tg_st (st' := [.int v, .int (nI 0), .ref (ad1 10 0)]) (by rw [ha10]; rfl) ?_
  refine tg_i2l (v := v.toInt64) hx hb dL_told_10 rfl ?_
  refine tg_last (t0 := 3) hx hb hK h10 hf rfl (x := 0) (by decide) (by decide) dL_told_11 ?_
  refine tg_goto (tgt := 23) hx hb dL_told_12 (by decide) ?_
  refine tg_iconst (v := nI 0) hx hb dL_told_23 (by decide +kernel) ?_
  refine tg_retW hQ (Nat.le_of_ble_eq_true rfl) (Nat.le_of_ble_eq_true rfl) ?_
  exact tg_iret hx hb hlocks hr rfl ⟨rfl, v, w1, f, h1, hf, rfl⟩ dL_told_24
set_option maxRecDepth 100000 in
set_option maxHeartbeats 4000000 in
theorem l_told1 (v0 v1 v2 : Int32) (hO : hg_ok ok) {cs : List Value} (hw0 : w 0 0 = .inr (0, cs)) (hM : tg_MetT l yH_told wsH_told ({ frames := 7, cells := 1, slots := 6, locals := 140 }) D vwCl (hg_tys cI cF cZ cJ cA cB) F (hg_N F) ad ok w (.ref (ad 0 0) :: [.int v0, .int v1, .int v2]) "java/lang/IllegalArgumentException") : tg_MetW l yL_told wsL_told ({ frames := 8, cells := 1, slots := 6, locals := 200 }) D vwCl (hg_tys cI cF cZ cJ cA cB) F (hg_N F) ad ok w [.ref (ad 0 0), .int v0, .int v1, .int v2, .ref (ad 10 0)] (tg_po ad ok fun r1 w1 => r1 = some (.int (nI 1)) ∧ w1 = w) := by
  refine tg_startW (cc := cL_told) (maxL := 6) (ret := some .int) (hh := [(0, 12, 15, 13), (0, 12, 19, 21)]) (by decide) rfl (Nat.le_of_ble_eq_true rfl) ?_
  intro p e R s m args below meth c Q hx hb hml hr hlocks hown hts hK hN htab hR hQ
  have hown : s.vm.findClass "HangGraphLaw" = some m.cls := hown
  have hts : ∀ w ∈ lw_g, w.before args s = true := fun w z => hts w (List.mem_cons_of_mem _ z)
  have hMv := hg_Mv F
  refine tg_aload hx hb dL_told_0 rfl ?_
  refine tg_iconst (v := nI 0) hx hb dL_told_2 (by decide +kernel) ?_
  refine tg_aload_n hx hb dL_told_3 rfl rfl ?_
  refine tg_iload_n hx hb dL_told_4 rfl rfl ?_
  refine tg_iload_n hx hb dL_told_5 rfl rfl ?_
  refine tg_iload_n hx hb dL_told_6 rfl rfl ?_
  refine tg_catchT (own := "HangGraphLaw") (name := "java/lang/IllegalArgumentException") (tg_runVT (C := "HangGraph") (As := [.int v0, .int v1, .int v2]) (rest := [.int (nI 0), .ref (ad 10 0)]) ⟨hx, hb, hml, hown, hts⟩ hK hN hMv (hO.1 0 (by decide)) hw0 rfl rfl hM (cwV 3 hts (lg_V wm_L_33 wi_H_told we_H_told wn_H wc_H_told) rfl rfl rfl ⟨rfl, by decide, by decide, rfl⟩ ⟨by rw [hR]; exact Nat.le_of_ble_eq_true rfl, by rw [hR]; exact Nat.le_of_ble_eq_true rfl⟩) rfl (Nat.le_of_ble_eq_true rfl) ⟨by rw [hR]; exact Nat.le_of_ble_eq_true rfl, by rw [hR]; exact Nat.le_of_ble_eq_true rfl⟩ rfl dL_told_7) hown [] ⟨0, 12, 15, 13⟩ [⟨0, 12, 19, 21⟩] (htab.trans rfl) ?_ (by decide) (by decide) (hts _ wk_L_13) (va_Nw.use rfl (hN.2.2.2.1 _ (by decide))) ?_
  · intro z hz; exact absurd hz List.not_mem_nil
  · intro q
    refine tg_astore (L' := [(0, .ref (ad 0 0)), (1, .int v0), (2, .int v1), (3, .int v2), (4, .ref (ad 10 0)), (5, .ref q)]) hx hb dL_told_15 (by decide) rfl rfl ?_
    refine tg_iconst (v := nI 1) hx hb dL_told_17 (by decide +kernel) ?_
    refine tg_retW hQ (Nat.le_of_ble_eq_true rfl) (Nat.le_of_ble_eq_true rfl) ?_
    exact tg_iret hx hb hlocks hr rfl ⟨rfl, rfl, rfl, rfl⟩ dL_told_18
set_option maxRecDepth 100000 in
set_option maxHeartbeats 4000000 in
theorem l_told2 (v0 v1 v2 : Int32) (hO : hg_ok ok) {cs : List Value} (hw0 : w 0 0 = .inr (0, cs)) (hM : tg_MetT l yH_told wsH_told ({ frames := 7, cells := 1, slots := 6, locals := 140 }) D vwCl (hg_tys cI cF cZ cJ cA cB) F (hg_N F) ad ok w (.ref (ad 0 0) :: [.int v0, .int v1, .int v2]) "java/util/NoSuchElementException") : tg_MetW l yL_told wsL_told ({ frames := 8, cells := 1, slots := 6, locals := 200 }) D vwCl (hg_tys cI cF cZ cJ cA cB) F (hg_N F) ad ok w [.ref (ad 0 0), .int v0, .int v1, .int v2, .ref (ad 10 0)] (tg_po ad ok fun r1 w1 => r1 = some (.int (nI 2)) ∧ w1 = w) := by
  refine tg_startW (cc := cL_told) (maxL := 6) (ret := some .int) (hh := [(0, 12, 15, 13), (0, 12, 19, 21)]) (by decide) rfl (Nat.le_of_ble_eq_true rfl) ?_
  intro p e R s m args below meth c Q hx hb hml hr hlocks hown hts hK hN htab hR hQ
  have hown : s.vm.findClass "HangGraphLaw" = some m.cls := hown
  have hts : ∀ w ∈ lw_g, w.before args s = true := fun w z => hts w (List.mem_cons_of_mem _ z)
  have hMv := hg_Mv F
  refine tg_aload hx hb dL_told_0 rfl ?_
  refine tg_iconst (v := nI 0) hx hb dL_told_2 (by decide +kernel) ?_
  refine tg_aload_n hx hb dL_told_3 rfl rfl ?_
  refine tg_iload_n hx hb dL_told_4 rfl rfl ?_
  refine tg_iload_n hx hb dL_told_5 rfl rfl ?_
  refine tg_iload_n hx hb dL_told_6 rfl rfl ?_
  refine tg_catchT (own := "HangGraphLaw") (name := "java/util/NoSuchElementException") (tg_runVT (C := "HangGraph") (As := [.int v0, .int v1, .int v2]) (rest := [.int (nI 0), .ref (ad 10 0)]) ⟨hx, hb, hml, hown, hts⟩ hK hN hMv (hO.1 0 (by decide)) hw0 rfl rfl hM (cwV 3 hts (lg_V wm_L_33 wi_H_told we_H_told wn_H wc_H_told) rfl rfl rfl ⟨rfl, by decide, by decide, rfl⟩ ⟨by rw [hR]; exact Nat.le_of_ble_eq_true rfl, by rw [hR]; exact Nat.le_of_ble_eq_true rfl⟩) rfl (Nat.le_of_ble_eq_true rfl) ⟨by rw [hR]; exact Nat.le_of_ble_eq_true rfl, by rw [hR]; exact Nat.le_of_ble_eq_true rfl⟩ rfl dL_told_7) hown [⟨0, 12, 15, 13⟩] ⟨0, 12, 19, 21⟩ [] (htab.trans rfl) ?_ (by decide) (by decide) (hts _ wk_L_21) (va_Nw.use rfl (hN.2.2.2.1 _ (by decide))) ?_
  · intro z hz
    simp only [List.mem_cons, List.not_mem_nil, or_false] at hz
    rcases hz with hz <;> subst hz
    · exact Or.inr ⟨by decide, "java/lang/IllegalArgumentException", hts _ wk_L_13, hN.2.2.2.2.2.1 _ (by decide) _ (by decide) (by decide)⟩
  · intro q
    refine tg_astore (L' := [(0, .ref (ad 0 0)), (1, .int v0), (2, .int v1), (3, .int v2), (4, .ref (ad 10 0)), (5, .ref q)]) hx hb dL_told_19 (by decide) rfl rfl ?_
    refine tg_iconst (v := nI 2) hx hb dL_told_21 (by decide +kernel) ?_
    refine tg_retW hQ (Nat.le_of_ble_eq_true rfl) (Nat.le_of_ble_eq_true rfl) ?_
    exact tg_iret hx hb hlocks hr rfl ⟨rfl, rfl, rfl, rfl⟩ dL_told_22
set_option maxRecDepth 100000 in
set_option maxHeartbeats 4000000 in
theorem l_owner0 (v0 v1 : Int32) (hO : hg_ok ok) {cs : List Value} (hw0 : w 0 0 = .inr (0, cs)) {post : Option Value → (Nat → Nat → Nat) → (Nat → Nat → Prop) → (Nat → Nat → va_E) → Prop} (hM : tg_Met l yH_owner wsH_owner ({ frames := 1, cells := 0, slots := 0, locals := 40 }) D vwCl (hg_tys cI cF cZ cJ cA cB) F (hg_N F) ad ok w (.ref (ad 0 0) :: [.int v0, .int v1]) post) (hp : ∀ r ad1 ok1 w1, post r ad1 ok1 w1 → (∃ v, r = some (.int v)) ∧ ok1 10 0 ∧ ad1 10 0 = ad 10 0 ∧ ∃ f, w1 10 0 = .inl (cJ, 1, .inr (.inl f))) : tg_MetW l yL_owner wsL_owner ({ frames := 8, cells := 0, slots := 0, locals := 200 }) D vwCl (hg_tys cI cF cZ cJ cA cB) F (hg_N F) ad ok w [.ref (ad 0 0), .int v0, .int v1, .ref (ad 10 0)] (fun r1 ad1 ok1 w1 => r1 = some (.int (nI 0)) ∧ ∃ v w0 f, post (some (.int v)) ad1 ok1 w0 ∧ w0 10 0 = .inl (cJ, 1, .inr (.inl f)) ∧ w1 = tg_up w0 10 0 (.inl (cJ, 1, .inr (.inl (va_up f 0 v.toInt64))))) := by
  refine tg_startW (cc := cL_owner) (maxL := 5) (ret := some .int) (hh := [(0, 10, 13, 13)]) (by decide) rfl (Nat.le_of_ble_eq_true rfl) ?_
  intro p e R s m args below meth c Q hx hb hml hr hlocks hown hts hK hN htab hR hQ
  have hown : s.vm.findClass "HangGraphLaw" = some m.cls := hown
  have hts : ∀ w ∈ lw_g, w.before args s = true := fun w z => hts w (List.mem_cons_of_mem _ z)
  have hMv := hg_Mv F
  refine tg_aload_n hx hb dL_owner_0 rfl rfl ?_
  refine tg_iconst (v := nI 0) hx hb dL_owner_1 (by decide +kernel) ?_
  refine tg_aload_n hx hb dL_owner_2 rfl rfl ?_
  refine tg_iload_n hx hb dL_owner_3 rfl rfl ?_
  refine tg_iload_n hx hb dL_owner_4 rfl rfl ?_
  refine tg_callV (C := "HangGraph") (As := [.int v0, .int v1]) (rest := [.int (nI 0), .ref (ad 10 0)]) ⟨hx, hb, hml, hown, hts⟩ hK hN hMv (hO.1 0 (by decide)) hw0 rfl rfl hM (cwV 2 hts (lg_V wm_L_37 wi_H_owner we_H_owner wn_H wc_H_owner) rfl rfl rfl ⟨rfl, by decide, by decide, rfl⟩ ⟨by rw [hR]; exact Nat.le_of_ble_eq_true rfl, by rw [hR]; exact Nat.le_of_ble_eq_true rfl⟩) rfl (Nat.le_of_ble_eq_true rfl) ⟨by rw [hR]; exact Nat.le_of_ble_eq_true rfl, by rw [hR]; exact Nat.le_of_ble_eq_true rfl⟩ rfl dL_owner_5 ?_
  intro r ad1 ok1 w1 h1
  obtain ⟨⟨v, hv⟩, h10, ha10, f, hf⟩ := hp r ad1 ok1 w1 h1
  subst hv
  refine tg_st (st' := [.int v, .int (nI 0), .ref (ad1 10 0)]) (by rw [ha10]; rfl) ?_
  refine tg_i2l (v := v.toInt64) hx hb dL_owner_8 rfl ?_
  refine tg_last (t0 := 3) hx hb hK h10 hf rfl (x := 0) (by decide) (by decide) dL_owner_9 ?_
  refine tg_goto (tgt := 17) hx hb dL_owner_10 (by decide) ?_
  refine tg_iconst (v := nI 0) hx hb dL_owner_17 (by decide +kernel) ?_
  refine tg_retW hQ (Nat.le_of_ble_eq_true rfl) (Nat.le_of_ble_eq_true rfl) ?_
  exact tg_iret hx hb hlocks hr rfl ⟨rfl, v, w1, f, h1, hf, rfl⟩ dL_owner_18
set_option maxRecDepth 100000 in
set_option maxHeartbeats 4000000 in
theorem l_owner1 (v0 v1 : Int32) (hO : hg_ok ok) {cs : List Value} (hw0 : w 0 0 = .inr (0, cs)) (hM : tg_MetT l yH_owner wsH_owner ({ frames := 7, cells := 1, slots := 6, locals := 140 }) D vwCl (hg_tys cI cF cZ cJ cA cB) F (hg_N F) ad ok w (.ref (ad 0 0) :: [.int v0, .int v1]) "java/lang/IllegalArgumentException") : tg_MetW l yL_owner wsL_owner ({ frames := 8, cells := 1, slots := 6, locals := 200 }) D vwCl (hg_tys cI cF cZ cJ cA cB) F (hg_N F) ad ok w [.ref (ad 0 0), .int v0, .int v1, .ref (ad 10 0)] (tg_po ad ok fun r1 w1 => r1 = some (.int (nI 1)) ∧ w1 = w) := by
  refine tg_startW (cc := cL_owner) (maxL := 5) (ret := some .int) (hh := [(0, 10, 13, 13)]) (by decide) rfl (Nat.le_of_ble_eq_true rfl) ?_
  intro p e R s m args below meth c Q hx hb hml hr hlocks hown hts hK hN htab hR hQ
  have hown : s.vm.findClass "HangGraphLaw" = some m.cls := hown
  have hts : ∀ w ∈ lw_g, w.before args s = true := fun w z => hts w (List.mem_cons_of_mem _ z)
  have hMv := hg_Mv F
  refine tg_aload_n hx hb dL_owner_0 rfl rfl ?_
  refine tg_iconst (v := nI 0) hx hb dL_owner_1 (by decide +kernel) ?_
  refine tg_aload_n hx hb dL_owner_2 rfl rfl ?_
  refine tg_iload_n hx hb dL_owner_3 rfl rfl ?_
  refine tg_iload_n hx hb dL_owner_4 rfl rfl ?_
  refine tg_catchT (own := "HangGraphLaw") (name := "java/lang/IllegalArgumentException") (tg_runVT (C := "HangGraph") (As := [.int v0, .int v1]) (rest := [.int (nI 0), .ref (ad 10 0)]) ⟨hx, hb, hml, hown, hts⟩ hK hN hMv (hO.1 0 (by decide)) hw0 rfl rfl hM (cwV 2 hts (lg_V wm_L_37 wi_H_owner we_H_owner wn_H wc_H_owner) rfl rfl rfl ⟨rfl, by decide, by decide, rfl⟩ ⟨by rw [hR]; exact Nat.le_of_ble_eq_true rfl, by rw [hR]; exact Nat.le_of_ble_eq_true rfl⟩) rfl (Nat.le_of_ble_eq_true rfl) ⟨by rw [hR]; exact Nat.le_of_ble_eq_true rfl, by rw [hR]; exact Nat.le_of_ble_eq_true rfl⟩ rfl dL_owner_5) hown [] ⟨0, 10, 13, 13⟩ [] (htab.trans rfl) ?_ (by decide) (by decide) (hts _ wk_L_13) (va_Nw.use rfl (hN.2.2.2.1 _ (by decide))) ?_
  · intro z hz; exact absurd hz List.not_mem_nil
  · intro q
    refine tg_astore (L' := [(0, .ref (ad 0 0)), (1, .int v0), (2, .int v1), (3, .ref (ad 10 0)), (4, .ref q)]) hx hb dL_owner_13 (by decide) rfl rfl ?_
    refine tg_iconst (v := nI 1) hx hb dL_owner_15 (by decide +kernel) ?_
    refine tg_retW hQ (Nat.le_of_ble_eq_true rfl) (Nat.le_of_ble_eq_true rfl) ?_
    exact tg_iret hx hb hlocks hr rfl ⟨rfl, rfl, rfl, rfl⟩ dL_owner_16
end LWM
