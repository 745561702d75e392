/-! throwing over worlds by names: the world is as it was, one new cell holds the exception -/
def tg_XC (D : va_G) (cl : List vw_C) (F : Nat → Prop) (ad : Nat → Nat → Nat) (ok : Nat → Nat → Prop) (w : Nat → Nat → va_E) (E : String) : String → State → State → Prop := fun E' st t => E' = E ∧ tg_Y D cl F ad ok w t.heap ∧ va_F F st t
def tg_no : Array Value → State → Outcome → State → Prop := fun _ _ _ _ => False
def tg_MetT (l : Launch) (y : MethodName) (ws : List Cond) (rm : Room) (D : va_G) (cl : List vw_C) (tys : List (ClassId × FieldType)) (F : Nat → Prop) (Nn : State → Heap → Prop) (ad : Nat → Nat → Nat) (ok : Nat → Nat → Prop) (w : Nat → Nat → va_E) (av : List Value) (E : String) : Prop :=
  vx_Met l y ws rm (va_Pc av (tg_B D cl tys F Nn ad ok w)) tg_no (tg_XC D cl F ad ok w E) rm.cells rm.slots F
theorem tg_Y.kept {D : va_G} {cl : List vw_C} {F : Nat → Prop} {ad : Nat → Nat → Nat} {ok : Nat → Nat → Prop} {w : Nat → Nat → va_E} {H H1 : Heap} (h : tg_Y D cl F ad ok w H) (hk : ∀ q : Nat, q < H.size → H1[q]? = H[q]?) : tg_Y D cl F ad ok w H1 :=
  ⟨fun k i ho => (h.1 k i ho).kept (hk _ (h.1 k i ho).lt), h.2⟩
section TGT
variable {p : Program} {l : Launch} {e : Env} {R : Room} {s : State} {m : MethodId} {args : Array Value} {below : List Frame} {meth : Method} {c : Code} {cells slots : Nat} {Q : State → Prop}
variable {cc bytes : ByteArray} {pc nL maxL index n : Nat} {st : List Value} {D : va_G} {cl : List vw_C} {tys : List (ClassId × FieldType)} {F : Nat → Prop} {Nn : State → Heap → Prop} {ad : Nat → Nat → Nat} {ok : Nat → Nat → Prop} {w : Nat → Nat → va_E} {L : List (Nat × Value)}
variable {y : MethodName} {ws ws' Ts : List Cond} {rm : Room} {ret : Option FieldType} {own C : String} {As rest : List Value} {E : String} {mc ms : Nat}
theorem tg_startT {av : List Value} (hy : plainName y.cls = true) (hw : ws = Cond.code y cc maxL ret :: ws') (hlen : (lg_sl av).length ≤ maxL)
    (body : ∀ (p : Program) (e : Env) (R : Room) (s : State) (m : MethodId) (args : Array Value) (below : List Frame) (meth : Method) (c : Code) (Q : State → Prop), p.tables.exec = Jvm.exec → c.code = cc → c.maxLocals = maxL → meth.sig.returnType = ret → meth.locks = false → s.vm.findClass y.cls = some m.cls → (∀ w ∈ ws, w.before args s = true) → va_K D cl tys s → Nn s s.heap → (∀ x ∈ c.exceptionTable.toList, False) → R = (headSpec ws rm).room → Q = vx_MQ below tg_no (tg_XC D cl F ad ok w E) args s rm.cells rm.slots F →
      tg_W p l e R s m args below meth c Q maxL D cl F ad ok w (lv_args 0 av) 0 0 0 []) : tg_MetT l y ws rm D cl tys F Nn ad ok w av E := by
  refine vx_ofW (cc := cc) (maxL := maxL) (ret := ret) hy hw ?_
  intro p e s m args below meth c s₁ B hml hnt hv
  obtain ⟨rfl, hY, hF, hK, hN⟩ := hv
  rw [lg_entry_eq]
  exact body p e _ s m _ below meth c _ B.exec B.bytes hml B.returns B.notSynchronized (findClass_of_methodNamed B.named) (atoms_spec (ws := ws) B.pre) hK hN hnt rfl rfl s.heap [] _ (tg_Z.start hY hF) (lv_entry av hlen)
/-- throw new E("text"), uncaught -/
theorem tg_throw (hx : p.tables.exec = Jvm.exec) (hb : c.code = cc) (hml : c.maxLocals = nL) (hl9 : l.stackTraces = false) {text : String} {ik is ic : Nat} (hown : s.vm.findClass "HangGraph" = some m.cls) (hts : ∀ w ∈ lw_g, w.before args s = true) (hN : hg_N F s s.heap) (hE : E ∈ hg_excs) (hcls : Bundle.fit E = true)
    (hk : Cond.classLink "HangGraph" ik E ∈ lw_g) (hini : Cond.initialized E ∈ lw_g) (hstr : (is, text) ∈ hg_strs)
    (h1 : ∀ w ∈ (vx_atS "HangGraph" ic E ["java/lang/RuntimeException", "java/lang/Exception"]).filter goodWord, w ∈ lw_g)
    (h2 : ∀ w ∈ (vx_atS "HangGraph" ic E ["java/lang/RuntimeException", "java/lang/Exception"]).filter (fun w => !goodWord w), w ∈ Cond.castable E E :: hg_decl.map Cond.declares)
    (hgood : ∀ w ∈ Cond.classLink "HangGraph" ik E :: Cond.initialized E :: vx_atS "HangGraph" ic E ["java/lang/RuntimeException", "java/lang/Exception"], vx_ot w = true)
    (hnt : ∀ x ∈ c.exceptionTable.toList, False) (hlocks : meth.locks = false) (hQ : Q = vx_MQ below tg_no (tg_XC D cl F ad ok w E) args s mc ms F)
    (d0 : decode cc pc = .ok (.new ik, 3)) (d3 : decode cc (pc + 3) = .ok (.dup, 1)) (d4 : decode cc (pc + 4) = .ok (.ldc is, 2)) (d6 : decode cc (pc + 6) = .ok (.invokespecial ic, 3)) (d9 : decode cc (pc + 9) = .ok (.athrow, 1))
    (hRframes : 5 < R.frames) (hRlocals : (st.map fun v => v.category).sum + 82 ≤ R.locals) (hRcells : cells + 1 ≤ R.cells) (hRslots : slots + 6 ≤ R.slots) (hc : cells + 1 ≤ mc) (hs : slots + 6 ≤ ms) :
    tg_W p l e R s m args below meth c Q nL D cl F ad ok w L cells slots pc st := by
  subst hQ
  intro H locs ls hZ h
  obtain ⟨sa, hsa⟩ := hN.2.2.1 _ hstr
  refine vx_throwS (own := "HangGraph") (cls := E) (names := ["java/lang/RuntimeException", "java/lang/Exception"]) (A := F) hx hb hl9 hown hcls (by decide +kernel) (hts _ hk) (hts _ hini) hsa (hg_at hts hN hE h1 h2) hgood hN.2.2.2.2.2.2.1 hN.2.2.2.2.2.2.2 hZ.2.2 (h.1.trans hml.symm) d0 d3 d4 d6 d9 (fun x hx => (hnt x hx).elim) hRframes hRlocals hRcells hRslots hlocks (fun t _ t2 t3 => ?_) hZ.2.2.2.2 hc hs
  exact ⟨rfl, hZ.1.kept t3, Nat.le_trans hZ.2.2.1 t2, fun q q1 q2 => (t3 q (Nat.lt_of_lt_of_le q1 hZ.2.2.1)).trans (hZ.2.2.2.1 q q1 q2)⟩
/-- a call that throws -/
def tg_RunT (p : Program) (l : Launch) (e : Env) (R : Room) (s : State) (m : MethodId) (args : Array Value) (below : List Frame) (meth : Method) (c : Code) (nL : Nat) (D : va_G) (cl : List vw_C) (F : Nat → Prop) (ad : Nat → Nat → Nat) (ok : Nat → Nat → Prop) (w : Nat → Nat → va_E) (L : List (Nat × Value)) (cells slots : Nat) (rm : Room) (pc : Nat) (st rest : List Value) (E : String) : Prop :=
  ∀ (H : Heap) (locs : List Loc) (ls : Array Slot), tg_Z D cl F ad ok w s.heap H locs → lv_has ls nL L → ∀ T : State, T.heap = H → Stand p l e R s m args below meth c T locs cells slots →
    ∃ (q : Addr) (T' : State) (locs1 : List Loc) (ce : Cell), Stand p l e R s m args below meth c T' locs1 (cells + rm.cells) (slots + rm.slots) ∧ tg_Z D cl F ad ok w s.heap T'.heap locs1 ∧ T'.heap[q]? = some ce ∧ ce.vm = .none ∧ s.vm.findClass E = some ce.cls ∧
      Steps p.tables e below (T.setTop (F0 m pc ls st)) ((T'.setTop (F0 m pc ls rest)).pushFrame (.throwing q))
theorem tg_runT (hr : ∀ (H : Heap) (locs : List Loc) (ls : Array Slot), tg_Z D cl F ad ok w s.heap H locs → lv_has ls nL L → ∃ a : Array Value, vx_Run p l e R s m args below meth c H locs cells slots rm.cells rm.slots (F0 m pc ls st) rest (tg_no a) (tg_XC D cl F ad ok w E) F) : tg_RunT p l e R s m args below meth c nL D cl F ad ok w L cells slots rm pc st rest E := by
  intro H locs ls hZ h T hT X
  obtain ⟨a, hv⟩ := hr H locs ls hZ h
  rcases hv T hT X with ⟨v, st₀, t, T', LL, h0, X', hL, e1, e2, hq, -⟩ | ⟨q, st₀, t, T', LL, E', ce, h0, X', hL, e1, e2, ⟨hE, hY, hz, hk⟩, hce, hcv, hcl, stp⟩
  · exact hq.elim
  · subst hE
    rw [h0] at hz hk
    obtain ⟨-, g3, g4⟩ := hZ
    exact ⟨q, T', locs ++ LL, ce, X', ⟨by rw [e1]; exact hY, g3, Nat.le_trans g4.1 (by rw [e1]; exact hz), fun q h1 h2 => by rw [e1, hk q (Nat.lt_of_lt_of_le h1 g4.1) h2]; exact g4.2.1 q h1 h2, fun q hq => by
      rcases List.mem_append.mp hq with h | h
      · exact g4.2.2 q h
      · exact hL q h⟩, by rw [e1]; exact hce, hcv, hcl, stp⟩
theorem tg_runST (S : CallFix p m c cc nL s args Ts own) (hK : va_K D cl tys s) (hN : Nn s s.heap) (hMv : tg_Mv F Nn) (hM : tg_MetT l y ws rm D cl tys F Nn ad ok w As E) (cw : CallB R s args own index y bytes maxL ret ws rm rm.cells rm.slots n ∧ (Cond.static y).before args s = true) (hn : As.length = n) (hW : (rest.map fun v => v.category).sum ≤ 8) (hf : cells + rm.cells ≤ R.cells ∧ slots + rm.slots ≤ R.slots) (hst : st = As.reverse ++ rest) (hdg : decode cc pc = .ok (.invokestatic index, 3)) : tg_RunT p l e R s m args below meth c nL D cl F ad ok w L cells slots rm pc st rest E := by
  subst hst
  exact tg_runT fun H locs ls hZ h => ⟨_, vx_runS S hM cw (tg_pre hMv hZ hK hN) rfl hn h.1 rfl (lv_room hW) hdg hf⟩
theorem tg_runVT (S : CallFix p m c cc nL s args Ts own) (hK : va_K D cl tys s) (hN : Nn s s.heap) (hMv : tg_Mv F Nn) {k i ci : Nat} (hk : ok k i) {fs : List Value} (he : w k i = .inr (ci, fs)) {q : vw_C} (hc : cl[ci]? = some q) (hC : q.1 = C) (hM : tg_MetT l y ws rm D cl tys F Nn ad ok w (.ref (ad k i) :: As) E) (cw : CallW R s args own C index y bytes maxL ret ws rm rm.cells rm.slots n) (hn : As.length = n) (hW : (rest.map fun v => v.category).sum ≤ 8) (hf : cells + rm.cells ≤ R.cells ∧ slots + rm.slots ≤ R.slots) (hst : st = As.reverse ++ .ref (ad k i) :: rest) (hdg : decode cc pc = .ok (.invokevirtual index, 3)) : tg_RunT p l e R s m args below meth c nL D cl F ad ok w L cells slots rm pc st rest E := by
  subst hC
  subst hst
  exact tg_runT fun H locs ls hZ h => ⟨_, vx_runV S hM cw (tg_preV hMv hZ hK hN hk he hc) rfl hn h.1 rfl (lv_room hW) hdg hf⟩
/-- .. and isn't caught here -/
theorem tg_passT (hr : tg_RunT p l e R s m args below meth c nL D cl F ad ok w L cells slots rm pc st rest E) (hnt : ∀ x ∈ c.exceptionTable.toList, False) (hlocks : meth.locks = false) (hQ : Q = vx_MQ below tg_no (tg_XC D cl F ad ok w E) args s mc ms F) (hc : cells + rm.cells ≤ mc) (hs : slots + rm.slots ≤ ms) : tg_W p l e R s m args below meth c Q nL D cl F ad ok w L cells slots pc st := by
  subst hQ
  intro H locs ls hZ h T hT X
  obtain ⟨q, T', locs1, ce, X', hZ', hce, hcv, hcl, stp⟩ := hr H locs ls hZ h T hT X
  obtain ⟨t2, a1, b1⟩ := vx_out (Qc := tg_no) (XC := tg_XC D cl F ad ok w E) (ls := ls) (rest := rest) (pc := pc) (free := F) (fun x hx => (hnt x hx).elim) hlocks hce hcv hcl (fun t ht _ => ⟨rfl, by rw [ht]; exact hZ'.1, hZ'.2.2.F ht⟩) hZ'.2.2.2.2 hc hs T' rfl X'
  exact ⟨t2, stp.trans a1, b1⟩
/-- .. or is caught by the row x of this method's table -/
theorem tg_catchT {own name : String} (hr : tg_RunT p l e R s m args below meth c nL D cl F ad ok w L cells slots rm pc st rest E) (hown : s.vm.findClass own = some m.cls) (pre : List ExceptionTableEntry) (x : ExceptionTableEntry) (suf : List ExceptionTableEntry) (hsplit : c.exceptionTable.toList = pre ++ x :: suf)
    (hpass : ∀ z ∈ pre, covers z pc = false ∨ (z.catchType ≠ 0 ∧ ∃ nm : String, (Cond.classLink own z.catchType nm).before args s = true ∧ va_Nc E nm s)) (hx : covers x pc = true) (h0 : x.catchType ≠ 0)
    (hlink : (Cond.classLink own x.catchType name).before args s = true) (hcast : (Cond.castable E name).before args s = true)
    (kk : ∀ q : Nat, tg_W p l e R s m args below meth c Q nL D cl F ad ok w L (cells + rm.cells) (slots + rm.slots) x.handlerPc [.ref q]) : tg_W p l e R s m args below meth c Q nL D cl F ad ok w L cells slots pc st := by
  intro H locs ls hZ h T hT X
  obtain ⟨q, T', locs1, ce, X', hZ', hce, hcv, hcl, stp⟩ := hr H locs ls hZ h T hT X
  obtain ⟨t2, a1, b1⟩ := vx_catch (ls := ls) (rest := rest) hown pre x suf hsplit hpass hx h0 hlink hcast hce hcv hcl (kk q T'.heap locs1 ls hZ' h) T' rfl X'
  exact ⟨t2, stp.trans a1, b1⟩
end TGT
