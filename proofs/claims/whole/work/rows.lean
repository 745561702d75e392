section
/-! a world by NAMES: what lies where is told by a kind and a number; ad says at which address. No two names are one cell. A contract is told for every world that holds what the method needs; the rest of it stays as it is, by the same letter w -/
def tg_up {α : Type} (f : Nat → Nat → α) (k i : Nat) (v : α) : Nat → Nat → α := fun a b => if a = k ∧ b = i then v else f a b
theorem tg_up_self {α : Type} (f : Nat → Nat → α) (k i : Nat) (v : α) : tg_up f k i v k i = v := if_pos ⟨rfl, rfl⟩
theorem tg_up_ne {α : Type} (f : Nat → Nat → α) {k i a b : Nat} (v : α) (h : ¬ (a = k ∧ b = i)) : tg_up f k i v a b = f a b := if_neg h
/-- the cells of a world lie in H, apart, and in F -/
def tg_Y (D : va_G) (cl : List vw_C) (F : Nat → Prop) (ad : Nat → Nat → Nat) (ok : Nat → Nat → Prop) (w : Nat → Nat → va_E) (H : Heap) : Prop :=
  (∀ k i, ok k i → va_at D cl (ad k i, w k i) H) ∧ (∀ k i k' i', ok k i → ok k' i' → ad k i = ad k' i' → k = k' ∧ i = i') ∧ ∀ k i, ok k i → F (ad k i)
def tg_Z (D : va_G) (cl : List vw_C) (F : Nat → Prop) (ad : Nat → Nat → Nat) (ok : Nat → Nat → Prop) (w : Nat → Nat → va_E) (H0 H : Heap) (locs : List Loc) : Prop :=
  tg_Y D cl F ad ok w H ∧ (∀ q, H0.size ≤ q → F q) ∧ va_S F H0 H locs
section TGZ
variable {D : va_G} {cl : List vw_C} {F : Nat → Prop} {ad : Nat → Nat → Nat} {ok : Nat → Nat → Prop} {w : Nat → Nat → va_E} {H0 H H1 : Heap} {locs : List Loc}
theorem tg_Z.at_ (h : tg_Z D cl F ad ok w H0 H locs) {k i : Nat} (hk : ok k i) {x : va_E} (hx : w k i = x) : va_at D cl (ad k i, x) H := hx ▸ h.1.1 k i hk
theorem tg_Z.one (h : tg_Z D cl F ad ok w H0 H locs) {k i : Nat} (hk : ok k i) {x : va_E} (hx : w k i = x) : va_P D cl [(ad k i, x)] H := by
  intro j q hj
  cases j with
  | zero =>
    cases hj
    exact h.at_ hk hx
  | succ j => cases hj
theorem tg_Z.put {k i j : Nat} {x1 : va_E} (hZ : tg_Z D cl F ad ok w H0 H locs) (hk : ok k i) (he : va_at D cl (ad k i, x1) H1) (hs : H1.size = H.size) (oq : ∀ q : Nat, q ≠ ad k i → H1[q]? = H[q]?) : tg_Z D cl F ad ok (tg_up w k i x1) H0 H1 (locs ++ [⟨ad k i, j⟩]) := by
  obtain ⟨⟨h1, h2, h3⟩, h4, h5⟩ := hZ
  refine ⟨⟨fun a b hab => ?_, h2, h3⟩, h4, h5.put hs oq (h3 k i hk)⟩
  by_cases q : a = k ∧ b = i
  · obtain ⟨rfl, rfl⟩ := q
    rw [tg_up_self]
    exact he
  · rw [tg_up_ne _ _ q]
    exact (h1 a b hab).kept (oq _ fun e => q (h2 a b k i hab hk e))
theorem tg_Z.new (k i : Nat) {x : va_E} (hZ : tg_Z D cl F ad ok w H0 H locs) (he : va_at D cl (H.size, x) H1) (hs : H1.size = H.size + 1) (oq : ∀ q : Nat, q < H.size → H1[q]? = H[q]?) : tg_Z D cl F (tg_up ad k i H.size) (fun a b => ok a b ∨ (a = k ∧ b = i)) (tg_up w k i x) H0 H1 locs := by
  obtain ⟨⟨h1, h2, h3⟩, h4, h5⟩ := hZ
  have old : ∀ a b, ¬ (a = k ∧ b = i) → (ok a b ∨ (a = k ∧ b = i)) → ok a b := fun a b q h => h.elim id fun z => absurd z q
  refine ⟨⟨fun a b hab => ?_, fun a b a' b' hab hab' he => ?_, fun a b hab => ?_⟩, h4, Nat.le_trans h5.1 (by omega), fun q g1 g2 => (oq q (Nat.lt_of_lt_of_le g1 h5.1)).trans (h5.2.1 q g1 g2), h5.2.2⟩
  · by_cases q : a = k ∧ b = i
    · obtain ⟨rfl, rfl⟩ := q
      rw [tg_up_self, tg_up_self]
      exact he
    · rw [tg_up_ne _ _ q, tg_up_ne _ _ q]
      exact (h1 a b (old a b q hab)).kept (oq _ (h1 a b (old a b q hab)).lt)
  · by_cases q : a = k ∧ b = i
    · by_cases q' : a' = k ∧ b' = i
      · exact ⟨q.1.trans q'.1.symm, q.2.trans q'.2.symm⟩
      · obtain ⟨rfl, rfl⟩ := q
        rw [tg_up_self, tg_up_ne _ _ q'] at he
        exact absurd he.symm (Nat.ne_of_lt (h1 a' b' (old a' b' q' hab')).lt)
    · by_cases q' : a' = k ∧ b' = i
      · obtain ⟨rfl, rfl⟩ := q'
        rw [tg_up_self, tg_up_ne _ _ q] at he
        exact absurd he (Nat.ne_of_lt (h1 a b (old a b q hab)).lt)
      · rw [tg_up_ne _ _ q, tg_up_ne _ _ q'] at he
        exact h2 a b a' b' (old a b q hab) (old a' b' q' hab') he
  · by_cases q : a = k ∧ b = i
    · obtain ⟨rfl, rfl⟩ := q
      rw [tg_up_self]
      exact h4 _ h5.1
    · rw [tg_up_ne _ _ q]
      exact h3 a b (old a b q hab)
/-- the same world in other words; fewer names -/
theorem tg_Z.to {ad' : Nat → Nat → Nat} {ok' : Nat → Nat → Prop} {w' : Nat → Nat → va_E} (hZ : tg_Z D cl F ad ok w H0 H locs) (ho : ∀ k i, ok' k i → ok k i) (ha : ∀ k i, ok' k i → ad k i = ad' k i) (hw : ∀ k i, ok' k i → w k i = w' k i) : tg_Z D cl F ad' ok' w' H0 H locs := by
  obtain ⟨⟨h1, h2, h3⟩, h4, h5⟩ := hZ
  refine ⟨⟨fun k i h => ?_, fun k i k' i' h h' e => ?_, fun k i h => ?_⟩, h4, h5⟩
  · rw [← ha k i h, ← hw k i h]
    exact h1 k i (ho k i h)
  · rw [← ha k i h, ← ha k' i' h'] at e
    exact h2 k i k' i' (ho k i h) (ho k' i' h') e
  · rw [← ha k i h]
    exact h3 k i (ho k i h)
theorem tg_Z.start {s : State} (hY : tg_Y D cl F ad ok w s.heap) (hF : ∀ q, s.heap.size ≤ q → F q) : tg_Z D cl F ad ok w s.heap s.heap [] := ⟨hY, hF, va_S.rf⟩
/-- seen from the place where a call begins -/
theorem tg_Z.here (hZ : tg_Z D cl F ad ok w H0 H locs) : tg_Z D cl F ad ok w H H [] := ⟨hZ.1, fun q h => hZ.2.1 q (Nat.le_trans hZ.2.2.1 h), va_S.rf⟩
end TGZ
/-! locals by number -/
def tg_lg : List (Nat × Value) → Nat → Option Value
  | [], _ => none
  | q :: r, i => cond (Nat.beq q.1 i) (some q.2) (tg_lg r i)
theorem tg_lg_mem : ∀ {L : List (Nat × Value)} {i : Nat} {v : Value}, tg_lg L i = some v → (i, v) ∈ L
  | [], i, v, h => by cases h
  | q :: r, i, v, h => by
    cases hb : Nat.beq q.1 i with
    | true =>
      have h' : cond (Nat.beq q.1 i) (some q.2) (tg_lg r i) = some v := h
      rw [hb] at h'
      cases h'
      rw [← Nat.eq_of_beq_eq_true hb]
      exact List.mem_cons_self
    | false =>
      have h' : cond (Nat.beq q.1 i) (some q.2) (tg_lg r i) = some v := h
      rw [hb] at h'
      exact List.mem_cons_of_mem _ (tg_lg_mem h')
def tg_ls (L : List (Nat × Value)) (i : Nat) (v : Value) : List (Nat × Value) := cond (L.any (fun q => Nat.beq q.1 i)) (L.map (fun q => cond (Nat.beq q.1 i) (i, v) q)) (L ++ [(i, v)])
def tg_c1 (L : List (Nat × Value)) : Bool := L.all (fun q => Nat.beq q.2.category 1)
theorem tg_ls_mem {L : List (Nat × Value)} {i : Nat} {v : Value} {q : Nat × Value} (h : q ∈ tg_ls L i v) : q = (i, v) ∨ (q ∈ L ∧ q.1 ≠ i) := by
  unfold tg_ls at h
  cases ha : L.any (fun q => Nat.beq q.1 i) with
  | true =>
    rw [ha] at h
    obtain ⟨z, hz, e⟩ := List.mem_map.mp h
    cases hb : Nat.beq z.1 i with
    | true =>
      rw [hb] at e
      exact Or.inl e.symm
    | false =>
      rw [hb] at e
      have e' : z = q := e
      subst e'
      exact Or.inr ⟨hz, fun e => by rw [e, Nat.beq_refl] at hb; cases hb⟩
  | false =>
    rw [ha] at h
    rcases List.mem_append.mp h with h | h
    · refine Or.inr ⟨h, fun e => ?_⟩
      have hn := List.any_eq_false.mp ha q h
      rw [e, Nat.beq_refl] at hn
      exact hn rfl
    · exact Or.inl (List.mem_singleton.mp h)
theorem tg_ls_has {ls : Array Slot} {nL i : Nat} {v : Value} {L : List (Nat × Value)} (hc : tg_c1 L = true) (h : lv_has ls nL ((i, v) :: L.filter (fun q => !(q.1 == i) && !(q.1 + 1 == i && q.2.category == 2)))) : lv_has ls nL (tg_ls L i v) := by
  refine ⟨h.1, h.2.1, fun q hq => h.2.2 q ?_⟩
  rcases tg_ls_mem hq with e | ⟨h1, h2⟩
  · rw [e]
    exact List.mem_cons_self
  · refine List.mem_cons_of_mem _ (List.mem_filter.mpr ⟨h1, ?_⟩)
    have hk := Nat.eq_of_beq_eq_true (List.all_eq_true.mp hc q h1)
    simp [h2, hk]
/-! the judgement: from every heap that holds the world w, and locals L, at pc with the stack st, the machine comes to Q -/
def tg_W (p : Program) (l : Launch) (e : Env) (R : Room) (s : State) (m : MethodId) (args : Array Value) (below : List Frame) (meth : Method) (c : Code) (Q : State → Prop) (nL : Nat) (D : va_G) (cl : List vw_C) (F : Nat → Prop) (ad : Nat → Nat → Nat) (ok : Nat → Nat → Prop) (w : Nat → Nat → va_E) (L : List (Nat × Value)) (cells slots pc : Nat) (st : List Value) : Prop :=
  ∀ (H : Heap) (locs : List Loc) (ls : Array Slot), tg_Z D cl F ad ok w s.heap H locs → lv_has ls nL L → W p l e R s m args below meth c H locs cells slots Q (F0 m pc ls st)
section TGW
variable {p : Program} {l : Launch} {e : Env} {R : Room} {s : State} {m : MethodId} {args : Array Value} {below : List Frame} {meth : Method} {c : Code} {cells slots : Nat} {Q : State → Prop}
variable {cc : ByteArray} {pc nL : Nat} {st : List Value} {D : va_G} {cl : List vw_C} {tys : List (ClassId × FieldType)} {F : Nat → Prop} {ad : Nat → Nat → Nat} {ok : Nat → Nat → Prop} {w : Nat → Nat → va_E} {L : List (Nat × Value)}
theorem tg_iconst (hx : p.tables.exec = Jvm.exec) (hb : c.code = cc) {n : Int} {v : Int32} (hdg : decode cc pc = .ok (.iconst n, 1)) (hv : Int32.ofInt n = v) (kk : tg_W p l e R s m args below meth c Q nL D cl F ad ok w L cells slots (pc + 1) (.int v :: st)) : tg_W p l e R s m args below meth c Q nL D cl F ad ok w L cells slots pc st := fun H locs ls hZ h => lv_iconst hx hb hdg hv (kk H locs ls hZ h)
theorem tg_bipush (hx : p.tables.exec = Jvm.exec) (hb : c.code = cc) {n : Int} {v : Int32} (hdg : decode cc pc = .ok (.bipush n, 2)) (hv : (Int8.ofInt n).toInt32 = v) (kk : tg_W p l e R s m args below meth c Q nL D cl F ad ok w L cells slots (pc + 2) (.int v :: st)) : tg_W p l e R s m args below meth c Q nL D cl F ad ok w L cells slots pc st := fun H locs ls hZ h => lv_bipush hx hb hdg hv (kk H locs ls hZ h)
theorem tg_sipush (hx : p.tables.exec = Jvm.exec) (hb : c.code = cc) {n : Int} {v : Int32} (hdg : decode cc pc = .ok (.sipush n, 3)) (hv : (Int16.ofInt n).toInt32 = v) (kk : tg_W p l e R s m args below meth c Q nL D cl F ad ok w L cells slots (pc + 3) (.int v :: st)) : tg_W p l e R s m args below meth c Q nL D cl F ad ok w L cells slots pc st := fun H locs ls hZ h => lv_sipush hx hb hdg hv (kk H locs ls hZ h)
theorem tg_iload_n (hx : p.tables.exec = Jvm.exec) (hb : c.code = cc) {k : Fin 4} {i : Nat} {x : Int32} (hdg : decode cc pc = .ok (.iload_n k, 1)) (hi : (k : Nat) = i) (hl : tg_lg L i = some (.int x)) (kk : tg_W p l e R s m args below meth c Q nL D cl F ad ok w L cells slots (pc + 1) (.int x :: st)) : tg_W p l e R s m args below meth c Q nL D cl F ad ok w L cells slots pc st := fun H locs ls hZ h => lv_iload_n hx hb hdg hi (h.2.2 _ (tg_lg_mem hl)) (kk H locs ls hZ h)
theorem tg_iload (hx : p.tables.exec = Jvm.exec) (hb : c.code = cc) {i : Nat} {x : Int32} (hdg : decode cc pc = .ok (.iload i, 2)) (hl : tg_lg L i = some (.int x)) (kk : tg_W p l e R s m args below meth c Q nL D cl F ad ok w L cells slots (pc + 2) (.int x :: st)) : tg_W p l e R s m args below meth c Q nL D cl F ad ok w L cells slots pc st := fun H locs ls hZ h => lv_iload hx hb hdg (h.2.2 _ (tg_lg_mem hl)) (kk H locs ls hZ h)
theorem tg_aload_n (hx : p.tables.exec = Jvm.exec) (hb : c.code = cc) {k : Fin 4} {i : Nat} {x : Nat} (hdg : decode cc pc = .ok (.aload_n k, 1)) (hi : (k : Nat) = i) (hl : tg_lg L i = some (.ref x)) (kk : tg_W p l e R s m args below meth c Q nL D cl F ad ok w L cells slots (pc + 1) (.ref x :: st)) : tg_W p l e R s m args below meth c Q nL D cl F ad ok w L cells slots pc st := fun H locs ls hZ h => lv_aload_n hx hb hdg hi (h.2.2 _ (tg_lg_mem hl)) (kk H locs ls hZ h)
theorem tg_aload (hx : p.tables.exec = Jvm.exec) (hb : c.code = cc) {i : Nat} {x : Nat} (hdg : decode cc pc = .ok (.aload i, 2)) (hl : tg_lg L i = some (.ref x)) (kk : tg_W p l e R s m args below meth c Q nL D cl F ad ok w L cells slots (pc + 2) (.ref x :: st)) : tg_W p l e R s m args below meth c Q nL D cl F ad ok w L cells slots pc st := fun H locs ls hZ h => lv_aload hx hb hdg (h.2.2 _ (tg_lg_mem hl)) (kk H locs ls hZ h)
theorem tg_aload_nN (hx : p.tables.exec = Jvm.exec) (hb : c.code = cc) {k : Fin 4} {i : Nat} (hdg : decode cc pc = .ok (.aload_n k, 1)) (hi : (k : Nat) = i) (hl : tg_lg L i = some .null) (kk : tg_W p l e R s m args below meth c Q nL D cl F ad ok w L cells slots (pc + 1) (.null :: st)) : tg_W p l e R s m args below meth c Q nL D cl F ad ok w L cells slots pc st := fun H locs ls hZ h => lv_aload_nN hx hb hdg hi (h.2.2 _ (tg_lg_mem hl)) (kk H locs ls hZ h)
theorem tg_aloadN (hx : p.tables.exec = Jvm.exec) (hb : c.code = cc) {i : Nat} (hdg : decode cc pc = .ok (.aload i, 2)) (hl : tg_lg L i = some .null) (kk : tg_W p l e R s m args below meth c Q nL D cl F ad ok w L cells slots (pc + 2) (.null :: st)) : tg_W p l e R s m args below meth c Q nL D cl F ad ok w L cells slots pc st := fun H locs ls hZ h => lv_aloadN hx hb hdg (h.2.2 _ (tg_lg_mem hl)) (kk H locs ls hZ h)
theorem tg_istore_n (hx : p.tables.exec = Jvm.exec) (hb : c.code = cc) {k : Fin 4} {i : Nat} {x : Int32} {L' : List (Nat × Value)} (hdg : decode cc pc = .ok (.istore_n k, 1)) (hi : (k : Nat) = i) (hn : i < nL) (hc : tg_c1 L = true) (hl : tg_ls L i (.int x) = L') (kk : tg_W p l e R s m args below meth c Q nL D cl F ad ok w L' cells slots (pc + 1) st) : tg_W p l e R s m args below meth c Q nL D cl F ad ok w L cells slots pc ((.int x) :: st) := fun H locs ls hZ h => lv_istore_n hx hb hdg hi h hn rfl fun ls' h' => kk H locs ls' hZ (hl ▸ tg_ls_has hc h')
theorem tg_istore (hx : p.tables.exec = Jvm.exec) (hb : c.code = cc) {i : Nat} {x : Int32} {L' : List (Nat × Value)} (hdg : decode cc pc = .ok (.istore i, 2)) (hn : i < nL) (hc : tg_c1 L = true) (hl : tg_ls L i (.int x) = L') (kk : tg_W p l e R s m args below meth c Q nL D cl F ad ok w L' cells slots (pc + 2) st) : tg_W p l e R s m args below meth c Q nL D cl F ad ok w L cells slots pc ((.int x) :: st) := fun H locs ls hZ h => lv_istore hx hb hdg h hn rfl fun ls' h' => kk H locs ls' hZ (hl ▸ tg_ls_has hc h')
theorem tg_astore_n (hx : p.tables.exec = Jvm.exec) (hb : c.code = cc) {k : Fin 4} {i : Nat} {x : Nat} {L' : List (Nat × Value)} (hdg : decode cc pc = .ok (.astore_n k, 1)) (hi : (k : Nat) = i) (hn : i < nL) (hc : tg_c1 L = true) (hl : tg_ls L i (.ref x) = L') (kk : tg_W p l e R s m args below meth c Q nL D cl F ad ok w L' cells slots (pc + 1) st) : tg_W p l e R s m args below meth c Q nL D cl F ad ok w L cells slots pc ((.ref x) :: st) := fun H locs ls hZ h => lv_astore_n hx hb hdg hi h hn rfl fun ls' h' => kk H locs ls' hZ (hl ▸ tg_ls_has hc h')
theorem tg_astore (hx : p.tables.exec = Jvm.exec) (hb : c.code = cc) {i : Nat} {x : Nat} {L' : List (Nat × Value)} (hdg : decode cc pc = .ok (.astore i, 2)) (hn : i < nL) (hc : tg_c1 L = true) (hl : tg_ls L i (.ref x) = L') (kk : tg_W p l e R s m args below meth c Q nL D cl F ad ok w L' cells slots (pc + 2) st) : tg_W p l e R s m args below meth c Q nL D cl F ad ok w L cells slots pc ((.ref x) :: st) := fun H locs ls hZ h => lv_astore hx hb hdg h hn rfl fun ls' h' => kk H locs ls' hZ (hl ▸ tg_ls_has hc h')
theorem tg_astore_nN (hx : p.tables.exec = Jvm.exec) (hb : c.code = cc) {k : Fin 4} {i : Nat} {L' : List (Nat × Value)} (hdg : decode cc pc = .ok (.astore_n k, 1)) (hi : (k : Nat) = i) (hn : i < nL) (hc : tg_c1 L = true) (hl : tg_ls L i .null = L') (kk : tg_W p l e R s m args below meth c Q nL D cl F ad ok w L' cells slots (pc + 1) st) : tg_W p l e R s m args below meth c Q nL D cl F ad ok w L cells slots pc (.null :: st) := fun H locs ls hZ h => lv_astore_nN hx hb hdg hi h hn rfl fun ls' h' => kk H locs ls' hZ (hl ▸ tg_ls_has hc h')
theorem tg_astoreN (hx : p.tables.exec = Jvm.exec) (hb : c.code = cc) {i : Nat} {L' : List (Nat × Value)} (hdg : decode cc pc = .ok (.astore i, 2)) (hn : i < nL) (hc : tg_c1 L = true) (hl : tg_ls L i .null = L') (kk : tg_W p l e R s m args below meth c Q nL D cl F ad ok w L' cells slots (pc + 2) st) : tg_W p l e R s m args below meth c Q nL D cl F ad ok w L cells slots pc (.null :: st) := fun H locs ls hZ h => lv_astoreN hx hb hdg h hn rfl fun ls' h' => kk H locs ls' hZ (hl ▸ tg_ls_has hc h')
theorem tg_mem_get : ∀ {L : List (Nat × Value)} {q : Nat × Value}, q ∈ L → ∃ j : Nat, L[j]? = some q := fun h => List.getElem?_of_mem h
theorem tg_iinc (hx : p.tables.exec = Jvm.exec) (hb : c.code = cc) {i : Nat} {n : Int} {x v : Int32} {L' : List (Nat × Value)} (hdg : decode cc pc = .ok (.iinc i n, 3)) (hg : tg_lg L i = some (.int x)) (hv : x + Int32.ofInt n = v) (hn : i < nL) (hc : tg_c1 L = true) (hl : tg_ls L i (.int v) = L') (kk : tg_W p l e R s m args below meth c Q nL D cl F ad ok w L' cells slots (pc + 3) st) : tg_W p l e R s m args below meth c Q nL D cl F ad ok w L cells slots pc st := by
  obtain ⟨j, hj⟩ := tg_mem_get (tg_lg_mem hg)
  exact fun H locs ls hZ h => lv_iinc hx hb hdg h hj hv hn rfl fun ls' h' => kk H locs ls' hZ (hl ▸ tg_ls_has hc h')
theorem tg_iadd (hx : p.tables.exec = Jvm.exec) (hb : c.code = cc) {x y : Int32} (hdg : decode cc pc = .ok (.iadd, 1)) (kk : tg_W p l e R s m args below meth c Q nL D cl F ad ok w L cells slots (pc + 1) (.int (x + y) :: st)) : tg_W p l e R s m args below meth c Q nL D cl F ad ok w L cells slots pc (.int y :: .int x :: st) := fun H locs ls hZ h => lv_iadd hx hb hdg (kk H locs ls hZ h)
theorem tg_isub (hx : p.tables.exec = Jvm.exec) (hb : c.code = cc) {x y : Int32} (hdg : decode cc pc = .ok (.isub, 1)) (kk : tg_W p l e R s m args below meth c Q nL D cl F ad ok w L cells slots (pc + 1) (.int (x - y) :: st)) : tg_W p l e R s m args below meth c Q nL D cl F ad ok w L cells slots pc (.int y :: .int x :: st) := fun H locs ls hZ h => lv_isub hx hb hdg (kk H locs ls hZ h)
theorem tg_imul (hx : p.tables.exec = Jvm.exec) (hb : c.code = cc) {x y : Int32} (hdg : decode cc pc = .ok (.imul, 1)) (kk : tg_W p l e R s m args below meth c Q nL D cl F ad ok w L cells slots (pc + 1) (.int (x * y) :: st)) : tg_W p l e R s m args below meth c Q nL D cl F ad ok w L cells slots pc (.int y :: .int x :: st) := fun H locs ls hZ h => lv_imul hx hb hdg (kk H locs ls hZ h)
theorem tg_iand (hx : p.tables.exec = Jvm.exec) (hb : c.code = cc) {x y : Int32} (hdg : decode cc pc = .ok (.iand, 1)) (kk : tg_W p l e R s m args below meth c Q nL D cl F ad ok w L cells slots (pc + 1) (.int (x &&& y) :: st)) : tg_W p l e R s m args below meth c Q nL D cl F ad ok w L cells slots pc (.int y :: .int x :: st) := fun H locs ls hZ h => lv_iand hx hb hdg (kk H locs ls hZ h)
theorem tg_ior (hx : p.tables.exec = Jvm.exec) (hb : c.code = cc) {x y : Int32} (hdg : decode cc pc = .ok (.ior, 1)) (kk : tg_W p l e R s m args below meth c Q nL D cl F ad ok w L cells slots (pc + 1) (.int (x ||| y) :: st)) : tg_W p l e R s m args below meth c Q nL D cl F ad ok w L cells slots pc (.int y :: .int x :: st) := fun H locs ls hZ h => lv_ior hx hb hdg (kk H locs ls hZ h)
theorem tg_ixor (hx : p.tables.exec = Jvm.exec) (hb : c.code = cc) {x y : Int32} (hdg : decode cc pc = .ok (.ixor, 1)) (kk : tg_W p l e R s m args below meth c Q nL D cl F ad ok w L cells slots (pc + 1) (.int (x ^^^ y) :: st)) : tg_W p l e R s m args below meth c Q nL D cl F ad ok w L cells slots pc (.int y :: .int x :: st) := fun H locs ls hZ h => lv_ixor hx hb hdg (kk H locs ls hZ h)
theorem tg_idiv (hx : p.tables.exec = Jvm.exec) (hb : c.code = cc) {x y : Int32} (hdg : decode cc pc = .ok (.idiv, 1)) (hne : ¬ y = 0) (kk : tg_W p l e R s m args below meth c Q nL D cl F ad ok w L cells slots (pc + 1) (.int (x / y) :: st)) : tg_W p l e R s m args below meth c Q nL D cl F ad ok w L cells slots pc (.int y :: .int x :: st) := fun H locs ls hZ h => lv_idiv hx hb hdg hne (kk H locs ls hZ h)
theorem tg_irem (hx : p.tables.exec = Jvm.exec) (hb : c.code = cc) {x y : Int32} (hdg : decode cc pc = .ok (.irem, 1)) (hne : ¬ y = 0) (kk : tg_W p l e R s m args below meth c Q nL D cl F ad ok w L cells slots (pc + 1) (.int (x - x / y * y) :: st)) : tg_W p l e R s m args below meth c Q nL D cl F ad ok w L cells slots pc (.int y :: .int x :: st) := fun H locs ls hZ h => lv_irem hx hb hdg hne (kk H locs ls hZ h)
theorem tg_ishl (hx : p.tables.exec = Jvm.exec) (hb : c.code = cc) {x y : Int32} (hdg : decode cc pc = .ok (.ishl, 1)) (kk : tg_W p l e R s m args below meth c Q nL D cl F ad ok w L cells slots (pc + 1) (.int (x <<< (y &&& 31)) :: st)) : tg_W p l e R s m args below meth c Q nL D cl F ad ok w L cells slots pc (.int y :: .int x :: st) := fun H locs ls hZ h => lv_ishl hx hb hdg (kk H locs ls hZ h)
theorem tg_i2l (hx : p.tables.exec = Jvm.exec) (hb : c.code = cc) {x : Int32} {v : Int64} (hdg : decode cc pc = .ok (.i2l, 1)) (hv : x.toInt64 = v) (kk : tg_W p l e R s m args below meth c Q nL D cl F ad ok w L cells slots (pc + 1) (.long v :: st)) : tg_W p l e R s m args below meth c Q nL D cl F ad ok w L cells slots pc (.int x :: st) := fun H locs ls hZ h => lv_i2l hx hb hdg hv (kk H locs ls hZ h)
theorem tg_dup (hx : p.tables.exec = Jvm.exec) (hb : c.code = cc) {v : Value} (hdg : decode cc pc = .ok (.dup, 1)) (hv : v.category = 1) (kk : tg_W p l e R s m args below meth c Q nL D cl F ad ok w L cells slots (pc + 1) (v :: v :: st)) : tg_W p l e R s m args below meth c Q nL D cl F ad ok w L cells slots pc (v :: st) := fun H locs ls hZ h => lv_dup hx hb hdg hv (kk H locs ls hZ h)
theorem tg_pop (hx : p.tables.exec = Jvm.exec) (hb : c.code = cc) {v : Value} (hdg : decode cc pc = .ok (.pop, 1)) (hv : v.category = 1) (kk : tg_W p l e R s m args below meth c Q nL D cl F ad ok w L cells slots (pc + 1) st) : tg_W p l e R s m args below meth c Q nL D cl F ad ok w L cells slots pc (v :: st) := fun H locs ls hZ h => lv_pop hx hb hdg hv (kk H locs ls hZ h)
theorem tg_dup_x1 (hx : p.tables.exec = Jvm.exec) (hb : c.code = cc) {v u : Value} (hdg : decode cc pc = .ok (.dup_x1, 1)) (hv : v.category = 1) (hu : u.category = 1) (kk : tg_W p l e R s m args below meth c Q nL D cl F ad ok w L cells slots (pc + 1) (v :: u :: v :: st)) : tg_W p l e R s m args below meth c Q nL D cl F ad ok w L cells slots pc (v :: u :: st) := fun H locs ls hZ h => lv_dup_x1 hx hb hdg hv hu (kk H locs ls hZ h)
theorem tg_dup2 (hx : p.tables.exec = Jvm.exec) (hb : c.code = cc) {v u : Value} (hdg : decode cc pc = .ok (.dup2, 1)) (hv : v.category = 1) (hu : u.category = 1) (kk : tg_W p l e R s m args below meth c Q nL D cl F ad ok w L cells slots (pc + 1) (v :: u :: v :: u :: st)) : tg_W p l e R s m args below meth c Q nL D cl F ad ok w L cells slots pc (v :: u :: st) := fun H locs ls hZ h => lv_dup2_11 hx hb hdg hv hu (kk H locs ls hZ h)
theorem tg_dup_x2 (hx : p.tables.exec = Jvm.exec) (hb : c.code = cc) {v u y : Value} (hdg : decode cc pc = .ok (.dup_x2, 1)) (hv : v.category = 1) (hu : u.category = 1) (hy : y.category = 1) (kk : tg_W p l e R s m args below meth c Q nL D cl F ad ok w L cells slots (pc + 1) (v :: u :: y :: v :: st)) : tg_W p l e R s m args below meth c Q nL D cl F ad ok w L cells slots pc (v :: u :: y :: st) := fun H locs ls hZ h => lv_dup_x2 hx hb hdg hv hu hy (kk H locs ls hZ h)
theorem tg_null (hx : p.tables.exec = Jvm.exec) (hb : c.code = cc)  (hdg : decode cc pc = .ok (.aconst_null, 1)) (kk : tg_W p l e R s m args below meth c Q nL D cl F ad ok w L cells slots (pc + 1) (.null :: st)) : tg_W p l e R s m args below meth c Q nL D cl F ad ok w L cells slots pc st := fun H locs ls hZ h => lv_null hx hb hdg (kk H locs ls hZ h)
theorem tg_if_eq (hx : p.tables.exec = Jvm.exec) (hb : c.code = cc) {x : Int32} {off : Int} {tgt : Nat} (hdg : decode cc pc = .ok (.ifCond .eq off, 3)) (ht : (pc : Int) + off = (tgt : Int)) (kt : x = 0 → tg_W p l e R s m args below meth c Q nL D cl F ad ok w L cells slots tgt st) (kf : ¬ x = 0 → tg_W p l e R s m args below meth c Q nL D cl F ad ok w L cells slots (pc + 3) st) : tg_W p l e R s m args below meth c Q nL D cl F ad ok w L cells slots pc (.int x :: st) := fun H locs ls hZ h => lv_if_eq hx hb hdg ht (fun q => kt q H locs ls hZ h) (fun q => kf q H locs ls hZ h)
theorem tg_icmp_eq (hx : p.tables.exec = Jvm.exec) (hb : c.code = cc) {x y : Int32} {off : Int} {tgt : Nat} (hdg : decode cc pc = .ok (.if_icmp .eq off, 3)) (ht : (pc : Int) + off = (tgt : Int)) (kt : x = y → tg_W p l e R s m args below meth c Q nL D cl F ad ok w L cells slots tgt st) (kf : ¬ x = y → tg_W p l e R s m args below meth c Q nL D cl F ad ok w L cells slots (pc + 3) st) : tg_W p l e R s m args below meth c Q nL D cl F ad ok w L cells slots pc (.int y :: .int x :: st) := fun H locs ls hZ h => lv_icmp_eq hx hb hdg ht (fun q => kt q H locs ls hZ h) (fun q => kf q H locs ls hZ h)
theorem tg_if_ne (hx : p.tables.exec = Jvm.exec) (hb : c.code = cc) {x : Int32} {off : Int} {tgt : Nat} (hdg : decode cc pc = .ok (.ifCond .ne off, 3)) (ht : (pc : Int) + off = (tgt : Int)) (kt : ¬ x = 0 → tg_W p l e R s m args below meth c Q nL D cl F ad ok w L cells slots tgt st) (kf : x = 0 → tg_W p l e R s m args below meth c Q nL D cl F ad ok w L cells slots (pc + 3) st) : tg_W p l e R s m args below meth c Q nL D cl F ad ok w L cells slots pc (.int x :: st) := fun H locs ls hZ h => lv_if_ne hx hb hdg ht (fun q => kt q H locs ls hZ h) (fun q => kf q H locs ls hZ h)
theorem tg_icmp_ne (hx : p.tables.exec = Jvm.exec) (hb : c.code = cc) {x y : Int32} {off : Int} {tgt : Nat} (hdg : decode cc pc = .ok (.if_icmp .ne off, 3)) (ht : (pc : Int) + off = (tgt : Int)) (kt : ¬ x = y → tg_W p l e R s m args below meth c Q nL D cl F ad ok w L cells slots tgt st) (kf : x = y → tg_W p l e R s m args below meth c Q nL D cl F ad ok w L cells slots (pc + 3) st) : tg_W p l e R s m args below meth c Q nL D cl F ad ok w L cells slots pc (.int y :: .int x :: st) := fun H locs ls hZ h => lv_icmp_ne hx hb hdg ht (fun q => kt q H locs ls hZ h) (fun q => kf q H locs ls hZ h)
theorem tg_if_lt (hx : p.tables.exec = Jvm.exec) (hb : c.code = cc) {x : Int32} {off : Int} {tgt : Nat} (hdg : decode cc pc = .ok (.ifCond .lt off, 3)) (ht : (pc : Int) + off = (tgt : Int)) (kt : x < 0 → tg_W p l e R s m args below meth c Q nL D cl F ad ok w L cells slots tgt st) (kf : ¬ x < 0 → tg_W p l e R s m args below meth c Q nL D cl F ad ok w L cells slots (pc + 3) st) : tg_W p l e R s m args below meth c Q nL D cl F ad ok w L cells slots pc (.int x :: st) := fun H locs ls hZ h => lv_if_lt hx hb hdg ht (fun q => kt q H locs ls hZ h) (fun q => kf q H locs ls hZ h)
theorem tg_icmp_lt (hx : p.tables.exec = Jvm.exec) (hb : c.code = cc) {x y : Int32} {off : Int} {tgt : Nat} (hdg : decode cc pc = .ok (.if_icmp .lt off, 3)) (ht : (pc : Int) + off = (tgt : Int)) (kt : x < y → tg_W p l e R s m args below meth c Q nL D cl F ad ok w L cells slots tgt st) (kf : ¬ x < y → tg_W p l e R s m args below meth c Q nL D cl F ad ok w L cells slots (pc + 3) st) : tg_W p l e R s m args below meth c Q nL D cl F ad ok w L cells slots pc (.int y :: .int x :: st) := fun H locs ls hZ h => lv_icmp_lt hx hb hdg ht (fun q => kt q H locs ls hZ h) (fun q => kf q H locs ls hZ h)
theorem tg_if_ge (hx : p.tables.exec = Jvm.exec) (hb : c.code = cc) {x : Int32} {off : Int} {tgt : Nat} (hdg : decode cc pc = .ok (.ifCond .ge off, 3)) (ht : (pc : Int) + off = (tgt : Int)) (kt : 0 ≤ x → tg_W p l e R s m args below meth c Q nL D cl F ad ok w L cells slots tgt st) (kf : ¬ 0 ≤ x → tg_W p l e R s m args below meth c Q nL D cl F ad ok w L cells slots (pc + 3) st) : tg_W p l e R s m args below meth c Q nL D cl F ad ok w L cells slots pc (.int x :: st) := fun H locs ls hZ h => lv_if_ge hx hb hdg ht (fun q => kt q H locs ls hZ h) (fun q => kf q H locs ls hZ h)
theorem tg_icmp_ge (hx : p.tables.exec = Jvm.exec) (hb : c.code = cc) {x y : Int32} {off : Int} {tgt : Nat} (hdg : decode cc pc = .ok (.if_icmp .ge off, 3)) (ht : (pc : Int) + off = (tgt : Int)) (kt : y ≤ x → tg_W p l e R s m args below meth c Q nL D cl F ad ok w L cells slots tgt st) (kf : ¬ y ≤ x → tg_W p l e R s m args below meth c Q nL D cl F ad ok w L cells slots (pc + 3) st) : tg_W p l e R s m args below meth c Q nL D cl F ad ok w L cells slots pc (.int y :: .int x :: st) := fun H locs ls hZ h => lv_icmp_ge hx hb hdg ht (fun q => kt q H locs ls hZ h) (fun q => kf q H locs ls hZ h)
theorem tg_if_gt (hx : p.tables.exec = Jvm.exec) (hb : c.code = cc) {x : Int32} {off : Int} {tgt : Nat} (hdg : decode cc pc = .ok (.ifCond .gt off, 3)) (ht : (pc : Int) + off = (tgt : Int)) (kt : 0 < x → tg_W p l e R s m args below meth c Q nL D cl F ad ok w L cells slots tgt st) (kf : ¬ 0 < x → tg_W p l e R s m args below meth c Q nL D cl F ad ok w L cells slots (pc + 3) st) : tg_W p l e R s m args below meth c Q nL D cl F ad ok w L cells slots pc (.int x :: st) := fun H locs ls hZ h => lv_if_gt hx hb hdg ht (fun q => kt q H locs ls hZ h) (fun q => kf q H locs ls hZ h)
theorem tg_icmp_gt (hx : p.tables.exec = Jvm.exec) (hb : c.code = cc) {x y : Int32} {off : Int} {tgt : Nat} (hdg : decode cc pc = .ok (.if_icmp .gt off, 3)) (ht : (pc : Int) + off = (tgt : Int)) (kt : y < x → tg_W p l e R s m args below meth c Q nL D cl F ad ok w L cells slots tgt st) (kf : ¬ y < x → tg_W p l e R s m args below meth c Q nL D cl F ad ok w L cells slots (pc + 3) st) : tg_W p l e R s m args below meth c Q nL D cl F ad ok w L cells slots pc (.int y :: .int x :: st) := fun H locs ls hZ h => lv_icmp_gt hx hb hdg ht (fun q => kt q H locs ls hZ h) (fun q => kf q H locs ls hZ h)
theorem tg_if_le (hx : p.tables.exec = Jvm.exec) (hb : c.code = cc) {x : Int32} {off : Int} {tgt : Nat} (hdg : decode cc pc = .ok (.ifCond .le off, 3)) (ht : (pc : Int) + off = (tgt : Int)) (kt : x ≤ 0 → tg_W p l e R s m args below meth c Q nL D cl F ad ok w L cells slots tgt st) (kf : ¬ x ≤ 0 → tg_W p l e R s m args below meth c Q nL D cl F ad ok w L cells slots (pc + 3) st) : tg_W p l e R s m args below meth c Q nL D cl F ad ok w L cells slots pc (.int x :: st) := fun H locs ls hZ h => lv_if_le hx hb hdg ht (fun q => kt q H locs ls hZ h) (fun q => kf q H locs ls hZ h)
theorem tg_icmp_le (hx : p.tables.exec = Jvm.exec) (hb : c.code = cc) {x y : Int32} {off : Int} {tgt : Nat} (hdg : decode cc pc = .ok (.if_icmp .le off, 3)) (ht : (pc : Int) + off = (tgt : Int)) (kt : x ≤ y → tg_W p l e R s m args below meth c Q nL D cl F ad ok w L cells slots tgt st) (kf : ¬ x ≤ y → tg_W p l e R s m args below meth c Q nL D cl F ad ok w L cells slots (pc + 3) st) : tg_W p l e R s m args below meth c Q nL D cl F ad ok w L cells slots pc (.int y :: .int x :: st) := fun H locs ls hZ h => lv_icmp_le hx hb hdg ht (fun q => kt q H locs ls hZ h) (fun q => kf q H locs ls hZ h)
theorem tg_acmp_eq (hx : p.tables.exec = Jvm.exec) (hb : c.code = cc) {rx ry : Option Nat} {off : Int} {tgt : Nat} (hdg : decode cc pc = .ok (.if_acmp .eq off, 3)) (ht : (pc : Int) + off = (tgt : Int)) (kt : rx = ry → tg_W p l e R s m args below meth c Q nL D cl F ad ok w L cells slots tgt st) (kf : ¬ rx = ry → tg_W p l e R s m args below meth c Q nL D cl F ad ok w L cells slots (pc + 3) st) : tg_W p l e R s m args below meth c Q nL D cl F ad ok w L cells slots pc (va_rf ry :: va_rf rx :: st) := fun H locs ls hZ h => lv_acmp_eq hx hb hdg ht (fun q => kt q H locs ls hZ h) (fun q => kf q H locs ls hZ h)
theorem tg_acmp_ne (hx : p.tables.exec = Jvm.exec) (hb : c.code = cc) {rx ry : Option Nat} {off : Int} {tgt : Nat} (hdg : decode cc pc = .ok (.if_acmp .ne off, 3)) (ht : (pc : Int) + off = (tgt : Int)) (kt : ¬ rx = ry → tg_W p l e R s m args below meth c Q nL D cl F ad ok w L cells slots tgt st) (kf : rx = ry → tg_W p l e R s m args below meth c Q nL D cl F ad ok w L cells slots (pc + 3) st) : tg_W p l e R s m args below meth c Q nL D cl F ad ok w L cells slots pc (va_rf ry :: va_rf rx :: st) := fun H locs ls hZ h => lv_acmp_ne hx hb hdg ht (fun q => kt q H locs ls hZ h) (fun q => kf q H locs ls hZ h)
theorem tg_goto (hx : p.tables.exec = Jvm.exec) (hb : c.code = cc) {off : Int} {tgt : Nat} (hdg : decode cc pc = .ok (.goto off, 3)) (ht : (pc : Int) + off = (tgt : Int)) (kk : tg_W p l e R s m args below meth c Q nL D cl F ad ok w L cells slots tgt st) : tg_W p l e R s m args below meth c Q nL D cl F ad ok w L cells slots pc st := fun H locs ls hZ h => lv_goto hx hb hdg ht (kk H locs ls hZ h)
theorem tg_ifnull (hx : p.tables.exec = Jvm.exec) (hb : c.code = cc) {x : Nat} {off : Int} (hdg : decode cc pc = .ok (.ifnull off, 3)) (kk : tg_W p l e R s m args below meth c Q nL D cl F ad ok w L cells slots (pc + 3) st) : tg_W p l e R s m args below meth c Q nL D cl F ad ok w L cells slots pc (.ref x :: st) := fun H locs ls hZ h => lv_ifnull hx hb hdg (kk H locs ls hZ h)
theorem tg_ifnullN (hx : p.tables.exec = Jvm.exec) (hb : c.code = cc) {off : Int} {tgt : Nat} (hdg : decode cc pc = .ok (.ifnull off, 3)) (ht : (pc : Int) + off = (tgt : Int)) (kk : tg_W p l e R s m args below meth c Q nL D cl F ad ok w L cells slots tgt st) : tg_W p l e R s m args below meth c Q nL D cl F ad ok w L cells slots pc (.null :: st) := fun H locs ls hZ h => lv_ifnullN hx hb hdg ht (kk H locs ls hZ h)
theorem tg_ifnonnull (hx : p.tables.exec = Jvm.exec) (hb : c.code = cc) {x : Nat} {off : Int} {tgt : Nat} (hdg : decode cc pc = .ok (.ifnonnull off, 3)) (ht : (pc : Int) + off = (tgt : Int)) (kk : tg_W p l e R s m args below meth c Q nL D cl F ad ok w L cells slots tgt st) : tg_W p l e R s m args below meth c Q nL D cl F ad ok w L cells slots pc (.ref x :: st) := fun H locs ls hZ h => lv_ifnonnull hx hb hdg ht (kk H locs ls hZ h)
theorem tg_ifnonnullN (hx : p.tables.exec = Jvm.exec) (hb : c.code = cc) {off : Int} (hdg : decode cc pc = .ok (.ifnonnull off, 3)) (kk : tg_W p l e R s m args below meth c Q nL D cl F ad ok w L cells slots (pc + 3) st) : tg_W p l e R s m args below meth c Q nL D cl F ad ok w L cells slots pc (.null :: st) := fun H locs ls hZ h => lv_ifnonnullN hx hb hdg (kk H locs ls hZ h)
theorem tg_lcmp (hx : p.tables.exec = Jvm.exec) (hb : c.code = cc) {x y : Int64} (hdg : decode cc pc = .ok (.lcmp, 1)) (kk : tg_W p l e R s m args below meth c Q nL D cl F ad ok w L cells slots (pc + 1) (.int (lg_cmp x y) :: st)) : tg_W p l e R s m args below meth c Q nL D cl F ad ok w L cells slots pc (.long y :: .long x :: st) := fun H locs ls hZ h => W.lcmp hx hb hdg (kk H locs ls hZ h)
theorem tg_top {x y : Int32} (he : x = y) (kk : tg_W p l e R s m args below meth c Q nL D cl F ad ok w L cells slots pc (.int y :: st)) : tg_W p l e R s m args below meth c Q nL D cl F ad ok w L cells slots pc (.int x :: st) := he ▸ kk
theorem tg_st {st' : List Value} (he : st = st') (kk : tg_W p l e R s m args below meth c Q nL D cl F ad ok w L cells slots pc st') : tg_W p l e R s m args below meth c Q nL D cl F ad ok w L cells slots pc st := he ▸ kk
theorem tg_sub {L' : List (Nat × Value)} (hl : ∀ q ∈ L', q ∈ L) (kk : tg_W p l e R s m args below meth c Q nL D cl F ad ok w L' cells slots pc st) : tg_W p l e R s m args below meth c Q nL D cl F ad ok w L cells slots pc st := fun H locs ls hZ h => kk H locs ls hZ ⟨h.1, h.2.1, fun q hq => h.2.2 q (hl q hq)⟩
theorem tg_w {w' : Nat → Nat → va_E} (he : w = w') (kk : tg_W p l e R s m args below meth c Q nL D cl F ad ok w' L cells slots pc st) : tg_W p l e R s m args below meth c Q nL D cl F ad ok w L cells slots pc st := he ▸ kk
theorem tg_to {ad' : Nat → Nat → Nat} {ok' : Nat → Nat → Prop} {w' : Nat → Nat → va_E} (ho : ∀ k i, ok' k i → ok k i) (ha : ∀ k i, ok' k i → ad k i = ad' k i) (hw : ∀ k i, ok' k i → w k i = w' k i) (kk : tg_W p l e R s m args below meth c Q nL D cl F ad' ok' w' L cells slots pc st) : tg_W p l e R s m args below meth c Q nL D cl F ad ok w L cells slots pc st := fun H locs ls hZ h => kk H locs ls (hZ.to ho ha hw) h
theorem tg_wp {w' : Nat → Nat → va_E} (hw : ∀ k i, ok k i → w k i = w' k i) (kk : tg_W p l e R s m args below meth c Q nL D cl F ad ok w' L cells slots pc st) : tg_W p l e R s m args below meth c Q nL D cl F ad ok w L cells slots pc st := fun H locs ls hZ h => kk H locs ls (hZ.to (fun _ _ z => z) (fun _ _ _ => rfl) hw) h
theorem tg_inj (kk : (∀ k i k' i', ok k i → ok k' i' → ad k i = ad k' i' → k = k' ∧ i = i') → tg_W p l e R s m args below meth c Q nL D cl F ad ok w L cells slots pc st) : tg_W p l e R s m args below meth c Q nL D cl F ad ok w L cells slots pc st := fun H locs ls hZ h => kk hZ.1.2.1 H locs ls hZ h
theorem tg_widen {k n : Nat} (h1 : cells ≤ k) (h2 : slots ≤ n) (kk : tg_W p l e R s m args below meth c Q nL D cl F ad ok w L k n pc st) : tg_W p l e R s m args below meth c Q nL D cl F ad ok w L cells slots pc st := fun H locs ls hZ h => W.widen h1 h2 (kk H locs ls hZ h)
theorem tg_get (hx : p.tables.exec = Jvm.exec) (hb : c.code = cc) {own ref C : String} {T : u_T} {N ci index k i : Nat} {Ts : List Cond} (hts : ∀ w ∈ Ts, w.before args s = true) (hin : ∀ w ∈ u_ws C T N, w ∈ Ts) (hown : s.vm.findClass own = some m.cls) (hK : va_K D cl tys s) (hk : ok k i) {fs : List Value} (he : w k i = .inr (ci, fs)) (hc : cl[ci]? = some (C, T, N)) (j : Nat) (hj : j < N) (hlink : (Cond.fieldLink own index ref (T j).2.1 (T j).2.2.1).before args s = true) (hsame : ∀ x, s.fieldFound? (T j).1 (T j).2.1 (T j).2.2.1 = some x → s.fieldFound? ref (T j).2.1 (T j).2.2.1 = some x) {v : Value} (hv : fs[j]? = some v) (hdg : decode cc pc = .ok (.getfield index, 3)) (kk : tg_W p l e R s m args below meth c Q nL D cl F ad ok w L cells slots (pc + 3) (v :: st)) : tg_W p l e R s m args below meth c Q nL D cl F ad ok w L cells slots pc (.ref (ad k i) :: st) :=
  fun H locs ls hZ h => va_get hx hb hts hin hown hK (hZ.one hk he) 0 rfl hc j hj hlink hsame hv hdg (kk H locs ls hZ h)
theorem tg_put (hx : p.tables.exec = Jvm.exec) (hb : c.code = cc) {own ref C : String} {T : u_T} {N ci index k i : Nat} {Ts : List Cond} (hts : ∀ w ∈ Ts, w.before args s = true) (hin : ∀ w ∈ u_ws C T N, w ∈ Ts) (ty0 : Nat → FieldType) (hty : ∀ k, k < N → parseFieldDescriptor (T k).2.2.1 = some (ty0 k)) (hnm : ∀ a, a < N → ∀ b, b < N → a ≠ b → (T a).2.1 ≠ (T b).2.1) (hown : s.vm.findClass own = some m.cls) (hK : va_K D cl tys s) (hk : ok k i) {fs : List Value} (he : w k i = .inr (ci, fs)) (hc : cl[ci]? = some (C, T, N)) (j : Nat) (hj : j < N) (hlink : (Cond.fieldLink own index ref (T j).2.1 (T j).2.2.1).before args s = true) (hsame : ∀ x, s.fieldFound? (T j).1 (T j).2.1 (T j).2.2.1 = some x → s.fieldFound? ref (T j).2.1 (T j).2.2.1 = some x) (hfin : (T j).2.2.2 = false) {ty : FieldType} {v : Value} (hd : parseFieldDescriptor (T j).2.2.1 = some ty) (hn : narrow ty v = v) (hfit : fits ty v = true) (hl : j < fs.length) (hdg : decode cc pc = .ok (.putfield index, 3)) (kk : tg_W p l e R s m args below meth c Q nL D cl F ad ok (tg_up w k i (.inr (ci, fs.set j v))) L cells slots (pc + 3) st) : tg_W p l e R s m args below meth c Q nL D cl F ad ok w L cells slots pc (v :: .ref (ad k i) :: st) := by
  intro H locs ls hZ h
  have hap := va_apart (own := own) hts hin ty0 hty hnm hK hc
  obtain ⟨r, h1, cell, q1, q2, q3, q4⟩ := hZ.at_ hk he
  have hr : r = (C, T, N) := Option.some.inj (h1.symm.trans hc)
  subst hr
  obtain ⟨hS, hfc, kC, hkC, hkind⟩ := hK.1 ci _ hc
  obtain ⟨cf, kf, fi, f, hi, hsl⟩ := hS j hj
  have hlay := hts _ (hin _ (u_in_lay hj))
  unfold u_lay at hlay
  rw [if_neg (by rw [hfin]; decide)] at hlay
  have hst := (u_facts hfc hkC (u_lays hts hin hj) hi).1
  have h6 := u_store hfc hkC hkind hlay hi hd hn hfit
  refine W.putK hx hb (f := f) ⟨hown, hlink, ⟨_, _, _, hsame _ hi⟩, hst⟩ (by rw [q2]; exact h6) q1 q3 (by rw [hsl]; exact k2_hasslot (q4 j hj)) rfl rfl hdg fun H' e1 e2 e3 => ?_
  rw [hsl] at e1 ⊢
  exact kk H' _ ls (hZ.put hk ⟨_, hc, t_OB.to (V := updV (vp_V fs) j v) ⟨_, e1, q2, q3, t_set q4 hap hj v⟩ (fun a _ => vp_updV_set hl v a)⟩ e2 e3) h
theorem tg_putF (hx : p.tables.exec = Jvm.exec) (hb : c.code = cc) {own ref C : String} {T : u_T} {N ci index k i : Nat} {Ts : List Cond} (hts : ∀ w ∈ Ts, w.before args s = true) (hin : ∀ w ∈ u_ws C T N, w ∈ Ts) (ty0 : Nat → FieldType) (hty : ∀ k, k < N → parseFieldDescriptor (T k).2.2.1 = some (ty0 k)) (hnm : ∀ a, a < N → ∀ b, b < N → a ≠ b → (T a).2.1 ≠ (T b).2.1) (hown : s.vm.findClass own = some m.cls) (hK : va_K D cl tys s) (hk : ok k i) {fs : List Value} (he : w k i = .inr (ci, fs)) (hc : cl[ci]? = some (C, T, N)) (j : Nat) (hj : j < N) (hlink : (Cond.fieldLink own index ref (T j).2.1 (T j).2.2.1).before args s = true) (hsame : ∀ x, s.fieldFound? (T j).1 (T j).2.1 (T j).2.2.1 = some x → s.fieldFound? ref (T j).2.1 (T j).2.2.1 = some x) (hfin : (T j).2.2.2 = true) (hin2 : meth.name = "<init>") (hdecl : (T j).1 = own) {ty : FieldType} {v : Value} (hd : parseFieldDescriptor (T j).2.2.1 = some ty) (hn : narrow ty v = v) (hfit : fits ty v = true) (hl : j < fs.length) (hdg : decode cc pc = .ok (.putfield index, 3)) (kk : tg_W p l e R s m args below meth c Q nL D cl F ad ok (tg_up w k i (.inr (ci, fs.set j v))) L cells slots (pc + 3) st) : tg_W p l e R s m args below meth c Q nL D cl F ad ok w L cells slots pc (v :: .ref (ad k i) :: st) := by
  intro H locs ls hZ h
  have hap := va_apart (own := own) hts hin ty0 hty hnm hK hc
  obtain ⟨r, h1, cell, q1, q2, q3, q4⟩ := hZ.at_ hk he
  have hr : r = (C, T, N) := Option.some.inj (h1.symm.trans hc)
  subst hr
  obtain ⟨hS, hfc, kC, hkC, hkind⟩ := hK.1 ci _ hc
  obtain ⟨cf, kf, fi, f, hi, hsl⟩ := hS j hj
  have hlay := hts _ (hin _ (u_in_lay hj))
  unfold u_lay at hlay
  rw [if_pos hfin] at hlay
  have hst := (u_facts hfc hkC (u_lays hts hin hj) hi).1
  have hcf : m.cls = cf := by
    obtain ⟨_, _, c', _, _, _, -, -, hf', -, -, -, hown2, -⟩ := Cond.laysFinal_spec hlay
    have e1 : c' = cf := by have := hi.symm.trans hf'; simp at this; exact this.1.symm
    rw [hdecl] at hown2
    rw [← e1]
    exact Option.some.inj (hown.symm.trans hown2)
  have h6 := u_fits hfc hkC hkind (Or.inr hlay) hi hd hn hfit
  refine W.putFinK hx hb hown hlink (hsame _ hi) hst hcf hin2 (by rw [q2]; exact h6) q1 q3 (by rw [hsl]; exact k2_hasslot (q4 j hj)) rfl rfl hdg fun H' e1 e2 e3 => ?_
  rw [hsl] at e1 ⊢
  exact kk H' _ ls (hZ.put hk ⟨_, hc, t_OB.to (V := updV (vp_V fs) j v) ⟨_, e1, q2, q3, t_set q4 hap hj v⟩ (fun a _ => vp_updV_set hl v a)⟩ e2 e3) h
theorem tg_iald (hx : p.tables.exec = Jvm.exec) (hb : c.code = cc) {k i t0 : Nat} (hK : va_K D cl tys s) (hk : ok k i) {cA : ClassId} {n : Nat} {f : Nat → Int32} (ha : w k i = .inl (cA, n, .inl f)) (ht : tys[t0]? = some (cA, .int)) {x : Nat} (hn : n < 2 ^ 31) (hin : x < n) (hdg : decode cc pc = .ok (.iaload, 1)) (kk : tg_W p l e R s m args below meth c Q nL D cl F ad ok w L cells slots (pc + 1) (.int (f x) :: st)) : tg_W p l e R s m args below meth c Q nL D cl F ad ok w L cells slots pc (.int (nI x) :: .ref (ad k i) :: st) := by
  intro H locs ls hZ h
  refine va_iald hx hb hK (hZ.one hk ha) 0 t0 rfl ht (vp_in_nI hin hn) hdg ?_
  rw [nI_clamp (Nat.lt_trans hin hn)]
  exact kk H locs ls hZ h
theorem tg_zald (hx : p.tables.exec = Jvm.exec) (hb : c.code = cc) {k i t0 : Nat} (hK : va_K D cl tys s) (hk : ok k i) {cA : ClassId} {n : Nat} {f : Nat → Int32} (ha : w k i = .inl (cA, n, .inl f)) (ht : tys[t0]? = some (cA, .boolean)) {x : Nat} (hn : n < 2 ^ 31) (hin : x < n) (hdg : decode cc pc = .ok (.baload, 1)) (kk : tg_W p l e R s m args below meth c Q nL D cl F ad ok w L cells slots (pc + 1) (.int (f x) :: st)) : tg_W p l e R s m args below meth c Q nL D cl F ad ok w L cells slots pc (.int (nI x) :: .ref (ad k i) :: st) := by
  intro H locs ls hZ h
  refine va_zald hx hb hK (hZ.one hk ha) 0 t0 rfl ht (vp_in_nI hin hn) hdg ?_
  rw [nI_clamp (Nat.lt_trans hin hn)]
  exact kk H locs ls hZ h
theorem tg_lald (hx : p.tables.exec = Jvm.exec) (hb : c.code = cc) {k i t0 : Nat} (hK : va_K D cl tys s) (hk : ok k i) {cA : ClassId} {n : Nat} {f : Nat → Int64} (ha : w k i = .inl (cA, n, .inr (.inl f))) (ht : tys[t0]? = some (cA, .long)) {x : Nat} (hn : n < 2 ^ 31) (hin : x < n) (hdg : decode cc pc = .ok (.laload, 1)) (kk : tg_W p l e R s m args below meth c Q nL D cl F ad ok w L cells slots (pc + 1) (.long (f x) :: st)) : tg_W p l e R s m args below meth c Q nL D cl F ad ok w L cells slots pc (.int (nI x) :: .ref (ad k i) :: st) := by
  intro H locs ls hZ h
  refine va_lald hx hb hK (hZ.one hk ha) 0 t0 rfl ht (vp_in_nI hin hn) hdg ?_
  rw [nI_clamp (Nat.lt_trans hin hn)]
  exact kk H locs ls hZ h
theorem tg_aald (hx : p.tables.exec = Jvm.exec) (hb : c.code = cc) {k i t0 : Nat} (hK : va_K D cl tys s) (hk : ok k i) {cA : ClassId} {n : Nat} {C : String} {f : Nat → Option Nat} (ha : w k i = .inl (cA, n, .inr (.inr (.inr (.inr f))))) (ht : tys[t0]? = some (cA, .object C)) {x : Nat} (hn : n < 2 ^ 31) (hin : x < n) (hdg : decode cc pc = .ok (.aaload, 1)) (kk : tg_W p l e R s m args below meth c Q nL D cl F ad ok w L cells slots (pc + 1) (va_rf (f x) :: st)) : tg_W p l e R s m args below meth c Q nL D cl F ad ok w L cells slots pc (.int (nI x) :: .ref (ad k i) :: st) := by
  intro H locs ls hZ h
  refine va_aldq hx hb hK (hZ.one hk ha) 0 t0 rfl ht (vp_in_nI hin hn) hdg ?_
  rw [nI_clamp (Nat.lt_trans hin hn)]
  exact kk H locs ls hZ h
theorem tg_aaldA (hx : p.tables.exec = Jvm.exec) (hb : c.code = cc) {k i t0 : Nat} (hK : va_K D cl tys s) (hk : ok k i) {cA : ClassId} {n : Nat} {f : Nat → Option Nat} {ty : FieldType} (ha : w k i = .inl (cA, n, .inr (.inr (.inr (.inr f))))) (ht : tys[t0]? = some (cA, ty)) (hty : ty.isReference = true) {x : Nat} (hn : n < 2 ^ 31) (hin : x < n) (hdg : decode cc pc = .ok (.aaload, 1)) (kk : tg_W p l e R s m args below meth c Q nL D cl F ad ok w L cells slots (pc + 1) (va_rf (f x) :: st)) : tg_W p l e R s m args below meth c Q nL D cl F ad ok w L cells slots pc (.int (nI x) :: .ref (ad k i) :: st) := by
  intro H locs ls hZ h
  have hcl := nI_clamp (Nat.lt_trans hin hn)
  refine W.aald (v := va_rf (f x)) (ty := ty) hx hb (hZ.at_ hk ha) ((hK.2 t0 _ ht).1 n (fun j => va_rf (f j))) hty (fun q => by cases q) (by show ¬ (nI x < 0 ∨ (arrV _ _ _).slots.size ≤ _); rw [arrV_size]; exact vp_in_nI hin hn) (by show (arrV _ _ _).slots[_]? = _; rw [hcl, arrV_read _ _ hin]) rfl rfl hdg (kk H locs ls hZ h)
theorem tg_iast (hx : p.tables.exec = Jvm.exec) (hb : c.code = cc) {k i t0 : Nat} (hK : va_K D cl tys s) (hk : ok k i) {cA : ClassId} {n : Nat} {f : Nat → Int32} (ha : w k i = .inl (cA, n, .inl f)) (ht : tys[t0]? = some (cA, .int)) {x : Nat} {v : Int32} (hn : n < 2 ^ 31) (hin : x < n) (hdg : decode cc pc = .ok (.iastore, 1)) (kk : tg_W p l e R s m args below meth c Q nL D cl F ad ok (tg_up w k i (.inl (cA, n, .inl (upd f x v)))) L cells slots (pc + 1) st) : tg_W p l e R s m args below meth c Q nL D cl F ad ok w L cells slots pc (.int v :: .int (nI x) :: .ref (ad k i) :: st) := by
  intro H locs ls hZ h
  have hcl := nI_clamp (Nat.lt_trans hin hn)
  refine W.iast hx hb (hZ.at_ hk ha) ((hK.2 t0 _ ht).1 n (fun j => .int (f j)))  (fun q => by cases q) (by show ¬ (nI x < 0 ∨ (arrV _ _ _).slots.size ≤ _); rw [arrV_size]; exact vp_in_nI hin hn) rfl rfl hdg fun H1 e1 e2 e3 => ?_
  refine kk H1 _ ls (hZ.put hk ?_ e2 e3) h
  show H1[ad k i]? = some (vp_cell _ _)
  rw [e1, vp_cell_i, vp_cell_i, arrV_store, hcl]
  congr 2
  funext q
  by_cases hq : q = x
  · subst hq
    simp [updV, upd]
  · simp [updV, upd, hq]
theorem tg_last (hx : p.tables.exec = Jvm.exec) (hb : c.code = cc) {k i t0 : Nat} (hK : va_K D cl tys s) (hk : ok k i) {cA : ClassId} {n : Nat} {f : Nat → Int64} (ha : w k i = .inl (cA, n, .inr (.inl f))) (ht : tys[t0]? = some (cA, .long)) {x : Nat} {v : Int64} (hn : n < 2 ^ 31) (hin : x < n) (hdg : decode cc pc = .ok (.lastore, 1)) (kk : tg_W p l e R s m args below meth c Q nL D cl F ad ok (tg_up w k i (.inl (cA, n, .inr (.inl (vp_updL f x v))))) L cells slots (pc + 1) st) : tg_W p l e R s m args below meth c Q nL D cl F ad ok w L cells slots pc (.long v :: .int (nI x) :: .ref (ad k i) :: st) := by
  intro H locs ls hZ h
  have hcl := nI_clamp (Nat.lt_trans hin hn)
  refine W.last hx hb (hZ.at_ hk ha) ((hK.2 t0 _ ht).1 n (fun j => .long (f j)))  (fun q => by cases q) (by show ¬ (nI x < 0 ∨ (arrV _ _ _).slots.size ≤ _); rw [arrV_size]; exact vp_in_nI hin hn) rfl rfl hdg fun H1 e1 e2 e3 => ?_
  refine kk H1 _ ls (hZ.put hk ?_ e2 e3) h
  show H1[ad k i]? = some (vp_cell _ _)
  rw [e1, vp_cell_l, vp_cell_l, arrV_store, hcl]
  congr 2
  funext q
  by_cases hq : q = x
  · subst hq
    simp [updV, vp_updL]
  · simp [updV, vp_updL, hq]
theorem tg_zast (hx : p.tables.exec = Jvm.exec) (hb : c.code = cc) {k i t0 : Nat} (hK : va_K D cl tys s) (hk : ok k i) {cA : ClassId} {n : Nat} {f : Nat → Int32} (ha : w k i = .inl (cA, n, .inl f)) (ht : tys[t0]? = some (cA, .boolean)) {x : Nat} {v : Int32} (hv : vp_nar .boolean v = v) (hn : n < 2 ^ 31) (hin : x < n) (hdg : decode cc pc = .ok (.bastore, 1)) (kk : tg_W p l e R s m args below meth c Q nL D cl F ad ok (tg_up w k i (.inl (cA, n, .inl (upd f x v)))) L cells slots (pc + 1) st) : tg_W p l e R s m args below meth c Q nL D cl F ad ok w L cells slots pc (.int v :: .int (nI x) :: .ref (ad k i) :: st) := by
  intro H locs ls hZ h
  have hcl := nI_clamp (Nat.lt_trans hin hn)
  refine W.zast hx hb (hZ.at_ hk ha) ((hK.2 t0 _ ht).1 n (fun j => .int (f j))) (fun q => by cases q) (by show ¬ (nI x < 0 ∨ (arrV _ _ _).slots.size ≤ _); rw [arrV_size]; exact vp_in_nI hin hn) rfl rfl hdg fun H1 e1 e2 e3 => ?_
  refine kk H1 _ ls (hZ.put hk ?_ e2 e3) h
  show H1[ad k i]? = some (vp_cell _ _)
  rw [e1, vp_cell_i, vp_cell_i, arrV_store, hcl]
  congr 2
  funext q
  by_cases hq : q = x
  · subst hq
    have hv' : Value.int (vp_nar .boolean v) = .int v := by rw [hv]
    simp only [updV, upd, if_pos]
    exact hv'
  · simp [updV, upd, hq]
theorem tg_aast (hx : p.tables.exec = Jvm.exec) (hb : c.code = cc) {k i t0 : Nat} (hK : va_K D cl tys s) (hk : ok k i) {cA : ClassId} {n : Nat} {k' i' ci : Nat} {r : vw_C} {vs : List Value} {f : Nat → Option Nat} (ha : w k i = .inl (cA, n, .inr (.inr (.inr (.inr f))))) (ht : tys[t0]? = some (cA, .object r.1)) (hk' : ok k' i') (hv : w k' i' = .inr (ci, vs)) (hc : cl[ci]? = some r) {x : Nat} (hn : n < 2 ^ 31) (hin : x < n) (hdg : decode cc pc = .ok (.aastore, 1)) (kk : tg_W p l e R s m args below meth c Q nL D cl F ad ok (tg_up w k i (.inl (cA, n, .inr (.inr (.inr (.inr (va_up f x (some (ad k' i'))))))))) L cells slots (pc + 1) st) : tg_W p l e R s m args below meth c Q nL D cl F ad ok w L cells slots pc (.ref (ad k' i') :: .int (nI x) :: .ref (ad k i) :: st) := by
  intro H locs ls hZ h
  have hcx := nI_clamp (Nat.lt_trans hin hn)
  have hi := vp_in_nI hin hn
  obtain ⟨r', hr', cellV, g1, g2, g3, -⟩ := hZ.at_ hk' hv
  have hcls := (hK.1 ci r hc).2
  obtain ⟨kA, comp, k1, k2, k3, -⟩ := (hK.2 t0 _ ht).2
  have hcomp : comp = D.1 ci := Option.some.inj (k3.symm.trans hcls.1)
  subst hcomp
  obtain ⟨kC, hkC, -⟩ := hcls.2
  refine W.aast hx hb (hZ.at_ hk ha) (fun q h => by cases h) (fun h => by cases h) k1 k2 rfl hkC ⟨fun q => hi (Or.inl q), by show _ < (arrV _ _ _).slots.size; rw [arrV_size]; exact Nat.not_le.mp fun q => hi (Or.inr q)⟩ g1 (fun q h => by rw [g3] at h; cases h) (by rw [g2]; exact hkC) (by rw [g2]; exact va_assign hcls) rfl rfl hdg fun H1 e1 e2 e3 => ?_
  refine kk H1 _ ls (hZ.put hk ?_ e2 e3) h
  show H1[ad k i]? = some (vp_cell _ _)
  rw [e1, vp_cell_q, vp_cell_q, arrV_store, hcx]
  congr 2
  funext q
  by_cases hq : q = x
  · subst hq
    simp [updV, va_up, va_rf]
  · simp [updV, va_up, hq]
theorem tg_aastN (hx : p.tables.exec = Jvm.exec) (hb : c.code = cc) {k i t0 : Nat} (hK : va_K D cl tys s) (hk : ok k i) {cA : ClassId} {n : Nat} {C : String} {f : Nat → Option Nat} (ha : w k i = .inl (cA, n, .inr (.inr (.inr (.inr f))))) (ht : tys[t0]? = some (cA, .object C)) {x : Nat} (hn : n < 2 ^ 31) (hin : x < n) (hdg : decode cc pc = .ok (.aastore, 1)) (kk : tg_W p l e R s m args below meth c Q nL D cl F ad ok (tg_up w k i (.inl (cA, n, .inr (.inr (.inr (.inr (va_up f x none))))))) L cells slots (pc + 1) st) : tg_W p l e R s m args below meth c Q nL D cl F ad ok w L cells slots pc (.null :: .int (nI x) :: .ref (ad k i) :: st) := by
  intro H locs ls hZ h
  have hcx := nI_clamp (Nat.lt_trans hin hn)
  refine va_WaastN (C := C) hx hb (hZ.at_ hk ha) ((hK.2 t0 _ ht).1 n (fun j => va_rf (f j))) (fun h => by cases h) (by show ¬ (nI x < 0 ∨ (arrV _ _ _).slots.size ≤ _); rw [arrV_size]; exact vp_in_nI hin hn) rfl rfl hdg fun H1 e1 e2 e3 => ?_
  refine kk H1 _ ls (hZ.put hk ?_ e2 e3) h
  show H1[ad k i]? = some (vp_cell _ _)
  rw [e1, vp_cell_q, vp_cell_q, arrV_store, hcx]
  congr 2
  funext q
  by_cases hq : q = x
  · subst hq
    simp [updV, va_up, va_rf]
  · simp [updV, va_up, hq]
theorem tg_new (hx : p.tables.exec = Jvm.exec) (hb : c.code = cc) (k i : Nat) {own C : String} {T : u_T} {N ci index : Nat} {Ts : List Cond} (hts : ∀ w ∈ Ts, w.before args s = true) (hin : ∀ w ∈ u_ws C T N, w ∈ Ts) (ty : Nat → FieldType) (hty : ∀ k, k < N → parseFieldDescriptor (T k).2.2.1 = some (ty k)) (hown : s.vm.findClass own = some m.cls) (hcl : (Cond.classLink own index C).before args s = true) (hinst : (Cond.instantiable C N).before args s = true) (hini : (Cond.initialized C).before args s = true)
    (hK : va_K D cl tys s) (hc : cl[ci]? = some (C, T, N)) {fs : List Value} (hfs : ∀ j, j < N → defaultValue (ty j) = vp_V fs j) (hcells : cells + 1 ≤ R.cells) (hslots : slots + N ≤ R.slots) (hdg : decode cc pc = .ok (.new index, 3))
    (kk : ∀ q : Nat, tg_W p l e R s m args below meth c Q nL D cl F (tg_up ad k i q) (fun a b => ok a b ∨ (a = k ∧ b = i)) (tg_up w k i (.inr (ci, fs))) L (cells + 1) (slots + N) (pc + 3) (.ref q :: st)) : tg_W p l e R s m args below meth c Q nL D cl F ad ok w L cells slots pc st := by
  intro H locs ls hZ h
  have hKn := hK.1 ci _ hc
  refine W.newcK hx hb hown hcl hinst hini rfl hdg hcells hslots hKn.2.1 rfl fun H1 kC hkC e1 z1 o1 => ?_
  exact kk H.size H1 locs ls (hZ.new k i ⟨_, hc, (u_born ty hts hin hKn hkC e1 hty).to hfs⟩ z1 o1) h
theorem tg_newa (hx : p.tables.exec = Jvm.exec) (hb : c.code = cc) (k i : Nat) {atype : ArrayType} (harr : (Cond.arrayClass (newarray.typeOf atype)).before args s = true) {ty : FieldType} (hty : newarray.typeOf atype = ty) {cA : ClassId} (hpr : s.vm.findClass ("[" ++ ty.toString) = some cA)
    {n : Int32} {N' : Nat} {a0 : vp_A} (ha : ∀ cA : ClassId, vp_cell cA a0 = arrV cA N' (fun _ => defaultValue ty)) (hn : ¬ n < 0) (hN : n.toNatClampNeg = N') (hbytes : N' * componentBytes ty ≤ 536870912) (hcells : cells + 1 ≤ R.cells) (hslots : slots + N' ≤ R.slots) (hdg : decode cc pc = .ok (.newarray atype, 2))
    (kk : ∀ q : Nat, tg_W p l e R s m args below meth c Q nL D cl F (tg_up ad k i q) (fun a b => ok a b ∨ (a = k ∧ b = i)) (tg_up w k i (.inl (cA, a0))) L (cells + 1) (slots + N') (pc + 2) (.ref q :: st)) : tg_W p l e R s m args below meth c Q nL D cl F ad ok w L cells slots pc (.int n :: st) := by
  intro H locs ls hZ h
  subst hty
  refine va_newaK hx hb harr rfl hdg rfl hn hN hbytes hcells hslots rfl fun H1 cB e1 z1 o1 hAr hNm => ?_
  have hcB : cB = cA := Option.some.inj (hNm.symm.trans hpr)
  subst hcB
  exact kk H.size H1 locs ls (hZ.new k i (x := .inl (cB, a0)) (by show H1[H.size]? = some (vp_cell _ _); rw [ha]; exact e1) z1 o1) h
theorem tg_anew (hx : p.tables.exec = Jvm.exec) (hb : c.code = cc) (k i : Nat) {own C : String} {index t0 : Nat} (hown : s.vm.findClass own = some m.cls) (hclink : (Cond.classLink own index C).before args s = true) (hover : (Cond.arrayOver (.object C)).before args s = true) (hK : va_K D cl tys s) {cA : ClassId} (ht : tys[t0]? = some (cA, .object C))
    {n : Int32} {N' : Nat} (hn : ¬ n < 0) (hN : n.toNatClampNeg = N') (hbytes : N' * 4 ≤ 536870912) (hcells : cells + 1 ≤ R.cells) (hslots : slots + N' ≤ R.slots) (hdg : decode cc pc = .ok (.anewarray index, 3))
    (kk : ∀ q : Nat, tg_W p l e R s m args below meth c Q nL D cl F (tg_up ad k i q) (fun a b => ok a b ∨ (a = k ∧ b = i)) (tg_up w k i (.inl (cA, N', .inr (.inr (.inr (.inr fun _ => none)))))) L (cells + 1) (slots + N') (pc + 3) (.ref q :: st)) : tg_W p l e R s m args below meth c Q nL D cl F ad ok w L cells slots pc (.int n :: st) := by
  intro H locs ls hZ h
  subst hN
  refine W.anew hx hb hown hclink hover rfl hdg rfl hn hbytes hcells hslots fun cB kA comp h1 h2 h3 h4 => ?_
  obtain ⟨kA', comp', k1, k2, k3, k4⟩ := (hK.2 t0 _ ht).2
  have hcB : cB = cA := Option.some.inj (h1.symm.trans k4)
  subst hcB
  refine kk H.size _ locs ls (hZ.new k i ?_ (by simp) (fun q hq => by rw [Array.getElem?_push, if_neg (Nat.ne_of_lt hq)])) h
  show (H.push _)[H.size]? = some (vp_cell _ _)
  rw [vp_cell_q]
  show _ = some (arrV cB n.toNatClampNeg (fun _ => Value.null))
  rw [← arrV_new]
  simp
theorem tg_mmax (hx : p.tables.exec = Jvm.exec) (hb : c.code = cc) (hml : c.maxLocals = nL) {own : String} {index : Nat} (hown : s.vm.findClass own = some m.cls) (hlink : (Cond.methodLink own index Lib.Math.max.name).before args s = true) (hstat : (Cond.static Lib.Math.max.name).before args s = true) (hini : (Cond.initialized "java/lang/Math").before args s = true) (hcode : (Cond.code Lib.Math.max.name Lib.Math.max.code 2 (some .int)).before args s = true) (hframes : 1 ≤ R.frames) (hlocals : (st.map fun v => v.category).sum + 13 ≤ R.locals) (hc : cells ≤ R.cells) (hs : slots ≤ R.slots) {x y : Int32} (hdg : decode cc pc = .ok (.invokestatic index, 3)) (kk : tg_W p l e R s m args below meth c Q nL D cl F ad ok w L cells slots (pc + 3) (.int (if x < y then y else x) :: st)) : tg_W p l e R s m args below meth c Q nL D cl F ad ok w L cells slots pc (.int y :: .int x :: st) :=
  fun H locs ls hZ h => va_mmax hx hb (hml.trans h.1.symm) hown hlink hstat hini hcode hframes hlocals hc hs hdg (kk H locs ls hZ h)
theorem tg_mmin (hx : p.tables.exec = Jvm.exec) (hb : c.code = cc) (hml : c.maxLocals = nL) {own : String} {index : Nat} (hown : s.vm.findClass own = some m.cls) (hlink : (Cond.methodLink own index Lib.Math.min.name).before args s = true) (hstat : (Cond.static Lib.Math.min.name).before args s = true) (hini : (Cond.initialized "java/lang/Math").before args s = true) (hcode : (Cond.code Lib.Math.min.name Lib.Math.min.code 2 (some .int)).before args s = true) (hframes : 1 ≤ R.frames) (hlocals : (st.map fun v => v.category).sum + 13 ≤ R.locals) (hc : cells ≤ R.cells) (hs : slots ≤ R.slots) {x y : Int32} (hdg : decode cc pc = .ok (.invokestatic index, 3)) (kk : tg_W p l e R s m args below meth c Q nL D cl F ad ok w L cells slots (pc + 3) (.int (if y < x then y else x) :: st)) : tg_W p l e R s m args below meth c Q nL D cl F ad ok w L cells slots pc (.int y :: .int x :: st) :=
  fun H locs ls hZ h => va_mmin hx hb (hml.trans h.1.symm) hown hlink hstat hini hcode hframes hlocals hc hs hdg (kk H locs ls hZ h)
end TGW
theorem tg_loop {σ : Type} (I : σ → Prop) (μ : σ → Nat) (G : σ → Prop) (hs : ∀ x, I x → (∀ y, I y → μ y < μ x → G y) → G x) : ∀ x, I x → G x := by
  have key : ∀ (n : Nat) (x : σ), μ x < n → I x → G x := by
    intro n
    induction n with
    | zero => intro x h; omega
    | succ n ih => exact fun x h hI => hs x hI fun y hy hlt => ih y (by omega) hy
  exact fun x hI => key (μ x + 1) x (by omega) hI
/-! contracts over such worlds. Nn: what else is known of the tables and of old cells (texts, links between nest mates); it outlives what is written in F -/
def tg_Mv (F : Nat → Prop) (Nn : State → Heap → Prop) : Prop := (∀ (u U : State) (H : Heap), u.WarmedH U.vm → Nn u H → Nn U H) ∧ (∀ (u U : State) (H : Heap), u.vm = U.vm → Nn u H → Nn U H) ∧ ∀ (U : State) (H H1 : Heap), H.size ≤ H1.size → (∀ q : Nat, q < H.size → ¬ F q → H1[q]? = H[q]?) → Nn U H → Nn U H1
def tg_B (D : va_G) (cl : List vw_C) (tys : List (ClassId × FieldType)) (F : Nat → Prop) (Nn : State → Heap → Prop) (ad : Nat → Nat → Nat) (ok : Nat → Nat → Prop) (w : Nat → Nat → va_E) (U : State) : Prop := tg_Y D cl F ad ok w U.heap ∧ (∀ q, U.heap.size ≤ q → F q) ∧ va_K D cl tys U ∧ Nn U U.heap
def tg_Q (D : va_G) (cl : List vw_C) (F : Nat → Prop) (post : Option Value → (Nat → Nat → Nat) → (Nat → Nat → Prop) → (Nat → Nat → va_E) → Prop) : Array Value → State → Outcome → State → Prop := fun _ st oc t => (∃ (r : Option Value) (ad1 : Nat → Nat → Nat) (ok1 : Nat → Nat → Prop) (w1 : Nat → Nat → va_E), oc = .returned r ∧ post r ad1 ok1 w1 ∧ tg_Y D cl F ad1 ok1 w1 t.heap) ∧ va_F F st t
def tg_Met (l : Launch) (y : MethodName) (ws : List Cond) (rm : Room) (D : va_G) (cl : List vw_C) (tys : List (ClassId × FieldType)) (F : Nat → Prop) (Nn : State → Heap → Prop) (ad : Nat → Nat → Nat) (ok : Nat → Nat → Prop) (w : Nat → Nat → va_E) (av : List Value) (post : Option Value → (Nat → Nat → Nat) → (Nat → Nat → Prop) → (Nat → Nat → va_E) → Prop) : Prop :=
  Met l y ws rm (va_Pc av (tg_B D cl tys F Nn ad ok w)) (tg_Q D cl F post) rm.cells rm.slots F
/-- a post that makes nothing: an answer, and the cells as they then are -/
def tg_po (ad : Nat → Nat → Nat) (ok : Nat → Nat → Prop) (po : Option Value → (Nat → Nat → va_E) → Prop) : Option Value → (Nat → Nat → Nat) → (Nat → Nat → Prop) → (Nat → Nat → va_E) → Prop := fun r ad1 ok1 w1 => ad1 = ad ∧ ok1 = ok ∧ po r w1
theorem tg_B.blind {D : va_G} {cl : List vw_C} {tys : List (ClassId × FieldType)} {F : Nat → Prop} {Nn : State → Heap → Prop} {ad : Nat → Nat → Nat} {ok : Nat → Nat → Prop} {w : Nat → Nat → va_E} {av : List Value} (hMv : tg_Mv F Nn) : FrameBlind (va_Pc av (tg_B D cl tys F Nn ad ok w)) := fun a U g mk q => by
  obtain ⟨q0, q1, q2, q3, q4⟩ := q
  exact ⟨q0, q1, q2, va_K.moved (u := U) (U := U.calling g mk a) (Vm.Alike.refl U.vm) q3, hMv.2.1 U (U.calling g mk a) _ rfl q4⟩
section TGC
variable {p : Program} {l : Launch} {e : Env} {R : Room} {s : State} {m : MethodId} {args : Array Value} {below : List Frame} {meth : Method} {c : Code} {cells slots : Nat} {Q : State → Prop}
variable {cc bytes : ByteArray} {pc nL maxL index n : Nat} {st : List Value} {D : va_G} {cl : List vw_C} {tys : List (ClassId × FieldType)} {F : Nat → Prop} {Nn : State → Heap → Prop} {ad : Nat → Nat → Nat} {ok : Nat → Nat → Prop} {w : Nat → Nat → va_E} {L : List (Nat × Value)}
variable {y : MethodName} {ws ws' Ts : List Cond} {rm : Room} {ret : Option FieldType} {own C host : String} {As rest : List Value} {post : Option Value → (Nat → Nat → Nat) → (Nat → Nat → Prop) → (Nat → Nat → va_E) → Prop}
theorem tg_pre {H : Heap} {locs : List Loc} (hMv : tg_Mv F Nn) (hZ : tg_Z D cl F ad ok w s.heap H locs) (hK : va_K D cl tys s) (hN : Nn s s.heap) {av : List Value} : PreS s H (va_Pc av (tg_B D cl tys F Nn ad ok w)) av :=
  ⟨tg_B.blind hMv, fun U hU hW => ⟨rfl, by rw [hU]; exact hZ.1, by rw [hU]; exact fun q h => hZ.2.1 q (Nat.le_trans hZ.2.2.1 h), va_K.moved hW.alike hK, by
    rw [hU]
    exact hMv.1 s U H hW (hMv.2.2 s s.heap H hZ.2.2.1 hZ.2.2.2.1 hN)⟩⟩
theorem tg_preV {H : Heap} {locs : List Loc} (hMv : tg_Mv F Nn) (hZ : tg_Z D cl F ad ok w s.heap H locs) (hK : va_K D cl tys s) (hN : Nn s s.heap) {k i ci : Nat} (hk : ok k i) {fs : List Value} (he : w k i = .inr (ci, fs)) {q : vw_C} (hc : cl[ci]? = some q) {av : List Value} : PreV s H q.1 (ad k i) (va_Pc (.ref (ad k i) :: av) (tg_B D cl tys F Nn ad ok w)) av :=
  ⟨(tg_pre (av := .ref (ad k i) :: av) hMv hZ hK hN).1, va_recv (q0 := 0) hK (hZ.one hk he) hc rfl, (tg_pre (av := .ref (ad k i) :: av) hMv hZ hK hN).2⟩
theorem tg_call {st0 : List Value} {a : Array Value} (hr : ∀ (H : Heap) (locs : List Loc) (ls : Array Slot), tg_Z D cl F ad ok w s.heap H locs → lv_has ls nL L → va_Run p l e R s m args below meth c H locs cells slots rm.cells rm.slots (F0 m pc ls st0) rest (tg_Q D cl F post a) F)
    (kk : ∀ (r : Option Value) (ad1 : Nat → Nat → Nat) (ok1 : Nat → Nat → Prop) (w1 : Nat → Nat → va_E), post r ad1 ok1 w1 → tg_W p l e R s m args below meth c Q nL D cl F ad1 ok1 w1 L (cells + rm.cells) (slots + rm.slots) (pc + 3) (r.toList ++ rest)) : tg_W p l e R s m args below meth c Q nL D cl F ad ok w L cells slots pc st0 := by
  intro H locs ls hZ h T hT X
  obtain ⟨v, st₀, t, T', LL, h0, X', hL, e1, e2, ⟨⟨r, ad1, ok1, w1, hv, hp, hY⟩, hz, hk⟩, stp⟩ := hr H locs ls hZ h T hT X
  cases hv
  rw [h0] at hz hk
  obtain ⟨-, g3, g4⟩ := hZ
  obtain ⟨t2, a1, b1⟩ := kk v ad1 ok1 w1 hp T'.heap (locs ++ LL) ls ⟨by rw [e1]; exact hY, g3, Nat.le_trans g4.1 (by rw [e1]; exact hz), fun q h1 h2 => by rw [e1, hk q (Nat.lt_of_lt_of_le h1 g4.1) h2]; exact g4.2.1 q h1 h2, fun q hq => by
    rcases List.mem_append.mp hq with h | h
    · exact g4.2.2 q h
    · exact hL q h⟩ h T' rfl X'
  exact ⟨t2, stp t2 a1, b1⟩
theorem tg_callS (S : CallFix p m c cc nL s args Ts own) (hK : va_K D cl tys s) (hN : Nn s s.heap) (hMv : tg_Mv F Nn) (hM : tg_Met l y ws rm D cl tys F Nn ad ok w As post) (cw : CallB R s args own index y bytes maxL ret ws rm rm.cells rm.slots n ∧ (Cond.static y).before args s = true) (hn : As.length = n) (hW : (rest.map fun v => v.category).sum ≤ 8) (hf : cells + rm.cells ≤ R.cells ∧ slots + rm.slots ≤ R.slots) (hst : st = As.reverse ++ rest) (hdg : decode cc pc = .ok (.invokestatic index, 3)) (kk : ∀ (r : Option Value) (ad1 : Nat → Nat → Nat) (ok1 : Nat → Nat → Prop) (w1 : Nat → Nat → va_E), post r ad1 ok1 w1 → tg_W p l e R s m args below meth c Q nL D cl F ad1 ok1 w1 L (cells + rm.cells) (slots + rm.slots) (pc + 3) (r.toList ++ rest)) : tg_W p l e R s m args below meth c Q nL D cl F ad ok w L cells slots pc st := by
  subst hst
  exact tg_call (rm := rm) (fun H locs ls hZ h => va_runS S hM cw (tg_pre hMv hZ hK hN) rfl hn h.1 rfl (lv_room hW) hdg hf) kk
theorem tg_callSN (S : CallFix p m c cc nL s args Ts own) (hK : va_K D cl tys s) (hN : Nn s s.heap) (hMv : tg_Mv F Nn) (hM : tg_Met l y ws rm D cl tys F Nn ad ok w As post) (cw : va_CN R s args own index y host bytes maxL ret ws rm rm.cells rm.slots n ∧ (Cond.static y).before args s = true ∧ True) (hn : As.length = n) (hW : (rest.map fun v => v.category).sum ≤ 8) (hf : cells + rm.cells ≤ R.cells ∧ slots + rm.slots ≤ R.slots) (hst : st = As.reverse ++ rest) (hdg : decode cc pc = .ok (.invokestatic index, 3)) (kk : ∀ (r : Option Value) (ad1 : Nat → Nat → Nat) (ok1 : Nat → Nat → Prop) (w1 : Nat → Nat → va_E), post r ad1 ok1 w1 → tg_W p l e R s m args below meth c Q nL D cl F ad1 ok1 w1 L (cells + rm.cells) (slots + rm.slots) (pc + 3) (r.toList ++ rest)) : tg_W p l e R s m args below meth c Q nL D cl F ad ok w L cells slots pc st := by
  subst hst
  exact tg_call (rm := rm) (fun H locs ls hZ h => va_runSN S hM cw (tg_pre hMv hZ hK hN) rfl hn h.1 rfl (lv_room hW) hdg hf) kk
theorem tg_callV (S : CallFix p m c cc nL s args Ts own) (hK : va_K D cl tys s) (hN : Nn s s.heap) (hMv : tg_Mv F Nn) {k i ci : Nat} (hk : ok k i) {fs : List Value} (he : w k i = .inr (ci, fs)) {q : vw_C} (hc : cl[ci]? = some q) (hC : q.1 = C) (hM : tg_Met l y ws rm D cl tys F Nn ad ok w (.ref (ad k i) :: As) post) (cw : CallW R s args own C index y bytes maxL ret ws rm rm.cells rm.slots n) (hn : As.length = n) (hW : (rest.map fun v => v.category).sum ≤ 8) (hf : cells + rm.cells ≤ R.cells ∧ slots + rm.slots ≤ R.slots) (hst : st = As.reverse ++ .ref (ad k i) :: rest) (hdg : decode cc pc = .ok (.invokevirtual index, 3)) (kk : ∀ (r : Option Value) (ad1 : Nat → Nat → Nat) (ok1 : Nat → Nat → Prop) (w1 : Nat → Nat → va_E), post r ad1 ok1 w1 → tg_W p l e R s m args below meth c Q nL D cl F ad1 ok1 w1 L (cells + rm.cells) (slots + rm.slots) (pc + 3) (r.toList ++ rest)) : tg_W p l e R s m args below meth c Q nL D cl F ad ok w L cells slots pc st := by
  subst hC
  subst hst
  exact tg_call (rm := rm) (fun H locs ls hZ h => va_runV S hM cw (tg_preV hMv hZ hK hN hk he hc) rfl hn h.1 rfl (lv_room hW) hdg hf) kk
theorem tg_callVN (S : CallFix p m c cc nL s args Ts own) (hK : va_K D cl tys s) (hN : Nn s s.heap) (hMv : tg_Mv F Nn) {k i ci : Nat} (hk : ok k i) {fs : List Value} (he : w k i = .inr (ci, fs)) {q : vw_C} (hc : cl[ci]? = some q) (hC : q.1 = C) (hM : tg_Met l y ws rm D cl tys F Nn ad ok w (.ref (ad k i) :: As) post) (cw : va_CN R s args own index y host bytes maxL ret ws rm rm.cells rm.slots n ∧ (Cond.instanceMethod y).before args s = true ∧ (Cond.selects C y y).before args s = true) (hn : As.length = n) (hW : (rest.map fun v => v.category).sum ≤ 8) (hf : cells + rm.cells ≤ R.cells ∧ slots + rm.slots ≤ R.slots) (hst : st = As.reverse ++ .ref (ad k i) :: rest) (hdg : decode cc pc = .ok (.invokevirtual index, 3)) (kk : ∀ (r : Option Value) (ad1 : Nat → Nat → Nat) (ok1 : Nat → Nat → Prop) (w1 : Nat → Nat → va_E), post r ad1 ok1 w1 → tg_W p l e R s m args below meth c Q nL D cl F ad1 ok1 w1 L (cells + rm.cells) (slots + rm.slots) (pc + 3) (r.toList ++ rest)) : tg_W p l e R s m args below meth c Q nL D cl F ad ok w L cells slots pc st := by
  subst hC
  subst hst
  exact tg_call (rm := rm) (fun H locs ls hZ h => va_runVN S hM cw (tg_preV hMv hZ hK hN hk he hc) rfl hn h.1 rfl (lv_room hW) hdg hf) kk
theorem tg_callI (S : CallFix p m c cc nL s args Ts own) (hK : va_K D cl tys s) (hN : Nn s s.heap) (hMv : tg_Mv F Nn) {b : Nat} (hM : tg_Met l y ws rm D cl tys F Nn ad ok w (.ref b :: As) post) (cw : CallB R s args own index y bytes maxL none ws rm rm.cells rm.slots n ∧ y.name = "<init>" ∧ (Cond.instanceMethod y).before args s = true) (hn : As.length = n) (hW : (rest.map fun v => v.category).sum ≤ 8) (hf : cells + rm.cells ≤ R.cells ∧ slots + rm.slots ≤ R.slots) (hst : st = As.reverse ++ .ref b :: rest) (hdg : decode cc pc = .ok (.invokespecial index, 3)) (kk : ∀ (r : Option Value) (ad1 : Nat → Nat → Nat) (ok1 : Nat → Nat → Prop) (w1 : Nat → Nat → va_E), post r ad1 ok1 w1 → tg_W p l e R s m args below meth c Q nL D cl F ad1 ok1 w1 L (cells + rm.cells) (slots + rm.slots) (pc + 3) (r.toList ++ rest)) : tg_W p l e R s m args below meth c Q nL D cl F ad ok w L cells slots pc st := by
  subst hst
  exact tg_call (rm := rm) (fun H locs ls hZ h => va_runI S hM cw (tg_pre hMv hZ hK hN) rfl hn h.1 rfl (lv_room hW) hdg hf) kk
theorem tg_callIN (S : CallFix p m c cc nL s args Ts own) (hK : va_K D cl tys s) (hN : Nn s s.heap) (hMv : tg_Mv F Nn) {b : Nat} (hM : tg_Met l y ws rm D cl tys F Nn ad ok w (.ref b :: As) post) (cw : va_CN R s args own index y host bytes maxL none ws rm rm.cells rm.slots n ∧ y.name = "<init>" ∧ (Cond.instanceMethod y).before args s = true) (hn : As.length = n) (hW : (rest.map fun v => v.category).sum ≤ 8) (hf : cells + rm.cells ≤ R.cells ∧ slots + rm.slots ≤ R.slots) (hst : st = As.reverse ++ .ref b :: rest) (hdg : decode cc pc = .ok (.invokespecial index, 3)) (kk : ∀ (r : Option Value) (ad1 : Nat → Nat → Nat) (ok1 : Nat → Nat → Prop) (w1 : Nat → Nat → va_E), post r ad1 ok1 w1 → tg_W p l e R s m args below meth c Q nL D cl F ad1 ok1 w1 L (cells + rm.cells) (slots + rm.slots) (pc + 3) (r.toList ++ rest)) : tg_W p l e R s m args below meth c Q nL D cl F ad ok w L cells slots pc st := by
  subst hst
  exact tg_call (rm := rm) (fun H locs ls hZ h => va_runIN S hM cw (tg_pre hMv hZ hK hN) rfl hn h.1 rfl (lv_room hW) hdg hf) kk
theorem tg_kk {po : Option Value → (Nat → Nat → va_E) → Prop} (hc : rm.cells = 0) (hs : rm.slots = 0) (kk : ∀ (r : Option Value) (w1 : Nat → Nat → va_E), po r w1 → tg_W p l e R s m args below meth c Q nL D cl F ad ok w1 L cells slots pc (r.toList ++ rest)) : ∀ (r : Option Value) (ad1 : Nat → Nat → Nat) (ok1 : Nat → Nat → Prop) (w1 : Nat → Nat → va_E), tg_po ad ok po r ad1 ok1 w1 → tg_W p l e R s m args below meth c Q nL D cl F ad1 ok1 w1 L (cells + rm.cells) (slots + rm.slots) pc (r.toList ++ rest) := by
  intro r ad1 ok1 w1 ⟨h1, h2, h3⟩
  rw [h1, h2, hc, hs]
  exact kk r w1 h3
theorem tg_kv {v : Value} {w' : Nat → Nat → va_E} (hc : rm.cells = 0) (hs : rm.slots = 0) (kk : tg_W p l e R s m args below meth c Q nL D cl F ad ok w' L cells slots pc (v :: rest)) : ∀ (r : Option Value) (ad1 : Nat → Nat → Nat) (ok1 : Nat → Nat → Prop) (w1 : Nat → Nat → va_E), tg_po ad ok (fun r w1 => r = some v ∧ w1 = w') r ad1 ok1 w1 → tg_W p l e R s m args below meth c Q nL D cl F ad1 ok1 w1 L (cells + rm.cells) (slots + rm.slots) pc (r.toList ++ rest) := by
  refine tg_kk hc hs ?_
  intro r w1 ⟨h1, h2⟩
  rw [h1, h2]
  exact kk
theorem tg_kn {w' : Nat → Nat → va_E} (hc : rm.cells = 0) (hs : rm.slots = 0) (kk : tg_W p l e R s m args below meth c Q nL D cl F ad ok w' L cells slots pc rest) : ∀ (r : Option Value) (ad1 : Nat → Nat → Nat) (ok1 : Nat → Nat → Prop) (w1 : Nat → Nat → va_E), tg_po ad ok (fun r w1 => r = none ∧ w1 = w') r ad1 ok1 w1 → tg_W p l e R s m args below meth c Q nL D cl F ad1 ok1 w1 L (cells + rm.cells) (slots + rm.slots) pc (r.toList ++ rest) := by
  refine tg_kk hc hs ?_
  intro r w1 ⟨h1, h2⟩
  rw [h1, h2]
  exact kk
theorem tg_Z.endQ {H : Heap} {locs : List Loc} (hZ : tg_Z D cl F ad ok w s.heap H locs) {r : Option Value} (hp : post r ad ok w) {t : State} (ht : t.heap = H) : tg_Q D cl F post args s (.returned r) t :=
  ⟨⟨r, ad, ok, w, rfl, hp, by rw [ht]; exact hZ.1⟩, hZ.2.2.F ht⟩
theorem tg_iret (hx : p.tables.exec = Jvm.exec) (hb : c.code = cc) (hlocks : meth.locks = false) (hr : meth.sig.returnType = some .int) (hQ : Q = MQ below (tg_Q D cl F post) args s cells slots F) {v : Int32} (hp : post (some (.int v)) ad ok w) (hdg : decode cc pc = .ok (.ireturn, 1)) : tg_W p l e R s m args below meth c Q nL D cl F ad ok w L cells slots pc [.int v] := by
  subst hQ
  exact fun H locs ls hZ h => W.iret hx hb hr (fun t ht hW => hZ.endQ hp ht) hZ.2.2.2.2 hdg hlocks
theorem tg_zret (hx : p.tables.exec = Jvm.exec) (hb : c.code = cc) (hlocks : meth.locks = false) {ty : FieldType} (hr : meth.sig.returnType = some ty) (hQ : Q = MQ below (tg_Q D cl F post) args s cells slots F) {v : Int32} (hn : narrow ty (.int v) = .int v) (hp : post (some (.int v)) ad ok w) (hdg : decode cc pc = .ok (.ireturn, 1)) : tg_W p l e R s m args below meth c Q nL D cl F ad ok w L cells slots pc [.int v] := by
  subst hQ
  exact fun H locs ls hZ h => W.zret hx hb hr hn (fun t ht hW => hZ.endQ hp ht) hZ.2.2.2.2 hdg hlocks
theorem tg_vret (hx : p.tables.exec = Jvm.exec) (hb : c.code = cc) (hlocks : meth.locks = false) (hr : meth.sig.returnType = none) (hQ : Q = MQ below (tg_Q D cl F post) args s cells slots F) (hp : post none ad ok w) (hdg : decode cc pc = .ok (.return_, 1)) : tg_W p l e R s m args below meth c Q nL D cl F ad ok w L cells slots pc [] := by
  subst hQ
  exact fun H locs ls hZ h => W.vret hx hb hr (fun t ht hW => hZ.endQ hp ht) hZ.2.2.2.2 hdg hlocks
theorem tg_aret (hx : p.tables.exec = Jvm.exec) (hb : c.code = cc) (hlocks : meth.locks = false) {N : String} (hr : meth.sig.returnType = some (.object N)) (hQ : Q = MQ below (tg_Q D cl F post) args s cells slots F) {v : Value} (hv : v = .null ∨ ∃ a, v = .ref a) (hp : post (some v) ad ok w) (hdg : decode cc pc = .ok (.areturn, 1)) : tg_W p l e R s m args below meth c Q nL D cl F ad ok w L cells slots pc [v] := by
  subst hQ
  exact fun H locs ls hZ h => W.aret hx hb hr (Or.inl ⟨N, rfl⟩) hv (fun t ht hW => hZ.endQ hp ht) hZ.2.2.2.2 hdg hlocks
/-- a contract's proof begins -/
theorem tg_start {av : List Value} (hy : plainName y.cls = true) (hw : ws = Cond.code y cc maxL ret :: ws') (hlen : (lg_sl av).length ≤ maxL)
    (body : ∀ (p : Program) (e : Env) (R : Room) (s : State) (m : MethodId) (args : Array Value) (below : List Frame) (meth : Method) (c : Code) (Q : State → Prop), p.tables.exec = Jvm.exec → c.code = cc → c.maxLocals = maxL → meth.sig.returnType = ret → meth.locks = false → s.vm.findClass y.cls = some m.cls → meth.name = y.name → (∀ w ∈ ws, w.before args s = true) → va_K D cl tys s → Nn s s.heap → R = (headSpec ws rm).room → Q = MQ below (tg_Q D cl F post) args s rm.cells rm.slots F →
      tg_W p l e R s m args below meth c Q maxL D cl F ad ok w (lv_args 0 av) 0 0 0 []) : tg_Met l y ws rm D cl tys F Nn ad ok w av post := by
  refine Met.ofW (cc := cc) (maxL := maxL) (ret := ret) hy hw ?_
  intro p e s m args below meth c s₁ B hml hv
  obtain ⟨rfl, hY, hF, hK, hN⟩ := hv
  rw [lg_entry_eq]
  exact body p e _ s m _ below meth c _ B.exec B.bytes hml B.returns B.notSynchronized (findClass_of_methodNamed B.named) (name_of_methodNamed B.named B.method).1 (atoms_spec (ws := ws) B.pre) hK hN rfl rfl s.heap [] _ (tg_Z.start hY hF) (lv_entry av hlen)
end TGC
end
section
/-! pure rows: reaching, rounds, counts, ranks (no machine, no class) -/
def hg_rc (e : Nat → Nat → Prop) : Nat → Nat → Nat → Prop
  | 0, u, v => u = v
  | n + 1, u, v => ∃ w, e u w ∧ hg_rc e n w v
/-- v is reached from u in any number of steps, none too -/
def hg_R (e : Nat → Nat → Prop) (u v : Nat) : Prop := ∃ n, hg_rc e n u v
/-- u comes back to itself in one step or more -/
def hg_O (e : Nat → Nat → Prop) (u : Nat) : Prop := ∃ w, e u w ∧ hg_R e w u
theorem hg_R_refl (e : Nat → Nat → Prop) (u : Nat) : hg_R e u u := ⟨0, rfl⟩
theorem hg_R_step {e : Nat → Nat → Prop} {u v w : Nat} (h : e u v) (k : hg_R e v w) : hg_R e u w := by
  obtain ⟨n, hn⟩ := k
  exact ⟨n + 1, v, h, hn⟩
theorem hg_R_one {e : Nat → Nat → Prop} {u v : Nat} (h : e u v) : hg_R e u v := hg_R_step h (hg_R_refl e v)
theorem hg_rc_trans {e : Nat → Nat → Prop} {v w : Nat} (k : hg_R e v w) : ∀ (n u : Nat), hg_rc e n u v → hg_R e u w
  | 0, u, hn => by
    have e1 : u = v := hn
    rw [e1]
    exact k
  | n + 1, u, hn => by
    obtain ⟨x, h1, h2⟩ := hn
    exact hg_R_step h1 (hg_rc_trans k n x h2)
theorem hg_R_trans {e : Nat → Nat → Prop} {u v w : Nat} (h : hg_R e u v) (k : hg_R e v w) : hg_R e u w := by
  obtain ⟨n, hn⟩ := h
  exact hg_rc_trans k n u hn
theorem hg_rc_closed {e : Nat → Nat → Prop} {P : Nat → Prop} (hc : ∀ a b, P a → e a b → P b) {v : Nat} : ∀ (n u : Nat), P u → hg_rc e n u v → P v
  | 0, u, h, hn => by
    have e1 : u = v := hn
    rw [← e1]
    exact h
  | n + 1, u, h, hn => by
    obtain ⟨x, h1, h2⟩ := hn
    exact hg_rc_closed hc n x (hc u x h h1) h2
/-- what is closed under the steps holds of all that is reached -/
theorem hg_R_closed {e : Nat → Nat → Prop} {P : Nat → Prop} (hc : ∀ a b, P a → e a b → P b) {u v : Nat} (h : P u) (k : hg_R e u v) : P v := by
  obtain ⟨n, hn⟩ := k
  exact hg_rc_closed hc n u h hn
theorem hg_rc_back {e : Nat → Nat → Prop} {P : Nat → Prop} (hc : ∀ a b, P b → e a b → P a) {v : Nat} (h : P v) : ∀ (n u : Nat), hg_rc e n u v → P u
  | 0, u, hn => by
    have e1 : u = v := hn
    rw [e1]
    exact h
  | n + 1, u, hn => by
    obtain ⟨x, h1, h2⟩ := hn
    exact hc u x (hg_rc_back hc h n x h2) h1
theorem hg_R_back {e : Nat → Nat → Prop} {P : Nat → Prop} (hc : ∀ a b, P b → e a b → P a) {u v : Nat} (h : P v) (k : hg_R e u v) : P u := by
  obtain ⟨n, hn⟩ := k
  exact hg_rc_back hc h n u hn
/-- a round goes along any road between two that reach each other -/
theorem hg_O_pair {e : Nat → Nat → Prop} {u v : Nat} (hne : u ≠ v) (h : hg_R e u v) (k : hg_R e v u) : hg_O e u := by
  obtain ⟨n, hn⟩ := h
  cases n with
  | zero =>
    have e1 : u = v := hn
    exact absurd e1 hne
  | succ n =>
    obtain ⟨x, h1, h2⟩ := hn
    exact ⟨x, h1, hg_R_trans ⟨n, h2⟩ k⟩
theorem hg_R_congr {e e' : Nat → Nat → Prop} (h : ∀ a b, e a b → e' a b) {u v : Nat} (k : hg_R e u v) : hg_R e' u v :=
  hg_R_back (e := e) (P := fun x => hg_R e' x v) (fun a b hb hab => hg_R_step (h a b hab) hb) (hg_R_refl e' v) k
/-! counts -/
noncomputable def hg_b (P : Prop) : Nat := @ite Nat P (Classical.propDecidable P) 1 0
theorem hg_b_t {P : Prop} (h : P) : hg_b P = 1 := by
  unfold hg_b
  exact if_pos h
theorem hg_b_f {P : Prop} (h : ¬ P) : hg_b P = 0 := by
  unfold hg_b
  exact if_neg h
theorem hg_b_le (P : Prop) : hg_b P ≤ 1 := by
  by_cases h : P
  · rw [hg_b_t h]
    exact Nat.le_refl 1
  · rw [hg_b_f h]
    exact Nat.zero_le 1
/-- how many below n have P -/
noncomputable def hg_cn (P : Nat → Prop) : Nat → Nat
  | 0 => 0
  | n + 1 => hg_cn P n + hg_b (P n)
theorem hg_cn_s (P : Nat → Prop) (n : Nat) : hg_cn P (n + 1) = hg_cn P n + hg_b (P n) := rfl
theorem hg_cn_bd (P : Nat → Prop) : ∀ n, hg_cn P n ≤ n
  | 0 => Nat.le_refl 0
  | n + 1 => by
    have h1 := hg_cn_bd P n
    have h2 := hg_b_le (P n)
    rw [hg_cn_s]
    omega
theorem hg_b_mono {P Q : Prop} (h : P → Q) : hg_b P ≤ hg_b Q := by
  by_cases hp : P
  · rw [hg_b_t hp, hg_b_t (h hp)]
    exact Nat.le_refl 1
  · rw [hg_b_f hp]
    exact Nat.zero_le _
theorem hg_b_congr {P Q : Prop} (h : P ↔ Q) : hg_b P = hg_b Q := by
  have h1 := hg_b_mono h.1
  have h2 := hg_b_mono h.2
  omega
theorem hg_cn_le {P Q : Nat → Prop} : ∀ n, (∀ k, k < n → P k → Q k) → hg_cn P n ≤ hg_cn Q n
  | 0, _ => Nat.le_refl 0
  | n + 1, h => by
    have h1 := hg_cn_le n (fun k hk => h k (by omega))
    have h2 := hg_b_mono (h n (by omega))
    rw [hg_cn_s, hg_cn_s]
    omega
theorem hg_cn_congr {P Q : Nat → Prop} (n : Nat) (h : ∀ k, k < n → (P k ↔ Q k)) : hg_cn P n = hg_cn Q n := by
  have h1 := hg_cn_le n (fun k hk => (h k hk).1)
  have h2 := hg_cn_le n (fun k hk => (h k hk).2)
  omega
theorem hg_cn_lt {P Q : Nat → Prop} {x : Nat} (hx : ¬ P x) (hq : Q x) : ∀ n, x < n → (∀ k, k < n → P k → Q k) → hg_cn P n < hg_cn Q n
  | 0, hn, _ => by omega
  | n + 1, hn, h => by
    rw [hg_cn_s, hg_cn_s]
    by_cases e1 : x = n
    · subst e1
      have h1 := hg_cn_le x (fun k hk => h k (by omega))
      rw [hg_b_f hx, hg_b_t hq]
      omega
    · have h1 := hg_cn_lt hx hq n (by omega) (fun k hk => h k (by omega))
      have h2 := hg_b_mono (h n (by omega))
      omega
/-- one that isn't in comes in: one more -/
theorem hg_cn_add {P : Nat → Prop} {x : Nat} (hx : ¬ P x) : ∀ n, hg_cn (fun k => P k ∨ k = x) n = hg_cn P n + hg_b (x < n)
  | 0 => by
    rw [hg_b_f (by omega)]
    rfl
  | n + 1 => by
    have h1 := hg_cn_add hx n
    rw [hg_cn_s, hg_cn_s, h1]
    by_cases e1 : n = x
    · subst e1
      rw [hg_b_t (show P n ∨ n = n from Or.inr rfl), hg_b_f hx, hg_b_f (show ¬ n < n by omega), hg_b_t (show n < n + 1 by omega)]
    · have h2 : hg_b (P n ∨ n = x) = hg_b (P n) := hg_b_congr ⟨fun h => h.elim id (fun q => absurd q e1), Or.inl⟩
      have h3 : hg_b (x < n + 1) = hg_b (x < n) := hg_b_congr ⟨fun h => by omega, fun h => by omega⟩
      rw [h2, h3]
      omega
theorem hg_cn_room {P : Nat → Prop} {x n : Nat} (hx : ¬ P x) (hn : x < n) : hg_cn P n < n := by
  have h1 := hg_cn_lt (Q := fun _ => True) hx trivial n hn (fun _ _ _ => trivial)
  have h2 := hg_cn_bd (fun _ => True) n
  omega
theorem hg_cn_0 : ∀ n, hg_cn (fun _ => False) n = 0
  | 0 => rfl
  | n + 1 => by rw [hg_cn_s, hg_cn_0 n, hg_b_f (fun h => h)]
/-! ranks -/
/-- the greatest K of those below n that f has a step to -/
noncomputable def hg_mx (e : Nat → Nat → Prop) (K : Nat → Nat) (f : Nat) : Nat → Nat
  | 0 => 0
  | n + 1 => Nat.max (hg_mx e K f n) (hg_b (e f n) * K n)
theorem hg_mx_s (e : Nat → Nat → Prop) (K : Nat → Nat) (f n : Nat) : hg_mx e K f (n + 1) = Nat.max (hg_mx e K f n) (hg_b (e f n) * K n) := rfl
theorem hg_bK_t {P : Prop} (h : P) (k : Nat) : hg_b P * k = k := by rw [hg_b_t h, Nat.one_mul]
theorem hg_bK_f {P : Prop} (h : ¬ P) (k : Nat) : hg_b P * k = 0 := by rw [hg_b_f h, Nat.zero_mul]
theorem hg_mx_le {e : Nat → Nat → Prop} {K L : Nat → Nat} {f : Nat} : ∀ n, (∀ g, g < n → e f g → K g ≤ L g) → hg_mx e K f n ≤ hg_mx e L f n
  | 0, _ => Nat.le_refl 0
  | n + 1, h => by
    have h1 := hg_mx_le n (fun g hg => h g (by omega))
    have h2 : hg_b (e f n) * K n ≤ hg_b (e f n) * L n := by
      by_cases hp : e f n
      · rw [hg_bK_t hp, hg_bK_t hp]
        exact h n (by omega) hp
      · rw [hg_bK_f hp, hg_bK_f hp]
        exact Nat.le_refl 0
    rw [hg_mx_s, hg_mx_s]
    exact Nat.max_le.mpr ⟨Nat.le_trans h1 (Nat.le_max_left ..), Nat.le_trans h2 (Nat.le_max_right ..)⟩
theorem hg_mx_congr {e : Nat → Nat → Prop} {K L : Nat → Nat} {f : Nat} (n : Nat) (h : ∀ g, g < n → e f g → K g = L g) : hg_mx e K f n = hg_mx e L f n :=
  Nat.le_antisymm (hg_mx_le n (fun g hg he => Nat.le_of_eq (h g hg he))) (hg_mx_le n (fun g hg he => Nat.le_of_eq (h g hg he).symm))
/-- how many are reached from f in one step or more -/
noncomputable def hg_mu (e : Nat → Nat → Prop) (N f : Nat) : Nat := hg_cn (fun g => ∃ w, e f w ∧ hg_R e w g) N
theorem hg_mu_lt {e : Nat → Nat → Prop} {N f g : Nat} (h : e f g) (hg : g < N) (ho : ¬ hg_O e g) : hg_mu e N g < hg_mu e N f :=
  hg_cn_lt (P := fun k => ∃ w, e g w ∧ hg_R e w k) (Q := fun k => ∃ w, e f w ∧ hg_R e w k) (x := g) (fun q => ho q) ⟨g, h, hg_R_refl e g⟩ N hg (fun k _ q => by
    obtain ⟨w, h1, h2⟩ := q
    exact ⟨g, h, hg_R_step h1 h2⟩)
noncomputable def hg_kf (e : Nat → Nat → Prop) (N : Nat) : Nat → Nat → Nat
  | 0, _ => 0
  | t + 1, f => hg_b (¬ hg_O e f) * (1 + hg_mx e (hg_kf e N t) f N)
theorem hg_kf_s (e : Nat → Nat → Prop) (N t f : Nat) : hg_kf e N (t + 1) f = hg_b (¬ hg_O e f) * (1 + hg_mx e (hg_kf e N t) f N) := rfl
theorem hg_kf_O {e : Nat → Nat → Prop} {N f : Nat} (h : hg_O e f) : ∀ t, hg_kf e N t f = 0
  | 0 => rfl
  | t + 1 => by rw [hg_kf_s, hg_bK_f (fun q => q h)]
theorem hg_kf_st {e : Nat → Nat → Prop} {N : Nat} : ∀ (t t' f : Nat), hg_mu e N f < t → hg_mu e N f < t' → hg_kf e N t f = hg_kf e N t' f
  | 0, t', f, h, _ => by omega
  | t + 1, 0, f, _, h => by omega
  | t + 1, t' + 1, f, h, h' => by
    by_cases ho : hg_O e f
    · rw [hg_kf_O ho, hg_kf_O ho]
    · rw [hg_kf_s, hg_kf_s, hg_mx_congr N (fun g hg he => ?_)]
      by_cases hog : hg_O e g
      · rw [hg_kf_O hog, hg_kf_O hog]
      · have h1 := hg_mu_lt he hg hog
        exact hg_kf_st t t' g (by omega) (by omega)
/-- the rank: 0 on a round, else one more than the greatest of those that f has a step to -/
noncomputable def hg_K (e : Nat → Nat → Prop) (N f : Nat) : Nat := hg_kf e N (N + 1) f
theorem hg_K_eq (e : Nat → Nat → Prop) (N f : Nat) : hg_K e N f = hg_b (¬ hg_O e f) * (1 + hg_mx e (hg_K e N) f N) := by
  show hg_kf e N (N + 1) f = _
  by_cases ho : hg_O e f
  · rw [hg_kf_O ho, hg_bK_f (fun q => q ho)]
  · rw [hg_kf_s, hg_mx_congr (L := hg_K e N) N (fun g hg he => ?_)]
    show hg_kf e N N g = hg_kf e N (N + 1) g
    by_cases hog : hg_O e g
    · rw [hg_kf_O hog, hg_kf_O hog]
    · have h1 := hg_mu_lt he hg hog
      have h2 : hg_mu e N f ≤ N := hg_cn_bd _ N
      exact hg_kf_st N (N + 1) g (by omega) (by omega)
theorem hg_K_O {e : Nat → Nat → Prop} {N f : Nat} (h : hg_O e f) : hg_K e N f = 0 := hg_kf_O h (N + 1)
theorem hg_K_n {e : Nat → Nat → Prop} {N f : Nat} (h : ¬ hg_O e f) : hg_K e N f = 1 + hg_mx e (hg_K e N) f N := by rw [hg_K_eq, hg_bK_t h]
/-- who keeps the rule is the rank -/
theorem hg_K_one {e : Nat → Nat → Prop} {N : Nat} {L : Nat → Nat} (h0 : ∀ f, f < N → hg_O e f → L f = 0) (h1 : ∀ f, f < N → ¬ hg_O e f → L f = 1 + hg_mx e L f N) : ∀ (t f : Nat), hg_mu e N f < t → f < N → L f = hg_K e N f
  | 0, f, h, _ => by omega
  | t + 1, f, h, hf => by
    by_cases ho : hg_O e f
    · rw [h0 f hf ho, hg_K_O ho]
    · rw [h1 f hf ho, hg_K_n ho, hg_mx_congr N (fun g hg he => ?_)]
      by_cases hog : hg_O e g
      · rw [h0 g hg hog, hg_K_O hog]
      · have h2 := hg_mu_lt he hg hog
        exact hg_K_one h0 h1 t g (by omega) hg
theorem hg_K_uniq {e : Nat → Nat → Prop} {N : Nat} {L : Nat → Nat} (h0 : ∀ f, f < N → hg_O e f → L f = 0) (h1 : ∀ f, f < N → ¬ hg_O e f → L f = 1 + hg_mx e L f N) {f : Nat} (hf : f < N) : L f = hg_K e N f := hg_K_one h0 h1 (hg_mu e N f + 1) f (by omega) hf
/-! what is hit -/
/-- a set that holds the first ones, is closed backwards, and holds none without a road to a first one -/
theorem hg_hit_uniq {e : Nat → Nat → Prop} {h0 S : Nat → Prop} (ha : ∀ f, h0 f → S f) (hb : ∀ f g, e f g → S g → S f) (hc : ∀ f, S f → ∃ g, hg_R e f g ∧ h0 g) (f : Nat) : S f ↔ ∃ g, hg_R e f g ∧ h0 g :=
  ⟨hc f, fun q => by
    obtain ⟨g, h1, h2⟩ := q
    exact hg_R_back (P := S) (fun a b hs he => hb a b he hs) (ha g h2) h1⟩
/-! the sum of what is wanting, for loops that go on while something changes -/
def hg_sm (d : Nat → Nat) : Nat → Nat
  | 0 => 0
  | n + 1 => hg_sm d n + d n
theorem hg_sm_s (d : Nat → Nat) (n : Nat) : hg_sm d (n + 1) = hg_sm d n + d n := rfl
theorem hg_sm_le {d d' : Nat → Nat} : ∀ n, (∀ k, k < n → d k ≤ d' k) → hg_sm d n ≤ hg_sm d' n
  | 0, _ => Nat.le_refl 0
  | n + 1, h => by
    have h1 := hg_sm_le n (fun k hk => h k (by omega))
    have h2 := h n (by omega)
    rw [hg_sm_s, hg_sm_s]
    omega
theorem hg_sm_lt {d d' : Nat → Nat} {x : Nat} (hx : d x < d' x) : ∀ n, x < n → (∀ k, k < n → d k ≤ d' k) → hg_sm d n < hg_sm d' n
  | 0, hn, _ => by omega
  | n + 1, hn, h => by
    rw [hg_sm_s, hg_sm_s]
    have h2 := h n (by omega)
    by_cases e1 : x = n
    · subst e1
      have h1 := hg_sm_le x (fun k hk => h k (by omega))
      omega
    · have h1 := hg_sm_lt hx n (by omega) (fun k hk => h k (by omega))
      omega
end
section
/-! pure rows: the walk that finds the groups (numbers, lowest, path, open), one step a row; nodes are numbers; e u v: u hangs on v, both hit -/
/-- come to, and its group not closed -/
def hg_op (num : Nat → Nat) (stl : Nat → Prop) (u : Nat) : Prop := num u ≠ 0 ∧ ¬ stl u
def hg_on (path : Nat → Nat) (pl u : Nat) : Prop := ∃ k, k < pl ∧ path k = u
def hg_T (e : Nat → Nat → Prop) (hits : Nat → Nat) (hc : Nat) (num low look : Nat → Nat) (stl : Nat → Prop) (path : Nat → Nat) (pl : Nat) (opn : Nat → Nat) (oc last : Nat) : Prop :=
  (∀ u, stl u → num u ≠ 0) ∧
  (∀ u, num u ≤ last) ∧
  (∀ k, k < oc → hg_op num stl (opn k)) ∧
  (∀ u, hg_op num stl u → ∃ k, k < oc ∧ opn k = u) ∧
  (∀ i j, i < j → j < oc → num (opn i) < num (opn j)) ∧
  (∀ k, k < pl → hg_op num stl (path k)) ∧
  (∀ i j, i < j → j < pl → num (path i) < num (path j)) ∧
  (∀ u v, stl u → e u v → stl v) ∧
  (∀ k v, k < pl → hg_op num stl v → num (path k) ≤ num v → hg_R e (path k) v) ∧
  (∀ u, hg_op num stl u → low u ≤ num u ∧ ∃ w, hg_op num stl w ∧ num w = low u ∧ hg_R e u w) ∧
  (∀ u, hg_op num stl u → ¬ hg_on path pl u → low u < num u) ∧
  (∀ u i, hg_op num stl u → i < look u → i < hc → e u (hits i) → num (hits i) ≠ 0 ∧ (stl (hits i) ∨ low u ≤ num (hits i) ∨ ∃ k, k + 1 < pl ∧ path k = u ∧ path (k + 1) = hits i)) ∧
  (∀ u, hg_op num stl u → ¬ hg_on path pl u → hc ≤ look u) ∧
  (∀ k w, k < pl → hg_op num stl w → ¬ hg_on path pl w → num (path k) < num w → (k + 1 < pl → num w < num (path (k + 1))) → low (path k) ≤ low w) ∧
  (∀ u, 0 < pl → hg_op num stl u → num (path 0) ≤ num u) ∧
  (pl = 0 → oc = 0) ∧
  (∀ u, num u ≠ 0 → ∃ i, i < hc ∧ hits i = u) ∧
  (∀ u, num u = 0 → look u = 0)
section HGT
variable {e : Nat → Nat → Prop} {hits : Nat → Nat} {hc : Nat} {num low look : Nat → Nat} {stl : Nat → Prop} {path : Nat → Nat} {pl : Nat} {opn : Nat → Nat} {oc last : Nat}
theorem hg_T_0 (hn : ∀ u, num u = 0) (hk : ∀ u, look u = 0) (hs : ∀ u, ¬ stl u) : hg_T e hits hc num low look stl path 0 opn 0 last := by
  have no : ∀ u, ¬ hg_op num stl u := fun u h => h.1 (hn u)
  refine ⟨fun u h => absurd h (hs u), fun u => by rw [hn u]; exact Nat.zero_le _, fun k h => by omega, fun u h => absurd h (no u), fun i j _ h => by omega, fun k h => by omega, fun i j _ h => by omega, fun u v h => absurd h (hs u), fun k v h => by omega, fun u h => absurd h (no u), fun u h => absurd h (no u), fun u i h => absurd h (no u), fun u h => absurd h (no u), fun k w h => by omega, fun u h => by omega, fun _ => rfl, fun u h => absurd (hn u) h, fun u _ => hk u⟩
/-- two that are open have one number only if they are one -/
theorem hg_T_inj (hT : hg_T e hits hc num low look stl path pl opn oc last) {u v : Nat} (hu : hg_op num stl u) (hv : hg_op num stl v) (h : num u = num v) : u = v := by
  obtain ⟨-, -, -, t4, t5, -⟩ := hT
  obtain ⟨i, hi, e1⟩ := t4 u hu
  obtain ⟨j, hj, e2⟩ := t4 v hv
  rcases Nat.lt_trichotomy i j with q | q | q
  · have := t5 i j q hj
    rw [e1, e2] at this
    omega
  · rw [← e1, ← e2, q]
  · have := t5 j i q hi
    rw [e1, e2] at this
    omega
/-- a node is come to -/
theorem hg_T_enter {look' : Nat → Nat} {x : Nat} (hT : hg_T e hits hc num low look stl path pl opn oc last) (hx : num x = 0) (hxh : ∃ i, i < hc ∧ hits i = x)
    (hlk : ∀ u, ¬ hg_on path pl u → look' u = look u)
    (h12 : ∀ u i, hg_op num stl u → i < look' u → i < hc → e u (hits i) → (num (hits i) ≠ 0 ∧ (stl (hits i) ∨ low u ≤ num (hits i) ∨ ∃ k, k + 1 < pl ∧ path k = u ∧ path (k + 1) = hits i)) ∨ (hits i = x ∧ 0 < pl ∧ u = path (pl - 1)))
    (hpx : 0 < pl → e (path (pl - 1)) x) :
    hg_T e hits hc (va_up num x (last + 1)) (va_up low x (last + 1)) look' stl (va_up path pl x) (pl + 1) (va_up opn oc x) (oc + 1) (last + 1) := by
  obtain ⟨t1, t2, t3, t4, t5, t6, t7, t8, t9, t10, t11, t12, t13, t14, t15, t16, t17, t18⟩ := hT
  have ne : ∀ u, num u ≠ 0 → u ≠ x := fun u h q => h (by rw [q]; exact hx)
  have nx : va_up num x (last + 1) x = last + 1 := va_up_self ..
  have nu : ∀ u, u ≠ x → va_up num x (last + 1) u = num u := fun u h => va_up_ne _ _ h
  have lx : va_up low x (last + 1) x = last + 1 := va_up_self ..
  have lu : ∀ u, u ≠ x → va_up low x (last + 1) u = low u := fun u h => va_up_ne _ _ h
  have px : va_up path pl x pl = x := va_up_self ..
  have pk : ∀ k, k < pl → va_up path pl x k = path k := fun k h => va_up_ne _ _ (by omega)
  have ox : va_up opn oc x oc = x := va_up_self ..
  have ok : ∀ k, k < oc → va_up opn oc x k = opn k := fun k h => va_up_ne _ _ (by omega)
  have sx : ¬ stl x := fun q => t1 x q hx
  have opx : hg_op (va_up num x (last + 1)) stl x := ⟨by rw [nx]; omega, sx⟩
  have opu : ∀ u, hg_op num stl u → hg_op (va_up num x (last + 1)) stl u := fun u h => ⟨by rw [nu u (ne u h.1)]; exact h.1, h.2⟩
  have opo : ∀ u, u ≠ x → hg_op (va_up num x (last + 1)) stl u → hg_op num stl u := fun u hu h => ⟨by have := h.1; rw [nu u hu] at this; exact this, h.2⟩
  have nonx : ¬ hg_on path pl x := fun q => by
    obtain ⟨k, h1, h2⟩ := q
    exact (t6 k h1).1 (by rw [h2]; exact hx)
  have onx : hg_on (va_up path pl x) (pl + 1) x := ⟨pl, by omega, px⟩
  have onu : ∀ u, hg_on path pl u → hg_on (va_up path pl x) (pl + 1) u := fun u q => by
    obtain ⟨k, h1, h2⟩ := q
    exact ⟨k, by omega, by rw [pk k h1]; exact h2⟩
  have pne : ∀ k, k < pl → path k ≠ x := fun k h => ne _ (t6 k h).1
  have one : ∀ k, k < oc → opn k ≠ x := fun k h => ne _ (t3 k h).1
  refine ⟨?_, ?_, ?_, ?_, ?_, ?_, ?_, t8, ?_, ?_, ?_, ?_, ?_, ?_, ?_, fun h => by omega, ?_, ?_⟩
  · intro u h
    rw [nu u (ne u (t1 u h))]
    exact t1 u h
  · intro u
    by_cases q : u = x
    · rw [q, nx]
      exact Nat.le_refl _
    · rw [nu u q]
      exact Nat.le_succ_of_le (t2 u)
  · intro k h
    by_cases q : k = oc
    · rw [q, ox]
      exact opx
    · rw [ok k (by omega)]
      exact opu _ (t3 k (by omega))
  · intro u h
    by_cases q : u = x
    · exact ⟨oc, by omega, by rw [ox]; exact q.symm⟩
    · obtain ⟨k, h1, h2⟩ := t4 u (opo u q h)
      exact ⟨k, by omega, by rw [ok k h1]; exact h2⟩
  · intro i j hij hj
    by_cases q : j = oc
    · subst q
      rw [ox, nx, ok i hij, nu _ (one i hij)]
      exact Nat.lt_succ_of_le (t2 _)
    · rw [ok i (by omega), ok j (by omega), nu _ (one i (by omega)), nu _ (one j (by omega))]
      exact t5 i j hij (by omega)
  · intro k h
    by_cases q : k = pl
    · rw [q, px]
      exact opx
    · rw [pk k (by omega)]
      exact opu _ (t6 k (by omega))
  · intro i j hij hj
    by_cases q : j = pl
    · subst q
      rw [px, nx, pk i hij, nu _ (pne i hij)]
      exact Nat.lt_succ_of_le (t2 _)
    · rw [pk i (by omega), pk j (by omega), nu _ (pne i (by omega)), nu _ (pne j (by omega))]
      exact t7 i j hij (by omega)
  · intro k v h hv hle
    by_cases q : k = pl
    · rw [q, px] at hle ⊢
      rw [nx] at hle
      by_cases q2 : v = x
      · rw [q2]
        exact hg_R_refl e x
      · rw [nu v q2] at hle
        have := t2 v
        omega
    · have hk : k < pl := by omega
      rw [pk k hk] at hle ⊢
      rw [nu _ (pne k hk)] at hle
      by_cases q2 : v = x
      · rw [q2]
        have h1 : hg_R e (path k) (path (pl - 1)) := t9 k (path (pl - 1)) hk (t6 (pl - 1) (by omega)) (by
          by_cases q3 : k = pl - 1
          · rw [q3]
            exact Nat.le_refl _
          · exact Nat.le_of_lt (t7 k (pl - 1) (by omega) (by omega)))
        exact hg_R_trans h1 (hg_R_one (hpx (by omega)))
      · rw [nu v q2] at hle
        exact t9 k v hk (opo v q2 hv) hle
  · intro u h
    by_cases q : u = x
    · rw [q, lx, nx]
      exact ⟨Nat.le_refl _, x, opx, nx, hg_R_refl e x⟩
    · obtain ⟨h1, w, h2, h3, h4⟩ := t10 u (opo u q h)
      rw [lu u q, nu u q]
      exact ⟨h1, w, opu w h2, by rw [nu w (ne w h2.1)]; exact h3, h4⟩
  · intro u h hn
    have q : u ≠ x := fun q => hn (by rw [q]; exact onx)
    rw [lu u q, nu u q]
    exact t11 u (opo u q h) (fun z => hn (onu u z))
  · intro u i h hi hic he
    by_cases q : u = x
    · rw [q, hlk x nonx, t18 x hx] at hi
      omega
    · rcases h12 u i (opo u q h) hi hic he with ⟨g1, g2⟩ | ⟨g1, g2, g3⟩
      · have q2 := ne _ g1
        rw [nu _ q2, lu u q]
        refine ⟨g1, ?_⟩
        rcases g2 with g2 | g2 | ⟨k, g2, g3, g4⟩
        · exact Or.inl g2
        · exact Or.inr (Or.inl g2)
        · exact Or.inr (Or.inr ⟨k, by omega, by rw [pk k (by omega)]; exact g3, by rw [pk (k + 1) g2]; exact g4⟩)
      · rw [g1, nx]
        refine ⟨by omega, Or.inr (Or.inr ⟨pl - 1, by omega, ?_, ?_⟩)⟩
        · rw [pk (pl - 1) (by omega)]
          exact g3.symm
        · rw [show pl - 1 + 1 = pl by omega]
          exact px
  · intro u h hn
    have q : u ≠ x := fun q => hn (by rw [q]; exact onx)
    have hn' : ¬ hg_on path pl u := fun z => hn (onu u z)
    rw [hlk u hn']
    exact t13 u (opo u q h) hn'
  · intro k w h hw hn hlt hnext
    have q : w ≠ x := fun q => hn (by rw [q]; exact onx)
    rw [nu w q] at hlt hnext
    by_cases q2 : k = pl
    · rw [q2, px, nx] at hlt
      have := t2 w
      omega
    · have hk : k < pl := by omega
      rw [pk k hk] at hlt ⊢
      rw [nu _ (pne k hk)] at hlt
      rw [lu _ (pne k hk), lu w q]
      refine t14 k w hk (opo w q hw) (fun z => hn (onu w z)) hlt (fun h2 => ?_)
      have h3 := hnext (by omega)
      rw [pk (k + 1) h2, nu _ (pne (k + 1) h2)] at h3
      exact h3
  · intro u _ h
    by_cases q0 : pl = 0
    · subst q0
      rw [px, nx]
      by_cases q : u = x
      · rw [q, nx]
        exact Nat.le_refl _
      · obtain ⟨k, h1, -⟩ := t4 u (opo u q h)
        have := t16 rfl
        omega
    · have h0 : 0 < pl := by omega
      rw [pk 0 h0, nu _ (pne 0 h0)]
      by_cases q : u = x
      · rw [q, nx]
        exact Nat.le_succ_of_le (t2 _)
      · rw [nu u q]
        exact t15 u h0 (opo u q h)
  · intro u h
    by_cases q : u = x
    · rw [q]
      exact hxh
    · rw [nu u q] at h
      exact t17 u h
  · intro u h
    have q : u ≠ x := fun q => by
      rw [q, nx] at h
      omega
    rw [nu u q] at h
    rw [hlk u (fun z => by
      obtain ⟨k, h1, h2⟩ := z
      exact (t6 k h1).1 (by rw [h2]; exact h))]
    exact t18 u h
/-- the next one below is settled, or no step goes there -/
theorem hg_T_skip (hT : hg_T e hits hc num low look stl path pl opn oc last) {v i : Nat} (h0 : 0 < pl) (hv : path (pl - 1) = v) (hi : look v = i) (hs : i < hc → e v (hits i) → stl (hits i)) : hg_T e hits hc num low (va_up look v (i + 1)) stl path pl opn oc last := by
  obtain ⟨t1, t2, t3, t4, t5, t6, t7, t8, t9, t10, t11, t12, t13, t14, t15, t16, t17, t18⟩ := hT
  refine ⟨t1, t2, t3, t4, t5, t6, t7, t8, t9, t10, t11, ?_, ?_, t14, t15, t16, t17, ?_⟩
  · intro u j h hj hjc he
    by_cases q : u = v
    · subst q
      rw [va_up_self] at hj
      by_cases q2 : j = i
      · subst q2
        have h1 := hs hjc he
        exact ⟨t1 _ h1, Or.inl h1⟩
      · exact t12 u j h (by omega) hjc he
    · rw [va_up_ne _ _ q] at hj
      exact t12 u j h hj hjc he
  · intro u h hn
    by_cases q : u = v
    · exact absurd ⟨pl - 1, by omega, by rw [q]; exact hv⟩ hn
    · rw [va_up_ne _ _ q]
      exact t13 u h hn
  · intro u h
    by_cases q : u = v
    · have := (t6 (pl - 1) (by omega)).1
      rw [hv, ← q] at this
      exact absurd h this
    · rw [va_up_ne _ _ q]
      exact t18 u h
/-- the next one below is open: the lowest number is told -/
theorem hg_T_lower (hT : hg_T e hits hc num low look stl path pl opn oc last) {v i : Nat} (h0 : 0 < pl) (hv : path (pl - 1) = v) (hi : look v = i) (he : e v (hits i)) (hn0 : num (hits i) ≠ 0) (hs : ¬ stl (hits i)) : hg_T e hits hc num (va_up low v (Nat.min (low v) (num (hits i)))) (va_up look v (i + 1)) stl path pl opn oc last := by
  obtain ⟨t1, t2, t3, t4, t5, t6, t7, t8, t9, t10, t11, t12, t13, t14, t15, t16, t17, t18⟩ := hT
  have opv : hg_op num stl v := by rw [← hv]; exact t6 (pl - 1) (by omega)
  have onv : hg_on path pl v := ⟨pl - 1, by omega, hv⟩
  have lle : ∀ u, va_up low v (Nat.min (low v) (num (hits i))) u ≤ low u := fun u => by
    by_cases q : u = v
    · rw [q, va_up_self]
      exact Nat.min_le_left ..
    · rw [va_up_ne _ _ q]
      exact Nat.le_refl _
  refine ⟨t1, t2, t3, t4, t5, t6, t7, t8, t9, ?_, ?_, ?_, ?_, ?_, t15, t16, t17, ?_⟩
  · intro u h
    by_cases q : u = v
    · subst q
      obtain ⟨h1, w, h2, h3, h4⟩ := t10 u h
      rw [va_up_self]
      refine ⟨Nat.le_trans (Nat.min_le_left ..) h1, ?_⟩
      rcases Nat.le_total (low u) (num (hits i)) with q2 | q2
      · exact ⟨w, h2, by rw [h3]; exact (Nat.min_eq_left q2).symm, h4⟩
      · exact ⟨hits i, ⟨hn0, hs⟩, (Nat.min_eq_right q2).symm, hg_R_one he⟩
    · rw [va_up_ne _ _ q]
      exact t10 u h
  · intro u h hn
    exact Nat.lt_of_le_of_lt (lle u) (t11 u h hn)
  · intro u j h hj hjc he2
    by_cases q : u = v
    · subst q
      rw [va_up_self] at hj
      by_cases q2 : j = i
      · subst q2
        refine ⟨hn0, Or.inr (Or.inl ?_)⟩
        rw [va_up_self]
        exact Nat.min_le_right ..
      · obtain ⟨g1, g2⟩ := t12 u j h (by omega) hjc he2
        refine ⟨g1, ?_⟩
        rcases g2 with g2 | g2 | g2
        · exact Or.inl g2
        · exact Or.inr (Or.inl (Nat.le_trans (lle u) g2))
        · exact Or.inr (Or.inr g2)
    · rw [va_up_ne _ _ q] at hj
      rw [va_up_ne _ _ q]
      exact t12 u j h hj hjc he2
  · intro u h hn
    by_cases q : u = v
    · exact absurd (by rw [q]; exact onv) hn
    · rw [va_up_ne _ _ q]
      exact t13 u h hn
  · intro k w h hw hn hlt hnext
    have q : w ≠ v := fun q => hn (by rw [q]; exact onv)
    rw [va_up_ne _ _ q]
    exact Nat.le_trans (lle _) (t14 k w h hw hn hlt hnext)
  · intro u h
    by_cases q : u = v
    · rw [q] at h
      exact absurd h opv.1
    · rw [va_up_ne _ _ q]
      exact t18 u h
/-- the walk goes back from v, whose group isn't closed: there is one above it -/
theorem hg_T_up (hT : hg_T e hits hc num low look stl path pl opn oc last) {v : Nat} (h0 : 0 < pl) (hv : path (pl - 1) = v) (hne : low v ≠ num v) : 2 ≤ pl := by
  obtain ⟨t1, t2, t3, t4, t5, t6, t7, t8, t9, t10, t11, t12, t13, t14, t15, t16, t17, t18⟩ := hT
  have opv : hg_op num stl v := by rw [← hv]; exact t6 (pl - 1) (by omega)
  obtain ⟨h1, w, h2, h3, -⟩ := t10 v opv
  have h4 := t15 w h0 h2
  by_cases q : pl = 1
  · subst q
    have hv' : path 0 = v := hv
    rw [hv'] at h4
    omega
  · omega
theorem hg_T_leave {q : Nat} (hT : hg_T e hits hc num low look stl path (q + 2) opn oc last) {v p : Nat} (hv : path (q + 1) = v) (hp : path q = p) (hlk : hc ≤ look v) (hne : low v ≠ num v) : hg_T e hits hc num (va_up low p (Nat.min (low p) (low v))) look stl path (q + 1) opn oc last := by
  have inj := @hg_T_inj _ _ _ _ _ _ _ _ _ _ _ _ hT
  obtain ⟨t1, t2, t3, t4, t5, t6, t7, t8, t9, t10, t11, t12, t13, t14, t15, t16, t17, t18⟩ := hT
  have opv : hg_op num stl v := by rw [← hv]; exact t6 (q + 1) (by omega)
  have opp : hg_op num stl p := by rw [← hp]; exact t6 q (by omega)
  have npv : num p < num v := by rw [← hp, ← hv]; exact t7 q (q + 1) (by omega) (by omega)
  have hlt : low v < num v := by have := (t10 v opv).1; omega
  have lle : ∀ u, va_up low p (Nat.min (low p) (low v)) u ≤ low u := fun u => by
    by_cases z : u = p
    · rw [z, va_up_self]
      exact Nat.min_le_left ..
    · rw [va_up_ne _ _ z]
      exact Nat.le_refl _
  have lpv : va_up low p (Nat.min (low p) (low v)) p ≤ low v := by rw [va_up_self]; exact Nat.min_le_right ..
  have onp : hg_on path (q + 1) p := ⟨q, by omega, hp⟩
  have onw : ∀ u, hg_on path (q + 2) u → u = v ∨ hg_on path (q + 1) u := fun u z => by
    obtain ⟨k, h1, h2⟩ := z
    by_cases z2 : k = q + 1
    · subst z2
      exact Or.inl (h2.symm.trans hv)
    · exact Or.inr ⟨k, by omega, h2⟩
  have vne : v ≠ p := fun z => by rw [z] at npv; omega
  refine ⟨t1, t2, t3, t4, t5, fun k h => t6 k (by omega), fun i j hij hj => t7 i j hij (by omega), t8, fun k w h hw hle => t9 k w (by omega) hw hle, ?_, ?_, ?_, ?_, ?_, fun u _ h => t15 u (by omega) h, fun h => by omega, t17, t18⟩
  · intro u h
    by_cases z : u = p
    · subst z
      obtain ⟨h1, w, h2, h3, h4⟩ := t10 u h
      obtain ⟨-, w2, g2, g3, g4⟩ := t10 v opv
      rw [va_up_self]
      refine ⟨Nat.le_trans (Nat.min_le_left ..) h1, ?_⟩
      rcases Nat.le_total (low u) (low v) with z2 | z2
      · exact ⟨w, h2, by rw [h3]; exact (Nat.min_eq_left z2).symm, h4⟩
      · refine ⟨w2, g2, by rw [g3]; exact (Nat.min_eq_right z2).symm, hg_R_trans ?_ g4⟩
        rw [← hp]
        exact t9 q v (by omega) opv (by rw [hp]; omega)
    · rw [va_up_ne _ _ z]
      exact t10 u h
  · intro u h hn
    by_cases z : u = v
    · rw [z, va_up_ne _ _ vne]
      exact hlt
    · exact Nat.lt_of_le_of_lt (lle u) (t11 u h (fun z2 => (onw u z2).elim z hn))
  · intro u i h hi hic he
    obtain ⟨g1, g2⟩ := t12 u i h hi hic he
    refine ⟨g1, ?_⟩
    rcases g2 with g2 | g2 | ⟨k, g2, g3, g4⟩
    · exact Or.inl g2
    · exact Or.inr (Or.inl (Nat.le_trans (lle u) g2))
    · by_cases z : k = q
      · subst z
        refine Or.inr (Or.inl ?_)
        rw [← g3, hp, ← g4, hv]
        exact Nat.le_trans lpv (Nat.le_of_lt hlt)
      · exact Or.inr (Or.inr ⟨k, by omega, g3, g4⟩)
  · intro u h hn
    by_cases z : u = v
    · rw [z]
      exact hlk
    · exact t13 u h (fun z2 => (onw u z2).elim z hn)
  · intro k w h hw hn hlt2 hnext
    have wp : w ≠ p := fun z => hn (by rw [z]; exact onp)
    rw [va_up_ne _ _ wp]
    by_cases zk : k = q
    · subst zk
      rw [hp] at hlt2 ⊢
      by_cases zw : w = v
      · rw [zw]
        exact lpv
      · have hn2 : ¬ hg_on path (k + 2) w := fun z2 => (onw w z2).elim zw hn
        rcases Nat.lt_trichotomy (num w) (num v) with z | z | z
        · refine Nat.le_trans (lle p) ?_
          have := t14 k w (by omega) hw hn2 (by rw [hp]; exact hlt2) (fun _ => by rw [hv]; exact z)
          rw [hp] at this
          exact this
        · exact absurd (inj hw opv z) zw
        · refine Nat.le_trans lpv ?_
          have := t14 (k + 1) w (by omega) hw hn2 (by rw [hv]; exact z) (fun z3 => by omega)
          rw [hv] at this
          exact this
    · have hk2 := hnext (by omega)
      have zw : w ≠ v := fun z => by
        rw [z] at hk2
        by_cases z3 : k + 1 = q + 1
        · omega
        · have := t7 (k + 1) (q + 1) (by omega) (by omega)
          rw [hv] at this
          omega
      exact Nat.le_trans (lle _) (t14 k w (by omega) hw (fun z2 => (onw w z2).elim zw hn) hlt2 (fun _ => hk2))
/-- the group of v: what is open from v on -/
def hg_G (num : Nat → Nat) (stl : Nat → Prop) (v w : Nat) : Prop := hg_op num stl w ∧ num v ≤ num w
theorem hg_T_fin (hT : hg_T e hits hc num low look stl path pl opn oc last) {v w : Nat} (h0 : 0 < pl) (hv : path (pl - 1) = v) (hw : hg_G num stl v w) (hne : w ≠ v) : ¬ hg_on path pl w ∧ num v < num w ∧ low v ≤ low w := by
  have inj := @hg_T_inj _ _ _ _ _ _ _ _ _ _ _ _ hT
  obtain ⟨t1, t2, t3, t4, t5, t6, t7, t8, t9, t10, t11, t12, t13, t14, t15, t16, t17, t18⟩ := hT
  have opv : hg_op num stl v := by rw [← hv]; exact t6 (pl - 1) (by omega)
  have hn : ¬ hg_on path pl w := fun z => by
    obtain ⟨k, h1, h2⟩ := z
    by_cases z2 : k = pl - 1
    · rw [z2, hv] at h2
      exact hne h2.symm
    · have := t7 k (pl - 1) (by omega) (by omega)
      rw [h2, hv] at this
      have := hw.2
      omega
  have hlt : num v < num w := by
    have h1 := hw.2
    by_cases z : num v = num w
    · exact absurd (inj opv hw.1 z).symm hne
    · omega
  refine ⟨hn, hlt, ?_⟩
  have := t14 (pl - 1) w (by omega) hw.1 hn (by rw [hv]; exact hlt) (fun z => by omega)
  rw [hv] at this
  exact this
/-- no step leaves the group but to what is settled -/
theorem hg_T_out (hT : hg_T e hits hc num low look stl path pl opn oc last) (hee : ∀ a b, e a b → ∃ i, i < hc ∧ hits i = b) {v : Nat} (h0 : 0 < pl) (hv : path (pl - 1) = v) (hlk : hc ≤ look v) (heq : low v = num v) {u x : Nat} (hu : hg_G num stl v u) (he : e u x) : stl x ∨ hg_G num stl v x := by
  have fin := fun w (hw : hg_G num stl v w) (hne : w ≠ v) => hg_T_fin hT h0 hv hw hne
  obtain ⟨t1, t2, t3, t4, t5, t6, t7, t8, t9, t10, t11, t12, t13, t14, t15, t16, t17, t18⟩ := hT
  obtain ⟨i, hi, ei⟩ := hee u x he
  have hlow : num v ≤ low u := by
    by_cases z : u = v
    · rw [z, heq]
      exact Nat.le_refl _
    · rw [← heq]
      exact (fin u hu z).2.2
  have hlook : hc ≤ look u := by
    by_cases z : u = v
    · rw [z]
      exact hlk
    · exact t13 u hu.1 (fin u hu z).1
  obtain ⟨g1, g2⟩ := t12 u i hu.1 (by omega) hi (by rw [ei]; exact he)
  rw [ei] at g1 g2
  by_cases hs : stl x
  · exact Or.inl hs
  · refine Or.inr ⟨⟨g1, hs⟩, ?_⟩
    rcases g2 with g2 | g2 | ⟨k, g2, g3, g4⟩
    · exact absurd g2 hs
    · omega
    · exfalso
      have := hu.2
      have h3 : num u < num v := by
        rw [← g3, ← hv]
        exact t7 k (pl - 1) (by omega) (by omega)
      omega
theorem hg_T_back (hT : hg_T e hits hc num low look stl path pl opn oc last) {v : Nat} (h0 : 0 < pl) (hv : path (pl - 1) = v) (heq : low v = num v) : ∀ (n w : Nat), num w < n → hg_G num stl v w → hg_R e w v
  | 0, w, h, _ => by omega
  | n + 1, w, h, hw => by
    by_cases z : w = v
    · rw [z]
      exact hg_R_refl e v
    · obtain ⟨f1, f2, f3⟩ := hg_T_fin hT h0 hv hw z
      have hlow := hT.2.2.2.2.2.2.2.2.2.2.1 w hw.1 f1
      obtain ⟨-, w2, g2, g3, g4⟩ := hT.2.2.2.2.2.2.2.2.2.1 w hw.1
      exact hg_R_trans g4 (hg_T_back hT h0 hv heq n w2 (by omega) ⟨g2, by omega⟩)
theorem hg_T_down (hT : hg_T e hits hc num low look stl path pl opn oc last) {v w : Nat} (h0 : 0 < pl) (hv : path (pl - 1) = v) (hw : hg_G num stl v w) : hg_R e v w := by
  have t9 := hT.2.2.2.2.2.2.2.2.1
  have := t9 (pl - 1) w (by omega) hw.1 (by rw [hv]; exact hw.2)
  rw [hv] at this
  exact this
/-- the group of v is closed -/
theorem hg_T_close (hT : hg_T e hits hc num low look stl path pl opn oc last) (hee : ∀ a b, e a b → ∃ i, i < hc ∧ hits i = b) {v oc' : Nat} {stl' : Nat → Prop} (h0 : 0 < pl) (hv : path (pl - 1) = v) (hlk : hc ≤ look v) (heq : low v = num v)
    (hs : ∀ u, stl' u ↔ stl u ∨ hg_G num stl v u) (ho : oc' ≤ oc) (hlo : ∀ k, k < oc' → num (opn k) < num v) (hhi : ∀ k, oc' ≤ k → k < oc → num v ≤ num (opn k)) : hg_T e hits hc num low look stl' path (pl - 1) opn oc' last := by
  have out := fun u x (hu : hg_G num stl v u) (he : e u x) => hg_T_out hT hee h0 hv hlk heq hu he
  obtain ⟨t1, t2, t3, t4, t5, t6, t7, t8, t9, t10, t11, t12, t13, t14, t15, t16, t17, t18⟩ := hT
  have opv : hg_op num stl v := by rw [← hv]; exact t6 (pl - 1) (by omega)
  have gv : hg_G num stl v v := ⟨opv, Nat.le_refl _⟩
  have opo : ∀ u, hg_op num stl' u → hg_op num stl u ∧ num u < num v := fun u h => by
    have h1 : hg_op num stl u := ⟨h.1, fun z => h.2 ((hs u).2 (Or.inl z))⟩
    refine ⟨h1, ?_⟩
    by_cases z : num v ≤ num u
    · exact absurd ((hs u).2 (Or.inr ⟨h1, z⟩)) h.2
    · omega
  have opn' : ∀ u, hg_op num stl u → num u < num v → hg_op num stl' u := fun u h hl => ⟨h.1, fun z => ((hs u).1 z).elim h.2 (fun z2 => by have := z2.2; omega)⟩
  have vno : ∀ u, hg_op num stl' u → u ≠ v := fun u h z => by
    have := (opo u h).2
    rw [z] at this
    omega
  have onw : ∀ u, hg_on path pl u → u = v ∨ hg_on path (pl - 1) u := fun u z => by
    obtain ⟨k, h1, h2⟩ := z
    by_cases z2 : k = pl - 1
    · subst z2
      exact Or.inl (h2.symm.trans hv)
    · exact Or.inr ⟨k, by omega, h2⟩
  refine ⟨?_, t2, ?_, ?_, fun i j hij hj => t5 i j hij (by omega), ?_, fun i j hij hj => t7 i j hij (by omega), ?_, ?_, ?_, ?_, ?_, ?_, ?_, ?_, ?_, t17, t18⟩
  · intro u h
    rcases (hs u).1 h with z | z
    · exact t1 u z
    · exact z.1.1
  · intro k h
    exact opn' _ (t3 k (by omega)) (hlo k h)
  · intro u h
    obtain ⟨h1, h2⟩ := opo u h
    obtain ⟨k, h3, h4⟩ := t4 u h1
    refine ⟨k, ?_, h4⟩
    by_cases z : k < oc'
    · exact z
    · have := hhi k (by omega) h3
      rw [h4] at this
      omega
  · intro k h
    refine opn' _ (t6 k (by omega)) ?_
    rw [← hv]
    exact t7 k (pl - 1) h (by omega)
  · intro u x h he
    rcases (hs u).1 h with z | z
    · exact (hs x).2 (Or.inl (t8 u x z he))
    · exact (hs x).2 (out u x z he)
  · intro k w h hw hle
    exact t9 k w (by omega) (opo w hw).1 hle
  · intro u h
    obtain ⟨h1, h2⟩ := opo u h
    obtain ⟨g1, w, g2, g3, g4⟩ := t10 u h1
    exact ⟨g1, w, opn' w g2 (by omega), g3, g4⟩
  · intro u h hn
    exact t11 u (opo u h).1 (fun z => (onw u z).elim (vno u h) hn)
  · intro u i h hi hic he
    obtain ⟨g1, g2⟩ := t12 u i (opo u h).1 hi hic he
    refine ⟨g1, ?_⟩
    rcases g2 with g2 | g2 | ⟨k, g2, g3, g4⟩
    · exact Or.inl ((hs _).2 (Or.inl g2))
    · exact Or.inr (Or.inl g2)
    · by_cases z : k + 1 = pl - 1
      · refine Or.inl ((hs _).2 (Or.inr ?_))
        rw [← g4, z, hv]
        exact gv
      · exact Or.inr (Or.inr ⟨k, by omega, g3, g4⟩)
  · intro u h hn
    exact t13 u (opo u h).1 (fun z => (onw u z).elim (vno u h) hn)
  · intro k w h hw hn hlt hnext
    refine t14 k w (by omega) (opo w hw).1 (fun z => (onw w z).elim (vno w hw) hn) hlt (fun z => ?_)
    by_cases z2 : k + 1 = pl - 1
    · rw [z2, hv]
      exact (opo w hw).2
    · exact hnext (by omega)
  · intro u h hu
    exact t15 u h0 (opo u hu).1
  · intro h
    by_cases z : oc' = 0
    · exact z
    · exfalso
      have h1 := hlo 0 (by omega)
      have h2 := t15 (opn 0) h0 (t3 0 (by omega))
      have h3 : path 0 = v := by
        rw [← hv]
        congr 1
        omega
      rw [h3] at h2
      omega
/-- what the closing tells: rounds -/
theorem hg_T_round (hT : hg_T e hits hc num low look stl path pl opn oc last) {v : Nat} (h0 : 0 < pl) (hv : path (pl - 1) = v) (heq : low v = num v) (hbig : e v v ∨ ∃ w, hg_G num stl v w ∧ w ≠ v) {u : Nat} (hu : hg_G num stl v u) : hg_O e u := by
  have back := fun w (hw : hg_G num stl v w) => hg_T_back hT h0 hv heq (num w + 1) w (by omega) hw
  have down := fun w (hw : hg_G num stl v w) => hg_T_down hT h0 hv hw
  by_cases z : u = v
  · subst z
    rcases hbig with h | ⟨w, h1, h2⟩
    · exact ⟨u, h, hg_R_refl e u⟩
    · exact hg_O_pair (Ne.symm h2) (down w h1) (back w h1)
  · exact hg_O_pair z (back u hu) (down u hu)
/-- and none where v is alone and has no step to itself; all below it are settled -/
theorem hg_T_alone (hT : hg_T e hits hc num low look stl path pl opn oc last) (hee : ∀ a b, e a b → ∃ i, i < hc ∧ hits i = b) {v : Nat} (h0 : 0 < pl) (hv : path (pl - 1) = v) (hlk : hc ≤ look v) (heq : low v = num v) (hno : ¬ e v v) (hal : ∀ w, hg_G num stl v w → w = v) : ¬ hg_O e v ∧ ∀ x, e v x → stl x := by
  have t6 := hT.2.2.2.2.2.1
  have t8 := hT.2.2.2.2.2.2.2.1
  have opv : hg_op num stl v := by rw [← hv]; exact t6 (pl - 1) (by omega)
  have all : ∀ x, e v x → stl x := fun x he => by
    rcases hg_T_out hT hee h0 hv hlk heq ⟨opv, Nat.le_refl _⟩ he with z | z
    · exact z
    · exact absurd (by rw [hal x z] at he; exact he) hno
  refine ⟨fun z => ?_, all⟩
  obtain ⟨w, h1, h2⟩ := z
  exact opv.2 (hg_R_closed (P := stl) (fun a b h he => t8 a b h he) (all w h1) h2)
end HGT
end
section
/-! pure rows for the reference's own loops: the queue of comesBack, the hit loop, the rank loop -/
/-- f: where it began; met: what was queued behind it; q, size: the queue; at: how many of it are done -/
def hg_C (e : Nat → Nat → Prop) (N f : Nat) (met : Nat → Prop) (q : Nat → Nat) (size at1 : Nat) : Prop :=
  q 0 = f ∧ 1 ≤ size ∧
  (∀ k, 1 ≤ k → k < size → met (q k)) ∧
  (∀ g, met g → g < N ∧ g ≠ f ∧ (∃ k, 1 ≤ k ∧ k < size ∧ q k = g) ∧ ∃ w, e f w ∧ hg_R e w g) ∧
  hg_cn (fun g => met g ∨ g = f) N = size ∧
  (∀ k g, k < at1 → k < size → e (q k) g → met g)
section HGC
variable {e : Nat → Nat → Prop} {N f : Nat} {met : Nat → Prop} {q : Nat → Nat} {size at1 : Nat}
theorem hg_C_0 (hf : f < N) (hm : ∀ g, ¬ met g) (hq : q 0 = f) : hg_C e N f met q 1 0 := by
  refine ⟨hq, Nat.le_refl 1, fun k h1 h2 => by omega, fun g h => absurd h (hm g), ?_, fun k g h => by omega⟩
  have h1 : hg_cn (fun g => met g ∨ g = f) N = hg_cn (fun g => (fun _ => False) g ∨ g = f) N := hg_cn_congr N (fun k _ => ⟨fun h => h.elim (fun z => absurd z (hm k)) Or.inr, fun h => h.elim (fun z => z.elim) Or.inr⟩)
  rw [h1, hg_cn_add (P := fun _ => False) (fun z => z) N, hg_cn_0, hg_b_t hf]
/-- what the queue holds is reached -/
theorem hg_C_at (h : hg_C e N f met q size at1) {k : Nat} (hk : k < size) : q k = f ∨ ∃ w, e f w ∧ hg_R e w (q k) := by
  obtain ⟨h1, h2, h3, h4, h5, h6⟩ := h
  by_cases z : k = 0
  · subst z
    exact Or.inl h1
  · exact Or.inr (h4 _ (h3 k (by omega) hk)).2.2.2
theorem hg_C_lt (h : hg_C e N f met q size at1) (hf : f < N) {k : Nat} (hk : k < size) : q k < N := by
  obtain ⟨h1, h2, h3, h4, h5, h6⟩ := h
  by_cases z : k = 0
  · subst z
    rw [h1]
    exact hf
  · exact (h4 _ (h3 k (by omega) hk)).1
theorem hg_C_ret (h : hg_C e N f met q size at1) {k : Nat} (hk : k < size) (he : e (q k) f) : hg_O e f := by
  rcases hg_C_at h hk with z | ⟨w, h1, h2⟩
  · rw [z] at he
    exact ⟨f, he, hg_R_refl e f⟩
  · exact ⟨w, h1, hg_R_trans h2 (hg_R_one he)⟩
theorem hg_C_add (h : hg_C e N f met q size at1) {g : Nat} (ha : at1 < size) (he : e (q at1) g) (hg : g < N) (hm : ¬ met g) (hf : g ≠ f) : size < N ∧ hg_C e N f (fun k => met k ∨ k = g) (va_up q size g) (size + 1) at1 := by
  have hat := hg_C_at h ha
  obtain ⟨h1, h2, h3, h4, h5, h6⟩ := h
  have hno : ¬ (met g ∨ g = f) := fun z => z.elim hm hf
  have hsz : size < N := by
    rw [← h5]
    exact hg_cn_room hno hg
  have qk : ∀ k, k < size → va_up q size g k = q k := fun k hk => va_up_ne _ _ (by omega)
  have qs : va_up q size g size = g := va_up_self ..
  refine ⟨hsz, by rw [qk 0 (by omega)]; exact h1, by omega, fun k g1 g2 => ?_, fun x hx => ?_, ?_, fun k x g1 g2 g3 => ?_⟩
  · by_cases z : k = size
    · rw [z, qs]
      exact Or.inr rfl
    · rw [qk k (by omega)]
      exact Or.inl (h3 k g1 (by omega))
  · rcases hx with z | z
    · obtain ⟨a1, a2, ⟨k, b1, b2, b3⟩, a4⟩ := h4 x z
      exact ⟨a1, a2, ⟨k, b1, by omega, by rw [qk k b2]; exact b3⟩, a4⟩
    · subst z
      refine ⟨hg, hf, ⟨size, h2, by omega, qs⟩, ?_⟩
      rcases hat with y | ⟨w, y1, y2⟩
      · rw [y] at he
        exact ⟨x, he, hg_R_refl e x⟩
      · exact ⟨w, y1, hg_R_trans y2 (hg_R_one he)⟩
  · have a1 : hg_cn (fun k => (met k ∨ k = g) ∨ k = f) N = hg_cn (fun k => (met k ∨ k = f) ∨ k = g) N := hg_cn_congr N (fun k _ => ⟨fun z => z.elim (fun y => y.elim (fun x => Or.inl (Or.inl x)) Or.inr) (fun y => Or.inl (Or.inr y)), fun z => z.elim (fun y => y.elim (fun x => Or.inl (Or.inl x)) Or.inr) (fun y => Or.inl (Or.inr y))⟩)
    rw [a1, hg_cn_add (P := fun k => met k ∨ k = f) hno N, h5, hg_b_t hg]
  · have hk : k < size := by omega
    rw [qk k hk] at g3
    exact Or.inl (h6 k x g1 hk g3)
theorem hg_C_done (h : hg_C e N f met q size at1) (hn : ∀ g, e (q at1) g → met g) : hg_C e N f met q size (at1 + 1) := by
  obtain ⟨h1, h2, h3, h4, h5, h6⟩ := h
  refine ⟨h1, h2, h3, h4, h5, fun k g g1 g2 g3 => ?_⟩
  by_cases z : k = at1
  · rw [z] at g3
    exact hn g g3
  · exact h6 k g (by omega) g2 g3
theorem hg_C_end (h : hg_C e N f met q size size) : ¬ hg_O e f := by
  obtain ⟨h1, h2, h3, h4, h5, h6⟩ := h
  intro z
  obtain ⟨w, g1, g2⟩ := z
  have hw : met w := h6 0 w (by omega) (by omega) (by rw [h1]; exact g1)
  have hf : met f := hg_R_closed (P := met) (fun a b ha hab => by
    obtain ⟨-, -, ⟨k, b1, b2, b3⟩, -⟩ := h4 a ha
    exact h6 k b b2 b2 (by rw [b3]; exact hab)) hw g2
  exact (h4 f hf).2.1 rfl
end HGC
/-! the rank loop: hs f: f is hit and not round -/
def hg_J (e : Nat → Nat → Prop) (N : Nat) (hs : Nat → Prop) (rk : Nat → Nat) : Prop :=
  (∀ f, f < N → ¬ hs f → rk f = 0) ∧ (∀ f, f < N → hs f → rk f ≤ hg_K e N f ∧ rk f ≤ 1 + hg_mx e rk f N)
section HGJ
variable {e : Nat → Nat → Prop} {N : Nat} {hs : Nat → Prop} {rk : Nat → Nat}
theorem hg_J_0 (h : ∀ f, f < N → rk f = 0) : hg_J e N hs rk := ⟨fun f hf _ => h f hf, fun f hf _ => by rw [h f hf]; exact ⟨Nat.zero_le _, Nat.zero_le _⟩⟩
theorem hg_J_le (hJ : hg_J e N hs rk) {f : Nat} (hf : f < N) : rk f ≤ hg_K e N f := by
  by_cases z : hs f
  · exact (hJ.2 f hf z).1
  · rw [hJ.1 f hf z]
    exact Nat.zero_le _
theorem hg_J_up (hJ : hg_J e N hs rk) {f : Nat} (hf : f < N) (hh : hs f) (ho : ¬ hg_O e f) (hne : rk f ≠ hg_mx e rk f N + 1) : hg_J e N hs (va_up rk f (hg_mx e rk f N + 1)) ∧ hg_sm (fun g => hg_K e N g - va_up rk f (hg_mx e rk f N + 1) g) N < hg_sm (fun g => hg_K e N g - rk g) N := by
  have h1 := hJ.2 f hf hh
  have hlt : rk f < hg_mx e rk f N + 1 := by omega
  have hK : hg_mx e rk f N + 1 ≤ hg_K e N f := by
    rw [hg_K_n ho]
    have := hg_mx_le (e := e) (K := rk) (L := hg_K e N) (f := f) N (fun g hg _ => hg_J_le hJ hg)
    omega
  have up : ∀ g, rk g ≤ va_up rk f (hg_mx e rk f N + 1) g := fun g => by
    by_cases z : g = f
    · rw [z, va_up_self]
      omega
    · rw [va_up_ne _ _ z]
      exact Nat.le_refl _
  refine ⟨⟨fun g hg hn => ?_, fun g hg hn => ?_⟩, ?_⟩
  · rw [va_up_ne _ _ (fun z => hn (by rw [z]; exact hh))]
    exact hJ.1 g hg hn
  · have hm := hg_mx_le (e := e) (K := rk) (L := va_up rk f (hg_mx e rk f N + 1)) (f := g) N (fun x _ _ => up x)
    by_cases z : g = f
    · subst z
      rw [va_up_self]
      exact ⟨hK, by omega⟩
    · rw [va_up_ne _ _ z]
      have := hJ.2 g hg hn
      exact ⟨this.1, by omega⟩
  · refine hg_sm_lt (x := f) ?_ N hf (fun k _ => ?_)
    · show hg_K e N f - va_up rk f (hg_mx e rk f N + 1) f < hg_K e N f - rk f
      rw [va_up_self]
      omega
    · show hg_K e N k - va_up rk f (hg_mx e rk f N + 1) k ≤ hg_K e N k - rk k
      have := up k
      omega
/-- nothing changed: they are the ranks (of those that are hit) -/
theorem hg_J_end {ht : Nat → Prop} (hJ : hg_J e N hs rk) (hse : ∀ f, hs f ↔ ht f ∧ ¬ hg_O e f) (hee : ∀ f g, e f g → ht f ∧ ht g) (hfix : ∀ f, f < N → hs f → rk f = hg_mx e rk f N + 1) {f : Nat} (hf : f < N) (hh : ht f) : rk f = hg_K e N f := by
  have hL : ∀ g, g < N → hg_mx e (fun x => hg_b (ht x) * rk x + (1 - hg_b (ht x))) g N = hg_mx e rk g N := fun g _ => hg_mx_congr N (fun x _ he => by
    show hg_b (ht x) * rk x + (1 - hg_b (ht x)) = rk x
    rw [hg_bK_t (hee g x he).2, hg_b_t (hee g x he).2]
    omega)
  have h := hg_K_uniq (e := e) (N := N) (L := fun x => hg_b (ht x) * rk x + (1 - hg_b (ht x))) (fun g hg ho => ?_) (fun g hg ho => ?_) hf
  · have h2 : hg_b (ht f) * rk f + (1 - hg_b (ht f)) = hg_K e N f := h
    rw [hg_bK_t hh, hg_b_t hh] at h2
    omega
  · show hg_b (ht g) * rk g + (1 - hg_b (ht g)) = 0
    have hg2 : ht g := by
      obtain ⟨w, h1, -⟩ := ho
      exact (hee g w h1).1
    rw [hg_bK_t hg2, hg_b_t hg2, hJ.1 g hg (fun z => ((hse g).1 z).2 ho)]
  · show hg_b (ht g) * rk g + (1 - hg_b (ht g)) = 1 + hg_mx e (fun x => hg_b (ht x) * rk x + (1 - hg_b (ht x))) g N
    rw [hL g hg]
    by_cases z : ht g
    · rw [hg_bK_t z, hg_b_t z, hfix g hg ((hse g).2 ⟨z, ho⟩)]
      omega
    · have h0 : hg_mx e rk g N = 0 := by
        have h1 := hg_mx_le (e := e) (K := rk) (L := fun _ => 0) (f := g) N (fun x _ he => absurd (hee g x he).1 z)
        have h2 : ∀ n, hg_mx e (fun _ => 0) g n = 0 := fun n => by
          induction n with
          | zero => rfl
          | succ n ih =>
            rw [hg_mx_s, ih]
            show Nat.max 0 (hg_b (e g n) * 0) = 0
            rw [Nat.mul_zero]
            rfl
        rw [h2] at h1
        omega
      rw [hg_bK_f z, hg_b_f z, h0]
end HGJ
end
section
/-! more pure rows: the greatest over a list; two numbers; columns of a table -/
theorem hg_mx_ge {e : Nat → Nat → Prop} {K : Nat → Nat} {f g : Nat} (he : e f g) : ∀ n, g < n → K g ≤ hg_mx e K f n
  | 0, h => by omega
  | n + 1, h => by
    rw [hg_mx_s]
    by_cases z : g = n
    · subst z
      rw [hg_bK_t he]
      exact Nat.le_max_right ..
    · exact Nat.le_trans (hg_mx_ge he n (by omega)) (Nat.le_max_left ..)
theorem hg_mx_bd {e : Nat → Nat → Prop} {K : Nat → Nat} {f b : Nat} : ∀ n, (∀ g, g < n → e f g → K g ≤ b) → hg_mx e K f n ≤ b
  | 0, _ => Nat.zero_le _
  | n + 1, h => by
    rw [hg_mx_s]
    refine Nat.max_le.mpr ⟨hg_mx_bd n (fun g hg => h g (by omega)), ?_⟩
    by_cases z : e f n
    · rw [hg_bK_t z]
      exact h n (by omega) z
    · rw [hg_bK_f z]
      exact Nat.zero_le _
/-- the greatest over the first n of a list, of those that P holds of -/
noncomputable def hg_lm (P : Nat → Prop) (K : Nat → Nat) (hits : Nat → Nat) : Nat → Nat
  | 0 => 0
  | n + 1 => Nat.max (hg_lm P K hits n) (hg_b (P (hits n)) * K (hits n))
theorem hg_lm_s (P : Nat → Prop) (K : Nat → Nat) (hits : Nat → Nat) (n : Nat) : hg_lm P K hits (n + 1) = Nat.max (hg_lm P K hits n) (hg_b (P (hits n)) * K (hits n)) := rfl
theorem hg_lm_t {P : Nat → Prop} {K : Nat → Nat} {hits : Nat → Nat} {n : Nat} (h : P (hits n)) : hg_lm P K hits (n + 1) = Nat.max (hg_lm P K hits n) (K (hits n)) := by rw [hg_lm_s, hg_bK_t h]
theorem hg_lm_f {P : Nat → Prop} {K : Nat → Nat} {hits : Nat → Nat} {n : Nat} (h : ¬ P (hits n)) : hg_lm P K hits (n + 1) = hg_lm P K hits n := by
  rw [hg_lm_s, hg_bK_f h]
  exact Nat.max_eq_left (Nat.zero_le _)
theorem hg_lm_ge {P : Nat → Prop} {K : Nat → Nat} {hits : Nat → Nat} {i : Nat} (h : P (hits i)) : ∀ n, i < n → K (hits i) ≤ hg_lm P K hits n
  | 0, hn => by omega
  | n + 1, hn => by
    by_cases z : i = n
    · subst z
      rw [hg_lm_t h]
      exact Nat.le_max_right ..
    · rw [hg_lm_s]
      exact Nat.le_trans (hg_lm_ge h n (by omega)) (Nat.le_max_left ..)
theorem hg_lm_bd {P : Nat → Prop} {K : Nat → Nat} {hits : Nat → Nat} {b : Nat} : ∀ n, (∀ i, i < n → P (hits i) → K (hits i) ≤ b) → hg_lm P K hits n ≤ b
  | 0, _ => Nat.zero_le _
  | n + 1, h => by
    have h1 := hg_lm_bd n (fun i hi => h i (by omega))
    by_cases z : P (hits n)
    · rw [hg_lm_t z]
      exact Nat.max_le.mpr ⟨h1, h n (by omega) z⟩
    · rw [hg_lm_f z]
      exact h1
theorem hg_lm_mx {e : Nat → Nat → Prop} {P : Nat → Prop} {K : Nat → Nat} {hits : Nat → Nat} {f n N : Nat} (h1 : ∀ i, i < n → P (hits i) → e f (hits i) ∧ hits i < N) (h2 : ∀ g, g < N → e f g → ∃ i, i < n ∧ hits i = g ∧ P (hits i)) : hg_lm P K hits n = hg_mx e K f N := by
  refine Nat.le_antisymm (hg_lm_bd n fun i hi hp => ?_) (hg_mx_bd N fun g hg he => ?_)
  · obtain ⟨a1, a2⟩ := h1 i hi hp
    exact hg_mx_ge a1 N a2
  · obtain ⟨i, a1, a2, a3⟩ := h2 g hg he
    rw [← a2]
    exact hg_lm_ge a3 n a1
/-! the greater and the lesser of two, as the machine has them -/
theorem hg_imax {a b : Nat} (ha : a < 2 ^ 31) (hb : b < 2 ^ 31) : (if nI a < nI b then nI b else nI a) = nI (Nat.max a b) := by
  by_cases h : a < b
  · rw [if_pos ((nI_ltI ha hb).mpr h)]
    congr 1
    exact (Nat.max_eq_right (Nat.le_of_lt h)).symm
  · rw [if_neg (fun z => h ((nI_ltI ha hb).mp z))]
    congr 1
    exact (Nat.max_eq_left (by omega)).symm
theorem hg_imin {a b : Nat} (ha : a < 2 ^ 31) (hb : b < 2 ^ 31) : (if nI b < nI a then nI b else nI a) = nI (Nat.min a b) := by
  by_cases h : b < a
  · rw [if_pos ((nI_ltI hb ha).mpr h)]
    congr 1
    exact (Nat.min_eq_right (Nat.le_of_lt h)).symm
  · rw [if_neg (fun z => h ((nI_ltI hb ha).mp z))]
    congr 1
    exact (Nat.min_eq_left (by omega)).symm
theorem hg_b0 {P : Prop} (h : hg_b P = 0) : ¬ P := fun z => by rw [hg_b_t z] at h; omega
theorem hg_b1 {P : Prop} (h : hg_b P ≠ 0) : P := by
  by_cases z : P
  · exact z
  · exact absurd (hg_b_f z) h
end
