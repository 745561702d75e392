/-! a world by NAMES: what lies where is told by a kind and a number; ad says at which address. No two names are one cell. A contract is told for every world that holds what the method needs; the rest of it stays as it is, by the same letter w -/
def tg_up {α : Type} (f : Nat → Nat → α) (k i : Nat) (v : α) : Nat → Nat → α := fun a b => if a = k ∧ b = i then v else f a b
theorem tg_up_self {α : Type} (f : Nat → Nat → α) (k i : Nat) (v : α) : tg_up f k i v k i = v := if_pos ⟨rfl, rfl⟩
theorem tg_up_ne {α : Type} (f : Nat → Nat → α) {k i a b : Nat} (v : α) (h : ¬ (a = k ∧ b = i)) : tg_up f k i v a b = f a b := if_neg h
/-- the cells of a world lie in H, apart, and in F -/
def tg_Y (D : va_G) (cl : List vw_C) (F : Nat → Prop) (ad : Nat → Nat → Nat) (ok : Nat → Nat → Prop) (w : Nat → Nat → va_E) (H : Heap) : Prop :=
  (∀ k i, ok k i → va_at D cl (ad k i, w k i) H) ∧ (∀ k i k' i', ok k i → ok k' i' → ad k i = ad k' i' → k = k' ∧ i = i') ∧ ∀ k i, ok k i → F (ad k i)
def tg_Z (D : va_G) (cl : List vw_C) (F : Nat → Prop) (ad : Nat → Nat → Nat) (ok : Nat → Nat → Prop) (w : Nat → Nat → va_E) (H0 H : Heap) (locs : List Loc) : Prop :=
  tg_Y D cl F ad ok w H ∧ (∀ q, H0.size ≤ q → F q) ∧ va_S F H0 H locs
section TGZ
variable {D : va_G} {cl : List vw_C} {F : Nat → Prop} {ad : Nat → Nat → Nat} {ok : Nat → Nat → Prop} {w : Nat → Nat → va_E} {H0 H H1 : Heap} {locs : List Loc}
theorem tg_Z.at_ (h : tg_Z D cl F ad ok w H0 H locs) {k i : Nat} (hk : ok k i) {x : va_E} (hx : w k i = x) : va_at D cl (ad k i, x) H := hx ▸ h.1.1 k i hk
theorem tg_Z.one (h : tg_Z D cl F ad ok w H0 H locs) {k i : Nat} (hk : ok k i) {x : va_E} (hx : w k i = x) : va_P D cl [(ad k i, x)] H := by
  intro j q hj
  cases j with
  | zero =>
    cases hj
    exact h.at_ hk hx
  | succ j => cases hj
theorem tg_Z.put {k i j : Nat} {x1 : va_E} (hZ : tg_Z D cl F ad ok w H0 H locs) (hk : ok k i) (he : va_at D cl (ad k i, x1) H1) (hs : H1.size = H.size) (oq : ∀ q : Nat, q ≠ ad k i → H1[q]? = H[q]?) : tg_Z D cl F ad ok (tg_up w k i x1) H0 H1 (locs ++ [⟨ad k i, j⟩]) := by
  obtain ⟨⟨h1, h2, h3⟩, h4, h5⟩ := hZ
  refine ⟨⟨fun a b hab => ?_, h2, h3⟩, h4, h5.put hs oq (h3 k i hk)⟩
  by_cases q : a = k ∧ b = i
  · obtain ⟨rfl, rfl⟩ := q
    rw [tg_up_self]
    exact he
  · rw [tg_up_ne _ _ q]
    exact (h1 a b hab).kept (oq _ fun e => q (h2 a b k i hab hk e))
theorem tg_Z.new (k i : Nat) {x : va_E} (hZ : tg_Z D cl F ad ok w H0 H locs) (he : va_at D cl (H.size, x) H1) (hs : H1.size = H.size + 1) (oq : ∀ q : Nat, q < H.size → H1[q]? = H[q]?) : tg_Z D cl F (tg_up ad k i H.size) (fun a b => ok a b ∨ (a = k ∧ b = i)) (tg_up w k i x) H0 H1 locs := by
  obtain ⟨⟨h1, h2, h3⟩, h4, h5⟩ := hZ
  have old : ∀ a b, ¬ (a = k ∧ b = i) → (ok a b ∨ (a = k ∧ b = i)) → ok a b := fun a b q h => h.elim id fun z => absurd z q
  refine ⟨⟨fun a b hab => ?_, fun a b a' b' hab hab' he => ?_, fun a b hab => ?_⟩, h4, Nat.le_trans h5.1 (by omega), fun q g1 g2 => (oq q (Nat.lt_of_lt_of_le g1 h5.1)).trans (h5.2.1 q g1 g2), h5.2.2⟩
  · by_cases q : a = k ∧ b = i
    · obtain ⟨rfl, rfl⟩ := q
      rw [tg_up_self, tg_up_self]
      exact he
    · rw [tg_up_ne _ _ q, tg_up_ne _ _ q]
      exact (h1 a b (old a b q hab)).kept (oq _ (h1 a b (old a b q hab)).lt)
  · by_cases q : a = k ∧ b = i
    · by_cases q' : a' = k ∧ b' = i
      · exact ⟨q.1.trans q'.1.symm, q.2.trans q'.2.symm⟩
      · obtain ⟨rfl, rfl⟩ := q
        rw [tg_up_self, tg_up_ne _ _ q'] at he
        exact absurd he.symm (Nat.ne_of_lt (h1 a' b' (old a' b' q' hab')).lt)
    · by_cases q' : a' = k ∧ b' = i
      · obtain ⟨rfl, rfl⟩ := q'
        rw [tg_up_self, tg_up_ne _ _ q] at he
        exact absurd he (Nat.ne_of_lt (h1 a b (old a b q hab)).lt)
      · rw [tg_up_ne _ _ q, tg_up_ne _ _ q'] at he
        exact h2 a b a' b' (old a b q hab) (old a' b' q' hab') he
  · by_cases q : a = k ∧ b = i
    · obtain ⟨rfl, rfl⟩ := q
      rw [tg_up_self]
      exact h4 _ h5.1
    · rw [tg_up_ne _ _ q]
      exact h3 a b (old a b q hab)
/-- the same world in other words; fewer names -/
theorem tg_Z.to {ad' : Nat → Nat → Nat} {ok' : Nat → Nat → Prop} {w' : Nat → Nat → va_E} (hZ : tg_Z D cl F ad ok w H0 H locs) (ho : ∀ k i, ok' k i → ok k i) (ha : ∀ k i, ok' k i → ad k i = ad' k i) (hw : ∀ k i, ok' k i → w k i = w' k i) : tg_Z D cl F ad' ok' w' H0 H locs := by
  obtain ⟨⟨h1, h2, h3⟩, h4, h5⟩ := hZ
  refine ⟨⟨fun k i h => ?_, fun k i k' i' h h' e => ?_, fun k i h => ?_⟩, h4, h5⟩
  · rw [← ha k i h, ← hw k i h]
    exact h1 k i (ho k i h)
  · rw [← ha k i h, ← ha k' i' h'] at e
    exact h2 k i k' i' (ho k i h) (ho k' i' h') e
  · rw [← ha k i h]
    exact h3 k i (ho k i h)
theorem tg_Z.start {s : State} (hY : tg_Y D cl F ad ok w s.heap) (hF : ∀ q, s.heap.size ≤ q → F q) : tg_Z D cl F ad ok w s.heap s.heap [] := ⟨hY, hF, va_S.rf⟩
/-- seen from the place where a call begins -/
theorem tg_Z.here (hZ : tg_Z D cl F ad ok w H0 H locs) : tg_Z D cl F ad ok w H H [] := ⟨hZ.1, fun q h => hZ.2.1 q (Nat.le_trans hZ.2.2.1 h), va_S.rf⟩
end TGZ
/-! locals by number -/
def tg_lg : List (Nat × Value) → Nat → Option Value
  | [], _ => none
  | q :: r, i => cond (Nat.beq q.1 i) (some q.2) (tg_lg r i)
theorem tg_lg_mem : ∀ {L : List (Nat × Value)} {i : Nat} {v : Value}, tg_lg L i = some v → (i, v) ∈ L
  | [], i, v, h => by cases h
  | q :: r, i, v, h => by
    cases hb : Nat.beq q.1 i with
    | true =>
      have h' : cond (Nat.beq q.1 i) (some q.2) (tg_lg r i) = some v := h
      rw [hb] at h'
      cases h'
      rw [← Nat.eq_of_beq_eq_true hb]
      exact List.mem_cons_self
    | false =>
      have h' : cond (Nat.beq q.1 i) (some q.2) (tg_lg r i) = some v := h
      rw [hb] at h'
      exact List.mem_cons_of_mem _ (tg_lg_mem h')
def tg_ls (L : List (Nat × Value)) (i : Nat) (v : Value) : List (Nat × Value) := cond (L.any (fun q => Nat.beq q.1 i)) (L.map (fun q => cond (Nat.beq q.1 i) (i, v) q)) (L ++ [(i, v)])
def tg_c1 (L : List (Nat × Value)) : Bool := L.all (fun q => Nat.beq q.2.category 1)
theorem tg_ls_mem {L : List (Nat × Value)} {i : Nat} {v : Value} {q : Nat × Value} (h : q ∈ tg_ls L i v) : q = (i, v) ∨ (q ∈ L ∧ q.1 ≠ i) := by
  unfold tg_ls at h
  cases ha : L.any (fun q => Nat.beq q.1 i) with
  | true =>
    rw [ha] at h
    obtain ⟨z, hz, e⟩ := List.mem_map.mp h
    cases hb : Nat.beq z.1 i with
    | true =>
      rw [hb] at e
      exact Or.inl e.symm
    | false =>
      rw [hb] at e
      have e' : z = q := e
      subst e'
      exact Or.inr ⟨hz, fun e => by rw [e, Nat.beq_refl] at hb; cases hb⟩
  | false =>
    rw [ha] at h
    rcases List.mem_append.mp h with h | h
    · refine Or.inr ⟨h, fun e => ?_⟩
      have hn := List.any_eq_false.mp ha q h
      rw [e, Nat.beq_refl] at hn
      exact hn rfl
    · exact Or.inl (List.mem_singleton.mp h)
theorem tg_ls_has {ls : Array Slot} {nL i : Nat} {v : Value} {L : List (Nat × Value)} (hc : tg_c1 L = true) (h : lv_has ls nL ((i, v) :: L.filter (fun q => !(q.1 == i) && !(q.1 + 1 == i && q.2.category == 2)))) : lv_has ls nL (tg_ls L i v) := by
  refine ⟨h.1, h.2.1, fun q hq => h.2.2 q ?_⟩
  rcases tg_ls_mem hq with e | ⟨h1, h2⟩
  · rw [e]
    exact List.mem_cons_self
  · refine List.mem_cons_of_mem _ (List.mem_filter.mpr ⟨h1, ?_⟩)
    have hk := Nat.eq_of_beq_eq_true (List.all_eq_true.mp hc q h1)
    simp [h2, hk]
/-! the judgement: from every heap that holds the world w, and locals L, at pc with the stack st, the machine comes to Q -/
def tg_W (p : Program) (l : Launch) (e : Env) (R : Room) (s : State) (m : MethodId) (args : Array Value) (below : List Frame) (meth : Method) (c : Code) (Q : State → Prop) (nL : Nat) (D : va_G) (cl : List vw_C) (F : Nat → Prop) (ad : Nat → Nat → Nat) (ok : Nat → Nat → Prop) (w : Nat → Nat → va_E) (L : List (Nat × Value)) (cells slots pc : Nat) (st : List Value) : Prop :=
  ∀ (H : Heap) (locs : List Loc) (ls : Array Slot), tg_Z D cl F ad ok w s.heap H locs → lv_has ls nL L → W p l e R s m args below meth c H locs cells slots Q (F0 m pc ls st)
section TGW
variable {p : Program} {l : Launch} {e : Env} {R : Room} {s : State} {m : MethodId} {args : Array Value} {below : List Frame} {meth : Method} {c : Code} {cells slots : Nat} {Q : State → Prop}
variable {cc : ByteArray} {pc nL : Nat} {st : List Value} {D : va_G} {cl : List vw_C} {tys : List (ClassId × FieldType)} {F : Nat → Prop} {ad : Nat → Nat → Nat} {ok : Nat → Nat → Prop} {w : Nat → Nat → va_E} {L : List (Nat × Value)}
theorem tg_iconst (hx : p.tables.exec = Jvm.exec) (hb : c.code = cc) {n : Int} {v : Int32} (hdg : decode cc pc = .ok (.iconst n, 1)) (hv : Int32.ofInt n = v) (kk : tg_W p l e R s m args below meth c Q nL D cl F ad ok w L cells slots (pc + 1) (.int v :: st)) : tg_W p l e R s m args below meth c Q nL D cl F ad ok w L cells slots pc st := fun H locs ls hZ h => lv_iconst hx hb hdg hv (kk H locs ls hZ h)
theorem tg_bipush (hx : p.tables.exec = Jvm.exec) (hb : c.code = cc) {n : Int} {v : Int32} (hdg : decode cc pc = .ok (.bipush n, 2)) (hv : (Int8.ofInt n).toInt32 = v) (kk : tg_W p l e R s m args below meth c Q nL D cl F ad ok w L cells slots (pc + 2) (.int v :: st)) : tg_W p l e R s m args below meth c Q nL D cl F ad ok w L cells slots pc st := fun H locs ls hZ h => lv_bipush hx hb hdg hv (kk H locs ls hZ h)
theorem tg_sipush (hx : p.tables.exec = Jvm.exec) (hb : c.code = cc) {n : Int} {v : Int32} (hdg : decode cc pc = .ok (.sipush n, 3)) (hv : (Int16.ofInt n).toInt32 = v) (kk : tg_W p l e R s m args below meth c Q nL D cl F ad ok w L cells slots (pc + 3) (.int v :: st)) : tg_W p l e R s m args below meth c Q nL D cl F ad ok w L cells slots pc st := fun H locs ls hZ h => lv_sipush hx hb hdg hv (kk H locs ls hZ h)
theorem tg_iload_n (hx : p.tables.exec = Jvm.exec) (hb : c.code = cc) {k : Fin 4} {i : Nat} {x : Int32} (hdg : decode cc pc = .ok (.iload_n k, 1)) (hi : (k : Nat) = i) (hl : tg_lg L i = some (.int x)) (kk : tg_W p l e R s m args below meth c Q nL D cl F ad ok w L cells slots (pc + 1) (.int x :: st)) : tg_W p l e R s m args below meth c Q nL D cl F ad ok w L cells slots pc st := fun H locs ls hZ h => lv_iload_n hx hb hdg hi (h.2.2 _ (tg_lg_mem hl)) (kk H locs ls hZ h)
theorem tg_iload (hx : p.tables.exec = Jvm.exec) (hb : c.code = cc) {i : Nat} {x : Int32} (hdg : decode cc pc = .ok (.iload i, 2)) (hl : tg_lg L i = some (.int x)) (kk : tg_W p l e R s m args below meth c Q nL D cl F ad ok w L cells slots (pc + 2) (.int x :: st)) : tg_W p l e R s m args below meth c Q nL D cl F ad ok w L cells slots pc st := fun H locs ls hZ h => lv_iload hx hb hdg (h.2.2 _ (tg_lg_mem hl)) (kk H locs ls hZ h)
theorem tg_aload_n (hx : p.tables.exec = Jvm.exec) (hb : c.code = cc) {k : Fin 4} {i : Nat} {x : Nat} (hdg : decode cc pc = .ok (.aload_n k, 1)) (hi : (k : Nat) = i) (hl : tg_lg L i = some (.ref x)) (kk : tg_W p l e R s m args below meth c Q nL D cl F ad ok w L cells slots (pc + 1) (.ref x :: st)) : tg_W p l e R s m args below meth c Q nL D cl F ad ok w L cells slots pc st := fun H locs ls hZ h => lv_aload_n hx hb hdg hi (h.2.2 _ (tg_lg_mem hl)) (kk H locs ls hZ h)
theorem tg_aload (hx : p.tables.exec = Jvm.exec) (hb : c.code = cc) {i : Nat} {x : Nat} (hdg : decode cc pc = .ok (.aload i, 2)) (hl : tg_lg L i = some (.ref x)) (kk : tg_W p l e R s m args below meth c Q nL D cl F ad ok w L cells slots (pc + 2) (.ref x :: st)) : tg_W p l e R s m args below meth c Q nL D cl F ad ok w L cells slots pc st := fun H locs ls hZ h => lv_aload hx hb hdg (h.2.2 _ (tg_lg_mem hl)) (kk H locs ls hZ h)
theorem tg_aload_nN (hx : p.tables.exec = Jvm.exec) (hb : c.code = cc) {k : Fin 4} {i : Nat} (hdg : decode cc pc = .ok (.aload_n k, 1)) (hi : (k : Nat) = i) (hl : tg_lg L i = some .null) (kk : tg_W p l e R s m args below meth c Q nL D cl F ad ok w L cells slots (pc + 1) (.null :: st)) : tg_W p l e R s m args below meth c Q nL D cl F ad ok w L cells slots pc st := fun H locs ls hZ h => lv_aload_nN hx hb hdg hi (h.2.2 _ (tg_lg_mem hl)) (kk H locs ls hZ h)
theorem tg_aloadN (hx : p.tables.exec = Jvm.exec) (hb : c.code = cc) {i : Nat} (hdg : decode cc pc = .ok (.aload i, 2)) (hl : tg_lg L i = some .null) (kk : tg_W p l e R s m args below meth c Q nL D cl F ad ok w L cells slots (pc + 2) (.null :: st)) : tg_W p l e R s m args below meth c Q nL D cl F ad ok w L cells slots pc st := fun H locs ls hZ h => lv_aloadN hx hb hdg (h.2.2 _ (tg_lg_mem hl)) (kk H locs ls hZ h)
theorem tg_istore_n (hx : p.tables.exec = Jvm.exec) (hb : c.code = cc) {k : Fin 4} {i : Nat} {x : Int32} {L' : List (Nat × Value)} (hdg : decode cc pc = .ok (.istore_n k, 1)) (hi : (k : Nat) = i) (hn : i < nL) (hc : tg_c1 L = true) (hl : tg_ls L i (.int x) = L') (kk : tg_W p l e R s m args below meth c Q nL D cl F ad ok w L' cells slots (pc + 1) st) : tg_W p l e R s m args below meth c Q nL D cl F ad ok w L cells slots pc ((.int x) :: st) := fun H locs ls hZ h => lv_istore_n hx hb hdg hi h hn rfl fun ls' h' => kk H locs ls' hZ (hl ▸ tg_ls_has hc h')
theorem tg_istore (hx : p.tables.exec = Jvm.exec) (hb : c.code = cc) {i : Nat} {x : Int32} {L' : List (Nat × Value)} (hdg : decode cc pc = .ok (.istore i, 2)) (hn : i < nL) (hc : tg_c1 L = true) (hl : tg_ls L i (.int x) = L') (kk : tg_W p l e R s m args below meth c Q nL D cl F ad ok w L' cells slots (pc + 2) st) : tg_W p l e R s m args below meth c Q nL D cl F ad ok w L cells slots pc ((.int x) :: st) := fun H locs ls hZ h => lv_istore hx hb hdg h hn rfl fun ls' h' => kk H locs ls' hZ (hl ▸ tg_ls_has hc h')
theorem tg_astore_n (hx : p.tables.exec = Jvm.exec) (hb : c.code = cc) {k : Fin 4} {i : Nat} {x : Nat} {L' : List (Nat × Value)} (hdg : decode cc pc = .ok (.astore_n k, 1)) (hi : (k : Nat) = i) (hn : i < nL) (hc : tg_c1 L = true) (hl : tg_ls L i (.ref x) = L') (kk : tg_W p l e R s m args below meth c Q nL D cl F ad ok w L' cells slots (pc + 1) st) : tg_W p l e R s m args below meth c Q nL D cl F ad ok w L cells slots pc ((.ref x) :: st) := fun H locs ls hZ h => lv_astore_n hx hb hdg hi h hn rfl fun ls' h' => kk H locs ls' hZ (hl ▸ tg_ls_has hc h')
theorem tg_astore (hx : p.tables.exec = Jvm.exec) (hb : c.code = cc) {i : Nat} {x : Nat} {L' : List (Nat × Value)} (hdg : decode cc pc = .ok (.astore i, 2)) (hn : i < nL) (hc : tg_c1 L = true) (hl : tg_ls L i (.ref x) = L') (kk : tg_W p l e R s m args below meth c Q nL D cl F ad ok w L' cells slots (pc + 2) st) : tg_W p l e R s m args below meth c Q nL D cl F ad ok w L cells slots pc ((.ref x) :: st) := fun H locs ls hZ h => lv_astore hx hb hdg h hn rfl fun ls' h' => kk H locs ls' hZ (hl ▸ tg_ls_has hc h')
theorem tg_astore_nN (hx : p.tables.exec = Jvm.exec) (hb : c.code = cc) {k : Fin 4} {i : Nat} {L' : List (Nat × Value)} (hdg : decode cc pc = .ok (.astore_n k, 1)) (hi : (k : Nat) = i) (hn : i < nL) (hc : tg_c1 L = true) (hl : tg_ls L i .null = L') (kk : tg_W p l e R s m args below meth c Q nL D cl F ad ok w L' cells slots (pc + 1) st) : tg_W p l e R s m args below meth c Q nL D cl F ad ok w L cells slots pc (.null :: st) := fun H locs ls hZ h => lv_astore_nN hx hb hdg hi h hn rfl fun ls' h' => kk H locs ls' hZ (hl ▸ tg_ls_has hc h')
theorem tg_astoreN (hx : p.tables.exec = Jvm.exec) (hb : c.code = cc) {i : Nat} {L' : List (Nat × Value)} (hdg : decode cc pc = .ok (.astore i, 2)) (hn : i < nL) (hc : tg_c1 L = true) (hl : tg_ls L i .null = L') (kk : tg_W p l e R s m args below meth c Q nL D cl F ad ok w L' cells slots (pc + 2) st) : tg_W p l e R s m args below meth c Q nL D cl F ad ok w L cells slots pc (.null :: st) := fun H locs ls hZ h => lv_astoreN hx hb hdg h hn rfl fun ls' h' => kk H locs ls' hZ (hl ▸ tg_ls_has hc h')
theorem tg_mem_get : ∀ {L : List (Nat × Value)} {q : Nat × Value}, q ∈ L → ∃ j : Nat, L[j]? = some q := fun h => List.getElem?_of_mem h
theorem tg_iinc (hx : p.tables.exec = Jvm.exec) (hb : c.code = cc) {i : Nat} {n : Int} {x v : Int32} {L' : List (Nat × Value)} (hdg : decode cc pc = .ok (.iinc i n, 3)) (hg : tg_lg L i = some (.int x)) (hv : x + Int32.ofInt n = v) (hn : i < nL) (hc : tg_c1 L = true) (hl : tg_ls L i (.int v) = L') (kk : tg_W p l e R s m args below meth c Q nL D cl F ad ok w L' cells slots (pc + 3) st) : tg_W p l e R s m args below meth c Q nL D cl F ad ok w L cells slots pc st := by
  obtain ⟨j, hj⟩ := tg_mem_get (tg_lg_mem hg)
  exact fun H locs ls hZ h => lv_iinc hx hb hdg h hj hv hn rfl fun ls' h' => kk H locs ls' hZ (hl ▸ tg_ls_has hc h')
theorem tg_iadd (hx : p.tables.exec = Jvm.exec) (hb : c.code = cc) {x y : Int32} (hdg : decode cc pc = .ok (.iadd, 1)) (kk : tg_W p l e R s m args below meth c Q nL D cl F ad ok w L cells slots (pc + 1) (.int (x + y) :: st)) : tg_W p l e R s m args below meth c Q nL D cl F ad ok w L cells slots pc (.int y :: .int x :: st) := fun H locs ls hZ h => lv_iadd hx hb hdg (kk H locs ls hZ h)
theorem tg_isub (hx : p.tables.exec = Jvm.exec) (hb : c.code = cc) {x y : Int32} (hdg : decode cc pc = .ok (.isub, 1)) (kk : tg_W p l e R s m args below meth c Q nL D cl F ad ok w L cells slots (pc + 1) (.int (x - y) :: st)) : tg_W p l e R s m args below meth c Q nL D cl F ad ok w L cells slots pc (.int y :: .int x :: st) := fun H locs ls hZ h => lv_isub hx hb hdg (kk H locs ls hZ h)
theorem tg_imul (hx : p.tables.exec = Jvm.exec) (hb : c.code = cc) {x y : Int32} (hdg : decode cc pc = .ok (.imul, 1)) (kk : tg_W p l e R s m args below meth c Q nL D cl F ad ok w L cells slots (pc + 1) (.int (x * y) :: st)) : tg_W p l e R s m args below meth c Q nL D cl F ad ok w L cells slots pc (.int y :: .int x :: st) := fun H locs ls hZ h => lv_imul hx hb hdg (kk H locs ls hZ h)
theorem tg_iand (hx : p.tables.exec = Jvm.exec) (hb : c.code = cc) {x y : Int32} (hdg : decode cc pc = .ok (.iand, 1)) (kk : tg_W p l e R s m args below meth c Q nL D cl F ad ok w L cells slots (pc + 1) (.int (x &&& y) :: st)) : tg_W p l e R s m args below meth c Q nL D cl F ad ok w L cells slots pc (.int y :: .int x :: st) := fun H locs ls hZ h => lv_iand hx hb hdg (kk H locs ls hZ h)
theorem tg_ior (hx : p.tables.exec = Jvm.exec) (hb : c.code = cc) {x y : Int32} (hdg : decode cc pc = .ok (.ior, 1)) (kk : tg_W p l e R s m args below meth c Q nL D cl F ad ok w L cells slots (pc + 1) (.int (x ||| y) :: st)) : tg_W p l e R s m args below meth c Q nL D cl F ad ok w L cells slots pc (.int y :: .int x :: st) := fun H locs ls hZ h => lv_ior hx hb hdg (kk H locs ls hZ h)
theorem tg_ixor (hx : p.tables.exec = Jvm.exec) (hb : c.code = cc) {x y : Int32} (hdg : decode cc pc = .ok (.ixor, 1)) (kk : tg_W p l e R s m args below meth c Q nL D cl F ad ok w L cells slots (pc + 1) (.int (x ^^^ y) :: st)) : tg_W p l e R s m args below meth c Q nL D cl F ad ok w L cells slots pc (.int y :: .int x :: st) := fun H locs ls hZ h => lv_ixor hx hb hdg (kk H locs ls hZ h)
theorem tg_idiv (hx : p.tables.exec = Jvm.exec) (hb : c.code = cc) {x y : Int32} (hdg : decode cc pc = .ok (.idiv, 1)) (hne : ¬ y = 0) (kk : tg_W p l e R s m args below meth c Q nL D cl F ad ok w L cells slots (pc + 1) (.int (x / y) :: st)) : tg_W p l e R s m args below meth c Q nL D cl F ad ok w L cells slots pc (.int y :: .int x :: st) := fun H locs ls hZ h => lv_idiv hx hb hdg hne (kk H locs ls hZ h)
theorem tg_irem (hx : p.tables.exec = Jvm.exec) (hb : c.code = cc) {x y : Int32} (hdg : decode cc pc = .ok (.irem, 1)) (hne : ¬ y = 0) (kk : tg_W p l e R s m args below meth c Q nL D cl F ad ok w L cells slots (pc + 1) (.int (x - x / y * y) :: st)) : tg_W p l e R s m args below meth c Q nL D cl F ad ok w L cells slots pc (.int y :: .int x :: st) := fun H locs ls hZ h => lv_irem hx hb hdg hne (kk H locs ls hZ h)
theorem tg_ishl (hx : p.tables.exec = Jvm.exec) (hb : c.code = cc) {x y : Int32} (hdg : decode cc pc = .ok (.ishl, 1)) (kk : tg_W p l e R s m args below meth c Q nL D cl F ad ok w L cells slots (pc + 1) (.int (x <<< (y &&& 31)) :: st)) : tg_W p l e R s m args below meth c Q nL D cl F ad ok w L cells slots pc (.int y :: .int x :: st) := fun H locs ls hZ h => lv_ishl hx hb hdg (kk H locs ls hZ h)
theorem tg_i2l (hx : p.tables.exec = Jvm.exec) (hb : c.code = cc) {x : Int32} {v : Int64} (hdg : decode cc pc = .ok (.i2l, 1)) (hv : x.toInt64 = v) (kk : tg_W p l e R s m args below meth c Q nL D cl F ad ok w L cells slots (pc + 1) (.long v :: st)) : tg_W p l e R s m args below meth c Q nL D cl F ad ok w L cells slots pc (.int x :: st) := fun H locs ls hZ h => lv_i2l hx hb hdg hv (kk H locs ls hZ h)
theorem tg_dup (hx : p.tables.exec = Jvm.exec) (hb : c.code = cc) {v : Value} (hdg : decode cc pc = .ok (.dup, 1)) (hv : v.category = 1) (kk : tg_W p l e R s m args below meth c Q nL D cl F ad ok w L cells slots (pc + 1) (v :: v :: st)) : tg_W p l e R s m args below meth c Q nL D cl F ad ok w L cells slots pc (v :: st) := fun H locs ls hZ h => lv_dup hx hb hdg hv (kk H locs ls hZ h)
theorem tg_pop (hx : p.tables.exec = Jvm.exec) (hb : c.code = cc) {v : Value} (hdg : decode cc pc = .ok (.pop, 1)) (hv : v.category = 1) (kk : tg_W p l e R s m args below meth c Q nL D cl F ad ok w L cells slots (pc + 1) st) : tg_W p l e R s m args below meth c Q nL D cl F ad ok w L cells slots pc (v :: st) := fun H locs ls hZ h => lv_pop hx hb hdg hv (kk H locs ls hZ h)
theorem tg_dup_x1 (hx : p.tables.exec = Jvm.exec) (hb : c.code = cc) {v u : Value} (hdg : decode cc pc = .ok (.dup_x1, 1)) (hv : v.category = 1) (hu : u.category = 1) (kk : tg_W p l e R s m args below meth c Q nL D cl F ad ok w L cells slots (pc + 1) (v :: u :: v :: st)) : tg_W p l e R s m args below meth c Q nL D cl F ad ok w L cells slots pc (v :: u :: st) := fun H locs ls hZ h => lv_dup_x1 hx hb hdg hv hu (kk H locs ls hZ h)
theorem tg_dup2 (hx : p.tables.exec = Jvm.exec) (hb : c.code = cc) {v u : Value} (hdg : decode cc pc = .ok (.dup2, 1)) (hv : v.category = 1) (hu : u.category = 1) (kk : tg_W p l e R s m args below meth c Q nL D cl F ad ok w L cells slots (pc + 1) (v :: u :: v :: u :: st)) : tg_W p l e R s m args below meth c Q nL D cl F ad ok w L cells slots pc (v :: u :: st) := fun H locs ls hZ h => lv_dup2_11 hx hb hdg hv hu (kk H locs ls hZ h)
theorem tg_dup_x2 (hx : p.tables.exec = Jvm.exec) (hb : c.code = cc) {v u y : Value} (hdg : decode cc pc = .ok (.dup_x2, 1)) (hv : v.category = 1) (hu : u.category = 1) (hy : y.category = 1) (kk : tg_W p l e R s m args below meth c Q nL D cl F ad ok w L cells slots (pc + 1) (v :: u :: y :: v :: st)) : tg_W p l e R s m args below meth c Q nL D cl F ad ok w L cells slots pc (v :: u :: y :: st) := fun H locs ls hZ h => lv_dup_x2 hx hb hdg hv hu hy (kk H locs ls hZ h)
theorem tg_null (hx : p.tables.exec = Jvm.exec) (hb : c.code = cc)  (hdg : decode cc pc = .ok (.aconst_null, 1)) (kk : tg_W p l e R s m args below meth c Q nL D cl F ad ok w L cells slots (pc + 1) (.null :: st)) : tg_W p l e R s m args below meth c Q nL D cl F ad ok w L cells slots pc st := fun H locs ls hZ h => lv_null hx hb hdg (kk H locs ls hZ h)
theorem tg_if_eq (hx : p.tables.exec = Jvm.exec) (hb : c.code = cc) {x : Int32} {off : Int} {tgt : Nat} (hdg : decode cc pc = .ok (.ifCond .eq off, 3)) (ht : (pc : Int) + off = (tgt : Int)) (kt : x = 0 → tg_W p l e R s m args below meth c Q nL D cl F ad ok w L cells slots tgt st) (kf : ¬ x = 0 → tg_W p l e R s m args below meth c Q nL D cl F ad ok w L cells slots (pc + 3) st) : tg_W p l e R s m args below meth c Q nL D cl F ad ok w L cells slots pc (.int x :: st) := fun H locs ls hZ h => lv_if_eq hx hb hdg ht (fun q => kt q H locs ls hZ h) (fun q => kf q H locs ls hZ h)
theorem tg_icmp_eq (hx : p.tables.exec = Jvm.exec) (hb : c.code = cc) {x y : Int32} {off : Int} {tgt : Nat} (hdg : decode cc pc = .ok (.if_icmp .eq off, 3)) (ht : (pc : Int) + off = (tgt : Int)) (kt : x = y → tg_W p l e R s m args below meth c Q nL D cl F ad ok w L cells slots tgt st) (kf : ¬ x = y → tg_W p l e R s m args below meth c Q nL D cl F ad ok w L cells slots (pc + 3) st) : tg_W p l e R s m args below meth c Q nL D cl F ad ok w L cells slots pc (.int y :: .int x :: st) := fun H locs ls hZ h => lv_icmp_eq hx hb hdg ht (fun q => kt q H locs ls hZ h) (fun q => kf q H locs ls hZ h)
theorem tg_if_ne (hx : p.tables.exec = Jvm.exec) (hb : c.code = cc) {x : Int32} {off : Int} {tgt : Nat} (hdg : decode cc pc = .ok (.ifCond .ne off, 3)) (ht : (pc : Int) + off = (tgt : Int)) (kt : ¬ x = 0 → tg_W p l e R s m args below meth c Q nL D cl F ad ok w L cells slots tgt st) (kf : x = 0 → tg_W p l e R s m args below meth c Q nL D cl F ad ok w L cells slots (pc + 3) st) : tg_W p l e R s m args below meth c Q nL D cl F ad ok w L cells slots pc (.int x :: st) := fun H locs ls hZ h => lv_if_ne hx hb hdg ht (fun q => kt q H locs ls hZ h) (fun q => kf q H locs ls hZ h)
theorem tg_icmp_ne (hx : p.tables.exec = Jvm.exec) (hb : c.code = cc) {x y : Int32} {off : Int} {tgt : Nat} (hdg : decode cc pc = .ok (.if_icmp .ne off, 3)) (ht : (pc : Int) + off = (tgt : Int)) (kt : ¬ x = y → tg_W p l e R s m args below meth c Q nL D cl F ad ok w L cells slots tgt st) (kf : x = y → tg_W p l e R s m args below meth c Q nL D cl F ad ok w L cells slots (pc + 3) st) : tg_W p l e R s m args below meth c Q nL D cl F ad ok w L cells slots pc (.int y :: .int x :: st) := fun H locs ls hZ h => lv_icmp_ne hx hb hdg ht (fun q => kt q H locs ls hZ h) (fun q => kf q H locs ls hZ h)
theorem tg_if_lt (hx : p.tables.exec = Jvm.exec) (hb : c.code = cc) {x : Int32} {off : Int} {tgt : Nat} (hdg : decode cc pc = .ok (.ifCond .lt off, 3)) (ht : (pc : Int) + off = (tgt : Int)) (kt : x < 0 → tg_W p l e R s m args below meth c Q nL D cl F ad ok w L cells slots tgt st) (kf : ¬ x < 0 → tg_W p l e R s m args below meth c Q nL D cl F ad ok w L cells slots (pc + 3) st) : tg_W p l e R s m args below meth c Q nL D cl F ad ok w L cells slots pc (.int x :: st) := fun H locs ls hZ h => lv_if_lt hx hb hdg ht (fun q => kt q H locs ls hZ h) (fun q => kf q H locs ls hZ h)
theorem tg_icmp_lt (hx : p.tables.exec = Jvm.exec) (hb : c.code = cc) {x y : Int32} {off : Int} {tgt : Nat} (hdg : decode cc pc = .ok (.if_icmp .lt off, 3)) (ht : (pc : Int) + off = (tgt : Int)) (kt : x < y → tg_W p l e R s m args below meth c Q nL D cl F ad ok w L cells slots tgt st) (kf : ¬ x < y → tg_W p l e R s m args below meth c Q nL D cl F ad ok w L cells slots (pc + 3) st) : tg_W p l e R s m args below meth c Q nL D cl F ad ok w L cells slots pc (.int y :: .int x :: st) := fun H locs ls hZ h => lv_icmp_lt hx hb hdg ht (fun q => kt q H locs ls hZ h) (fun q => kf q H locs ls hZ h)
theorem tg_if_ge (hx : p.tables.exec = Jvm.exec) (hb : c.code = cc) {x : Int32} {off : Int} {tgt : Nat} (hdg : decode cc pc = .ok (.ifCond .ge off, 3)) (ht : (pc : Int) + off = (tgt : Int)) (kt : 0 ≤ x → tg_W p l e R s m args below meth c Q nL D cl F ad ok w L cells slots tgt st) (kf : ¬ 0 ≤ x → tg_W p l e R s m args below meth c Q nL D cl F ad ok w L cells slots (pc + 3) st) : tg_W p l e R s m args below meth c Q nL D cl F ad ok w L cells slots pc (.int x :: st) := fun H locs ls hZ h => lv_if_ge hx hb hdg ht (fun q => kt q H locs ls hZ h) (fun q => kf q H locs ls hZ h)
theorem tg_icmp_ge (hx : p.tables.exec = Jvm.exec) (hb : c.code = cc) {x y : Int32} {off : Int} {tgt : Nat} (hdg : decode cc pc = .ok (.if_icmp .ge off, 3)) (ht : (pc : Int) + off = (tgt : Int)) (kt : y ≤ x → tg_W p l e R s m args below meth c Q nL D cl F ad ok w L cells slots tgt st) (kf : ¬ y ≤ x → tg_W p l e R s m args below meth c Q nL D cl F ad ok w L cells slots (pc + 3) st) : tg_W p l e R s m args below meth c Q nL D cl F ad ok w L cells slots pc (.int y :: .int x :: st) := fun H locs ls hZ h => lv_icmp_ge hx hb hdg ht (fun q => kt q H locs ls hZ h) (fun q => kf q H locs ls hZ h)
theorem tg_if_gt (hx : p.tables.exec = Jvm.exec) (hb : c.code = cc) {x : Int32} {off : Int} {tgt : Nat} (hdg : decode cc pc = .ok (.ifCond .gt off, 3)) (ht : (pc : Int) + off = (tgt : Int)) (kt : 0 < x → tg_W p l e R s m args below meth c Q nL D cl F ad ok w L cells slots tgt st) (kf : ¬ 0 < x → tg_W p l e R s m args below meth c Q nL D cl F ad ok w L cells slots (pc + 3) st) : tg_W p l e R s m args below meth c Q nL D cl F ad ok w L cells slots pc (.int x :: st) := fun H locs ls hZ h => lv_if_gt hx hb hdg ht (fun q => kt q H locs ls hZ h) (fun q => kf q H locs ls hZ h)
theorem tg_icmp_gt (hx : p.tables.exec = Jvm.exec) (hb : c.code = cc) {x y : Int32} {off : Int} {tgt : Nat} (hdg : decode cc pc = .ok (.if_icmp .gt off, 3)) (ht : (pc : Int) + off = (tgt : Int)) (kt : y < x → tg_W p l e R s m args below meth c Q nL D cl F ad ok w L cells slots tgt st) (kf : ¬ y < x → tg_W p l e R s m args below meth c Q nL D cl F ad ok w L cells slots (pc + 3) st) : tg_W p l e R s m args below meth c Q nL D cl F ad ok w L cells slots pc (.int y :: .int x :: st) := fun H locs ls hZ h => lv_icmp_gt hx hb hdg ht (fun q => kt q H locs ls hZ h) (fun q => kf q H locs ls hZ h)
theorem tg_if_le (hx : p.tables.exec = Jvm.exec) (hb : c.code = cc) {x : Int32} {off : Int} {tgt : Nat} (hdg : decode cc pc = .ok (.ifCond .le off, 3)) (ht : (pc : Int) + off = (tgt : Int)) (kt : x ≤ 0 → tg_W p l e R s m args below meth c Q nL D cl F ad ok w L cells slots tgt st) (kf : ¬ x ≤ 0 → tg_W p l e R s m args below meth c Q nL D cl F ad ok w L cells slots (pc + 3) st) : tg_W p l e R s m args below meth c Q nL D cl F ad ok w L cells slots pc (.int x :: st) := fun H locs ls hZ h => lv_if_le hx hb hdg ht (fun q => kt q H locs ls hZ h) (fun q => kf q H locs ls hZ h)
theorem tg_icmp_le (hx : p.tables.exec = Jvm.exec) (hb : c.code = cc) {x y : Int32} {off : Int} {tgt : Nat} (hdg : decode cc pc = .ok (.if_icmp .le off, 3)) (ht : (pc : Int) + off = (tgt : Int)) (kt : x ≤ y → tg_W p l e R s m args below meth c Q nL D cl F ad ok w L cells slots tgt st) (kf : ¬ x ≤ y → tg_W p l e R s m args below meth c Q nL D cl F ad ok w L cells slots (pc + 3) st) : tg_W p l e R s m args below meth c Q nL D cl F ad ok w L cells slots pc (.int y :: .int x :: st) := fun H locs ls hZ h => lv_icmp_le hx hb hdg ht (fun q => kt q H locs ls hZ h) (fun q => kf q H locs ls hZ h)
theorem tg_acmp_eq (hx : p.tables.exec = Jvm.exec) (hb : c.code = cc) {rx ry : Option Nat} {off : Int} {tgt : Nat} (hdg : decode cc pc = .ok (.if_acmp .eq off, 3)) (ht : (pc : Int) + off = (tgt : Int)) (kt : rx = ry → tg_W p l e R s m args below meth c Q nL D cl F ad ok w L cells slots tgt st) (kf : ¬ rx = ry → tg_W p l e R s m args below meth c Q nL D cl F ad ok w L cells slots (pc + 3) st) : tg_W p l e R s m args below meth c Q nL D cl F ad ok w L cells slots pc (va_rf ry :: va_rf rx :: st) := fun H locs ls hZ h => lv_acmp_eq hx hb hdg ht (fun q => kt q H locs ls hZ h) (fun q => kf q H locs ls hZ h)
theorem tg_acmp_ne (hx : p.tables.exec = Jvm.exec) (hb : c.code = cc) {rx ry : Option Nat} {off : Int} {tgt : Nat} (hdg : decode cc pc = .ok (.if_acmp .ne off, 3)) (ht : (pc : Int) + off = (tgt : Int)) (kt : ¬ rx = ry → tg_W p l e R s m args below meth c Q nL D cl F ad ok w L cells slots tgt st) (kf : rx = ry → tg_W p l e R s m args below meth c Q nL D cl F ad ok w L cells slots (pc + 3) st) : tg_W p l e R s m args below meth c Q nL D cl F ad ok w L cells slots pc (va_rf ry :: va_rf rx :: st) := fun H locs ls hZ h => lv_acmp_ne hx hb hdg ht (fun q => kt q H locs ls hZ h) (fun q => kf q H locs ls hZ h)
theorem tg_goto (hx : p.tables.exec = Jvm.exec) (hb : c.code = cc) {off : Int} {tgt : Nat} (hdg : decode cc pc = .ok (.goto off, 3)) (ht : (pc : Int) + off = (tgt : Int)) (kk : tg_W p l e R s m args below meth c Q nL D cl F ad ok w L cells slots tgt st) : tg_W p l e R s m args below meth c Q nL D cl F ad ok w L cells slots pc st := fun H locs ls hZ h => lv_goto hx hb hdg ht (kk H locs ls hZ h)
theorem tg_ifnull (hx : p.tables.exec = Jvm.exec) (hb : c.code = cc) {x : Nat} {off : Int} (hdg : decode cc pc = .ok (.ifnull off, 3)) (kk : tg_W p l e R s m args below meth c Q nL D cl F ad ok w L cells slots (pc + 3) st) : tg_W p l e R s m args below meth c Q nL D cl F ad ok w L cells slots pc (.ref x :: st) := fun H locs ls hZ h => lv_ifnull hx hb hdg (kk H locs ls hZ h)
theorem tg_ifnullN (hx : p.tables.exec = Jvm.exec) (hb : c.code = cc) {off : Int} {tgt : Nat} (hdg : decode cc pc = .ok (.ifnull off, 3)) (ht : (pc : Int) + off = (tgt : Int)) (kk : tg_W p l e R s m args below meth c Q nL D cl F ad ok w L cells slots tgt st) : tg_W p l e R s m args below meth c Q nL D cl F ad ok w L cells slots pc (.null :: st) := fun H locs ls hZ h => lv_ifnullN hx hb hdg ht (kk H locs ls hZ h)
theorem tg_ifnonnull (hx : p.tables.exec = Jvm.exec) (hb : c.code = cc) {x : Nat} {off : Int} {tgt : Nat} (hdg : decode cc pc = .ok (.ifnonnull off, 3)) (ht : (pc : Int) + off = (tgt : Int)) (kk : tg_W p l e R s m args below meth c Q nL D cl F ad ok w L cells slots tgt st) : tg_W p l e R s m args below meth c Q nL D cl F ad ok w L cells slots pc (.ref x :: st) := fun H locs ls hZ h => lv_ifnonnull hx hb hdg ht (kk H locs ls hZ h)
theorem tg_ifnonnullN (hx : p.tables.exec = Jvm.exec) (hb : c.code = cc) {off : Int} (hdg : decode cc pc = .ok (.ifnonnull off, 3)) (kk : tg_W p l e R s m args below meth c Q nL D cl F ad ok w L cells slots (pc + 3) st) : tg_W p l e R s m args below meth c Q nL D cl F ad ok w L cells slots pc (.null :: st) := fun H locs ls hZ h => lv_ifnonnullN hx hb hdg (kk H locs ls hZ h)
theorem tg_lcmp (hx : p.tables.exec = Jvm.exec) (hb : c.code = cc) {x y : Int64} (hdg : decode cc pc = .ok (.lcmp, 1)) (kk : tg_W p l e R s m args below meth c Q nL D cl F ad ok w L cells slots (pc + 1) (.int (lg_cmp x y) :: st)) : tg_W p l e R s m args below meth c Q nL D cl F ad ok w L cells slots pc (.long y :: .long x :: st) := fun H locs ls hZ h => W.lcmp hx hb hdg (kk H locs ls hZ h)
theorem tg_top {x y : Int32} (he : x = y) (kk : tg_W p l e R s m args below meth c Q nL D cl F ad ok w L cells slots pc (.int y :: st)) : tg_W p l e R s m args below meth c Q nL D cl F ad ok w L cells slots pc (.int x :: st) := he ▸ kk
theorem tg_st {st' : List Value} (he : st = st') (kk : tg_W p l e R s m args below meth c Q nL D cl F ad ok w L cells slots pc st') : tg_W p l e R s m args below meth c Q nL D cl F ad ok w L cells slots pc st := he ▸ kk
theorem tg_sub {L' : List (Nat × Value)} (hl : ∀ q ∈ L', q ∈ L) (kk : tg_W p l e R s m args below meth c Q nL D cl F ad ok w L' cells slots pc st) : tg_W p l e R s m args below meth c Q nL D cl F ad ok w L cells slots pc st := fun H locs ls hZ h => kk H locs ls hZ ⟨h.1, h.2.1, fun q hq => h.2.2 q (hl q hq)⟩
theorem tg_w {w' : Nat → Nat → va_E} (he : w = w') (kk : tg_W p l e R s m args below meth c Q nL D cl F ad ok w' L cells slots pc st) : tg_W p l e R s m args below meth c Q nL D cl F ad ok w L cells slots pc st := he ▸ kk
theorem tg_to {ad' : Nat → Nat → Nat} {ok' : Nat → Nat → Prop} {w' : Nat → Nat → va_E} (ho : ∀ k i, ok' k i → ok k i) (ha : ∀ k i, ok' k i → ad k i = ad' k i) (hw : ∀ k i, ok' k i → w k i = w' k i) (kk : tg_W p l e R s m args below meth c Q nL D cl F ad' ok' w' L cells slots pc st) : tg_W p l e R s m args below meth c Q nL D cl F ad ok w L cells slots pc st := fun H locs ls hZ h => kk H locs ls (hZ.to ho ha hw) h
theorem tg_wp {w' : Nat → Nat → va_E} (hw : ∀ k i, ok k i → w k i = w' k i) (kk : tg_W p l e R s m args below meth c Q nL D cl F ad ok w' L cells slots pc st) : tg_W p l e R s m args below meth c Q nL D cl F ad ok w L cells slots pc st := fun H locs ls hZ h => kk H locs ls (hZ.to (fun _ _ z => z) (fun _ _ _ => rfl) hw) h
theorem tg_inj (kk : (∀ k i k' i', ok k i → ok k' i' → ad k i = ad k' i' → k = k' ∧ i = i') → tg_W p l e R s m args below meth c Q nL D cl F ad ok w L cells slots pc st) : tg_W p l e R s m args below meth c Q nL D cl F ad ok w L cells slots pc st := fun H locs ls hZ h => kk hZ.1.2.1 H locs ls hZ h
theorem tg_widen {k n : Nat} (h1 : cells ≤ k) (h2 : slots ≤ n) (kk : tg_W p l e R s m args below meth c Q nL D cl F ad ok w L k n pc st) : tg_W p l e R s m args below meth c Q nL D cl F ad ok w L cells slots pc st := fun H locs ls hZ h => W.widen h1 h2 (kk H locs ls hZ h)
theorem tg_get (hx : p.tables.exec = Jvm.exec) (hb : c.code = cc) {own ref C : String} {T : u_T} {N ci index k i : Nat} {Ts : List Cond} (hts : ∀ w ∈ Ts, w.before args s = true) (hin : ∀ w ∈ u_ws C T N, w ∈ Ts) (hown : s.vm.findClass own = some m.cls) (hK : va_K D cl tys s) (hk : ok k i) {fs : List Value} (he : w k i = .inr (ci, fs)) (hc : cl[ci]? = some (C, T, N)) (j : Nat) (hj : j < N) (hlink : (Cond.fieldLink own index ref (T j).2.1 (T j).2.2.1).before args s = true) (hsame : ∀ x, s.fieldFound? (T j).1 (T j).2.1 (T j).2.2.1 = some x → s.fieldFound? ref (T j).2.1 (T j).2.2.1 = some x) {v : Value} (hv : fs[j]? = some v) (hdg : decode cc pc = .ok (.getfield index, 3)) (kk : tg_W p l e R s m args below meth c Q nL D cl F ad ok w L cells slots (pc + 3) (v :: st)) : tg_W p l e R s m args below meth c Q nL D cl F ad ok w L cells slots pc (.ref (ad k i) :: st) :=
  fun H locs ls hZ h => va_get hx hb hts hin hown hK (hZ.one hk he) 0 rfl hc j hj hlink hsame hv hdg (kk H locs ls hZ h)
theorem tg_put (hx : p.tables.exec = Jvm.exec) (hb : c.code = cc) {own ref C : String} {T : u_T} {N ci index k i : Nat} {Ts : List Cond} (hts : ∀ w ∈ Ts, w.before args s = true) (hin : ∀ w ∈ u_ws C T N, w ∈ Ts) (ty0 : Nat → FieldType) (hty : ∀ k, k < N → parseFieldDescriptor (T k).2.2.1 = some (ty0 k)) (hnm : ∀ a, a < N → ∀ b, b < N → a ≠ b → (T a).2.1 ≠ (T b).2.1) (hown : s.vm.findClass own = some m.cls) (hK : va_K D cl tys s) (hk : ok k i) {fs : List Value} (he : w k i = .inr (ci, fs)) (hc : cl[ci]? = some (C, T, N)) (j : Nat) (hj : j < N) (hlink : (Cond.fieldLink own index ref (T j).2.1 (T j).2.2.1).before args s = true) (hsame : ∀ x, s.fieldFound? (T j).1 (T j).2.1 (T j).2.2.1 = some x → s.fieldFound? ref (T j).2.1 (T j).2.2.1 = some x) (hfin : (T j).2.2.2 = false) {ty : FieldType} {v : Value} (hd : parseFieldDescriptor (T j).2.2.1 = some ty) (hn : narrow ty v = v) (hfit : fits ty v = true) (hl : j < fs.length) (hdg : decode cc pc = .ok (.putfield index, 3)) (kk : tg_W p l e R s m args below meth c Q nL D cl F ad ok (tg_up w k i (.inr (ci, fs.set j v))) L cells slots (pc + 3) st) : tg_W p l e R s m args below meth c Q nL D cl F ad ok w L cells slots pc (v :: .ref (ad k i) :: st) := by
  intro H locs ls hZ h
  have hap := va_apart (own := own) hts hin ty0 hty hnm hK hc
  obtain ⟨r, h1, cell, q1, q2, q3, q4⟩ := hZ.at_ hk he
  have hr : r = (C, T, N) := Option.some.inj (h1.symm.trans hc)
  subst hr
  obtain ⟨hS, hfc, kC, hkC, hkind⟩ := hK.1 ci _ hc
  obtain ⟨cf, kf, fi, f, hi, hsl⟩ := hS j hj
  have hlay := hts _ (hin _ (u_in_lay hj))
  unfold u_lay at hlay
  rw [if_neg (by rw [hfin]; decide)] at hlay
  have hst := (u_facts hfc hkC (u_lays hts hin hj) hi).1
  have h6 := u_store hfc hkC hkind hlay hi hd hn hfit
  refine W.putK hx hb (f := f) ⟨hown, hlink, ⟨_, _, _, hsame _ hi⟩, hst⟩ (by rw [q2]; exact h6) q1 q3 (by rw [hsl]; exact k2_hasslot (q4 j hj)) rfl rfl hdg fun H' e1 e2 e3 => ?_
  rw [hsl] at e1 ⊢
  exact kk H' _ ls (hZ.put hk ⟨_, hc, t_OB.to (V := updV (vp_V fs) j v) ⟨_, e1, q2, q3, t_set q4 hap hj v⟩ (fun a _ => vp_updV_set hl v a)⟩ e2 e3) h
theorem tg_putF (hx : p.tables.exec = Jvm.exec) (hb : c.code = cc) {own ref C : String} {T : u_T} {N ci index k i : Nat} {Ts : List Cond} (hts : ∀ w ∈ Ts, w.before args s = true) (hin : ∀ w ∈ u_ws C T N, w ∈ Ts) (ty0 : Nat → FieldType) (hty : ∀ k, k < N → parseFieldDescriptor (T k).2.2.1 = some (ty0 k)) (hnm : ∀ a, a < N → ∀ b, b < N → a ≠ b → (T a).2.1 ≠ (T b).2.1) (hown : s.vm.findClass own = some m.cls) (hK : va_K D cl tys s) (hk : ok k i) {fs : List Value} (he : w k i = .inr (ci, fs)) (hc : cl[ci]? = some (C, T, N)) (j : Nat) (hj : j < N) (hlink : (Cond.fieldLink own index ref (T j).2.1 (T j).2.2.1).before args s = true) (hsame : ∀ x, s.fieldFound? (T j).1 (T j).2.1 (T j).2.2.1 = some x → s.fieldFound? ref (T j).2.1 (T j).2.2.1 = some x) (hfin : (T j).2.2.2 = true) (hin2 : meth.name = "<init>") (hdecl : (T j).1 = own) {ty : FieldType} {v : Value} (hd : parseFieldDescriptor (T j).2.2.1 = some ty) (hn : narrow ty v = v) (hfit : fits ty v = true) (hl : j < fs.length) (hdg : decode cc pc = .ok (.putfield index, 3)) (kk : tg_W p l e R s m args below meth c Q nL D cl F ad ok (tg_up w k i (.inr (ci, fs.set j v))) L cells slots (pc + 3) st) : tg_W p l e R s m args below meth c Q nL D cl F ad ok w L cells slots pc (v :: .ref (ad k i) :: st) := by
  intro H locs ls hZ h
  have hap := va_apart (own := own) hts hin ty0 hty hnm hK hc
  obtain ⟨r, h1, cell, q1, q2, q3, q4⟩ := hZ.at_ hk he
  have hr : r = (C, T, N) := Option.some.inj (h1.symm.trans hc)
  subst hr
  obtain ⟨hS, hfc, kC, hkC, hkind⟩ := hK.1 ci _ hc
  obtain ⟨cf, kf, fi, f, hi, hsl⟩ := hS j hj
  have hlay := hts _ (hin _ (u_in_lay hj))
  unfold u_lay at hlay
  rw [if_pos hfin] at hlay
  have hst := (u_facts hfc hkC (u_lays hts hin hj) hi).1
  have hcf : m.cls = cf := by
    obtain ⟨_, _, c', _, _, _, -, -, hf', -, -, -, hown2, -⟩ := Cond.laysFinal_spec hlay
    have e1 : c' = cf := by have := hi.symm.trans hf'; simp at this; exact this.1.symm
    rw [hdecl] at hown2
    rw [← e1]
    exact Option.some.inj (hown.symm.trans hown2)
  have h6 := u_fits hfc hkC hkind (Or.inr hlay) hi hd hn hfit
  refine W.putFinK hx hb hown hlink (hsame _ hi) hst hcf hin2 (by rw [q2]; exact h6) q1 q3 (by rw [hsl]; exact k2_hasslot (q4 j hj)) rfl rfl hdg fun H' e1 e2 e3 => ?_
  rw [hsl] at e1 ⊢
  exact kk H' _ ls (hZ.put hk ⟨_, hc, t_OB.to (V := updV (vp_V fs) j v) ⟨_, e1, q2, q3, t_set q4 hap hj v⟩ (fun a _ => vp_updV_set hl v a)⟩ e2 e3) h
theorem tg_iald (hx : p.tables.exec = Jvm.exec) (hb : c.code = cc) {k i t0 : Nat} (hK : va_K D cl tys s) (hk : ok k i) {cA : ClassId} {n : Nat} {f : Nat → Int32} (ha : w k i = .inl (cA, n, .inl f)) (ht : tys[t0]? = some (cA, .int)) {x : Nat} (hn : n < 2 ^ 31) (hin : x < n) (hdg : decode cc pc = .ok (.iaload, 1)) (kk : tg_W p l e R s m args below meth c Q nL D cl F ad ok w L cells slots (pc + 1) (.int (f x) :: st)) : tg_W p l e R s m args below meth c Q nL D cl F ad ok w L cells slots pc (.int (nI x) :: .ref (ad k i) :: st) := by
  intro H locs ls hZ h
  refine va_iald hx hb hK (hZ.one hk ha) 0 t0 rfl ht (vp_in_nI hin hn) hdg ?_
  rw [nI_clamp (Nat.lt_trans hin hn)]
  exact kk H locs ls hZ h
theorem tg_zald (hx : p.tables.exec = Jvm.exec) (hb : c.code = cc) {k i t0 : Nat} (hK : va_K D cl tys s) (hk : ok k i) {cA : ClassId} {n : Nat} {f : Nat → Int32} (ha : w k i = .inl (cA, n, .inl f)) (ht : tys[t0]? = some (cA, .boolean)) {x : Nat} (hn : n < 2 ^ 31) (hin : x < n) (hdg : decode cc pc = .ok (.baload, 1)) (kk : tg_W p l e R s m args below meth c Q nL D cl F ad ok w L cells slots (pc + 1) (.int (f x) :: st)) : tg_W p l e R s m args below meth c Q nL D cl F ad ok w L cells slots pc (.int (nI x) :: .ref (ad k i) :: st) := by
  intro H locs ls hZ h
  refine va_zald hx hb hK (hZ.one hk ha) 0 t0 rfl ht (vp_in_nI hin hn) hdg ?_
  rw [nI_clamp (Nat.lt_trans hin hn)]
  exact kk H locs ls hZ h
theorem tg_lald (hx : p.tables.exec = Jvm.exec) (hb : c.code = cc) {k i t0 : Nat} (hK : va_K D cl tys s) (hk : ok k i) {cA : ClassId} {n : Nat} {f : Nat → Int64} (ha : w k i = .inl (cA, n, .inr (.inl f))) (ht : tys[t0]? = some (cA, .long)) {x : Nat} (hn : n < 2 ^ 31) (hin : x < n) (hdg : decode cc pc = .ok (.laload, 1)) (kk : tg_W p l e R s m args below meth c Q nL D cl F ad ok w L cells slots (pc + 1) (.long (f x) :: st)) : tg_W p l e R s m args below meth c Q nL D cl F ad ok w L cells slots pc (.int (nI x) :: .ref (ad k i) :: st) := by
  intro H locs ls hZ h
  refine va_lald hx hb hK (hZ.one hk ha) 0 t0 rfl ht (vp_in_nI hin hn) hdg ?_
  rw [nI_clamp (Nat.lt_trans hin hn)]
  exact kk H locs ls hZ h
theorem tg_aald (hx : p.tables.exec = Jvm.exec) (hb : c.code = cc) {k i t0 : Nat} (hK : va_K D cl tys s) (hk : ok k i) {cA : ClassId} {n : Nat} {C : String} {f : Nat → Option Nat} (ha : w k i = .inl (cA, n, .inr (.inr (.inr (.inr f))))) (ht : tys[t0]? = some (cA, .object C)) {x : Nat} (hn : n < 2 ^ 31) (hin : x < n) (hdg : decode cc pc = .ok (.aaload, 1)) (kk : tg_W p l e R s m args below meth c Q nL D cl F ad ok w L cells slots (pc + 1) (va_rf (f x) :: st)) : tg_W p l e R s m args below meth c Q nL D cl F ad ok w L cells slots pc (.int (nI x) :: .ref (ad k i) :: st) := by
  intro H locs ls hZ h
  refine va_aldq hx hb hK (hZ.one hk ha) 0 t0 rfl ht (vp_in_nI hin hn) hdg ?_
  rw [nI_clamp (Nat.lt_trans hin hn)]
  exact kk H locs ls hZ h
theorem tg_aaldA (hx : p.tables.exec = Jvm.exec) (hb : c.code = cc) {k i t0 : Nat} (hK : va_K D cl tys s) (hk : ok k i) {cA : ClassId} {n : Nat} {f : Nat → Option Nat} {ty : FieldType} (ha : w k i = .inl (cA, n, .inr (.inr (.inr (.inr f))))) (ht : tys[t0]? = some (cA, ty)) (hty : ty.isReference = true) {x : Nat} (hn : n < 2 ^ 31) (hin : x < n) (hdg : decode cc pc = .ok (.aaload, 1)) (kk : tg_W p l e R s m args below meth c Q nL D cl F ad ok w L cells slots (pc + 1) (va_rf (f x) :: st)) : tg_W p l e R s m args below meth c Q nL D cl F ad ok w L cells slots pc (.int (nI x) :: .ref (ad k i) :: st) := by
  intro H locs ls hZ h
  have hcl := nI_clamp (Nat.lt_trans hin hn)
  refine W.aald (v := va_rf (f x)) (ty := ty) hx hb (hZ.at_ hk ha) ((hK.2 t0 _ ht).1 n (fun j => va_rf (f j))) hty (fun q => by cases q) (by show ¬ (nI x < 0 ∨ (arrV _ _ _).slots.size ≤ _); rw [arrV_size]; exact vp_in_nI hin hn) (by show (arrV _ _ _).slots[_]? = _; rw [hcl, arrV_read _ _ hin]) rfl rfl hdg (kk H locs ls hZ h)
theorem tg_iast (hx : p.tables.exec = Jvm.exec) (hb : c.code = cc) {k i t0 : Nat} (hK : va_K D cl tys s) (hk : ok k i) {cA : ClassId} {n : Nat} {f : Nat → Int32} (ha : w k i = .inl (cA, n, .inl f)) (ht : tys[t0]? = some (cA, .int)) {x : Nat} {v : Int32} (hn : n < 2 ^ 31) (hin : x < n) (hdg : decode cc pc = .ok (.iastore, 1)) (kk : tg_W p l e R s m args below meth c Q nL D cl F ad ok (tg_up w k i (.inl (cA, n, .inl (upd f x v)))) L cells slots (pc + 1) st) : tg_W p l e R s m args below meth c Q nL D cl F ad ok w L cells slots pc (.int v :: .int (nI x) :: .ref (ad k i) :: st) := by
  intro H locs ls hZ h
  have hcl := nI_clamp (Nat.lt_trans hin hn)
  refine W.iast hx hb (hZ.at_ hk ha) ((hK.2 t0 _ ht).1 n (fun j => .int (f j)))  (fun q => by cases q) (by show ¬ (nI x < 0 ∨ (arrV _ _ _).slots.size ≤ _); rw [arrV_size]; exact vp_in_nI hin hn) rfl rfl hdg fun H1 e1 e2 e3 => ?_
  refine kk H1 _ ls (hZ.put hk ?_ e2 e3) h
  show H1[ad k i]? = some (vp_cell _ _)
  rw [e1, vp_cell_i, vp_cell_i, arrV_store, hcl]
  congr 2
  funext q
  by_cases hq : q = x
  · subst hq
    simp [updV, upd]
  · simp [updV, upd, hq]
theorem tg_last (hx : p.tables.exec = Jvm.exec) (hb : c.code = cc) {k i t0 : Nat} (hK : va_K D cl tys s) (hk : ok k i) {cA : ClassId} {n : Nat} {f : Nat → Int64} (ha : w k i = .inl (cA, n, .inr (.inl f))) (ht : tys[t0]? = some (cA, .long)) {x : Nat} {v : Int64} (hn : n < 2 ^ 31) (hin : x < n) (hdg : decode cc pc = .ok (.lastore, 1)) (kk : tg_W p l e R s m args below meth c Q nL D cl F ad ok (tg_up w k i (.inl (cA, n, .inr (.inl (vp_updL f x v))))) L cells slots (pc + 1) st) : tg_W p l e R s m args below meth c Q nL D cl F ad ok w L cells slots pc (.long v :: .int (nI x) :: .ref (ad k i) :: st) := by
  intro H locs ls hZ h
  have hcl := nI_clamp (Nat.lt_trans hin hn)
  refine W.last hx hb (hZ.at_ hk ha) ((hK.2 t0 _ ht).1 n (fun j => .long (f j)))  (fun q => by cases q) (by show ¬ (nI x < 0 ∨ (arrV _ _ _).slots.size ≤ _); rw [arrV_size]; exact vp_in_nI hin hn) rfl rfl hdg fun H1 e1 e2 e3 => ?_
  refine kk H1 _ ls (hZ.put hk ?_ e2 e3) h
  show H1[ad k i]? = some (vp_cell _ _)
  rw [e1, vp_cell_l, vp_cell_l, arrV_store, hcl]
  congr 2
  funext q
  by_cases hq : q = x
  · subst hq
    simp [updV, vp_updL]
  · simp [updV, vp_updL, hq]
theorem tg_zast (hx : p.tables.exec = Jvm.exec) (hb : c.code = cc) {k i t0 : Nat} (hK : va_K D cl tys s) (hk : ok k i) {cA : ClassId} {n : Nat} {f : Nat → Int32} (ha : w k i = .inl (cA, n, .inl f)) (ht : tys[t0]? = some (cA, .boolean)) {x : Nat} {v : Int32} (hv : vp_nar .boolean v = v) (hn : n < 2 ^ 31) (hin : x < n) (hdg : decode cc pc = .ok (.bastore, 1)) (kk : tg_W p l e R s m args below meth c Q nL D cl F ad ok (tg_up w k i (.inl (cA, n, .inl (upd f x v)))) L cells slots (pc + 1) st) : tg_W p l e R s m args below meth c Q nL D cl F ad ok w L cells slots pc (.int v :: .int (nI x) :: .ref (ad k i) :: st) := by
  intro H locs ls hZ h
  have hcl := nI_clamp (Nat.lt_trans hin hn)
  refine W.zast hx hb (hZ.at_ hk ha) ((hK.2 t0 _ ht).1 n (fun j => .int (f j))) (fun q => by cases q) (by show ¬ (nI x < 0 ∨ (arrV _ _ _).slots.size ≤ _); rw [arrV_size]; exact vp_in_nI hin hn) rfl rfl hdg fun H1 e1 e2 e3 => ?_
  refine kk H1 _ ls (hZ.put hk ?_ e2 e3) h
  show H1[ad k i]? = some (vp_cell _ _)
  rw [e1, vp_cell_i, vp_cell_i, arrV_store, hcl]
  congr 2
  funext q
  by_cases hq : q = x
  · subst hq
    have hv' : Value.int (vp_nar .boolean v) = .int v := by rw [hv]
    simp only [updV, upd, if_pos]
    exact hv'
  · simp [updV, upd, hq]
theorem tg_aast (hx : p.tables.exec = Jvm.exec) (hb : c.code = cc) {k i t0 : Nat} (hK : va_K D cl tys s) (hk : ok k i) {cA : ClassId} {n : Nat} {k' i' ci : Nat} {r : vw_C} {vs : List Value} {f : Nat → Option Nat} (ha : w k i = .inl (cA, n, .inr (.inr (.inr (.inr f))))) (ht : tys[t0]? = some (cA, .object r.1)) (hk' : ok k' i') (hv : w k' i' = .inr (ci, vs)) (hc : cl[ci]? = some r) {x : Nat} (hn : n < 2 ^ 31) (hin : x < n) (hdg : decode cc pc = .ok (.aastore, 1)) (kk : tg_W p l e R s m args below meth c Q nL D cl F ad ok (tg_up w k i (.inl (cA, n, .inr (.inr (.inr (.inr (va_up f x (some (ad k' i'))))))))) L cells slots (pc + 1) st) : tg_W p l e R s m args below meth c Q nL D cl F ad ok w L cells slots pc (.ref (ad k' i') :: .int (nI x) :: .ref (ad k i) :: st) := by
  intro H locs ls hZ h
  have hcx := nI_clamp (Nat.lt_trans hin hn)
  have hi := vp_in_nI hin hn
  obtain ⟨r', hr', cellV, g1, g2, g3, -⟩ := hZ.at_ hk' hv
  have hcls := (hK.1 ci r hc).2
  obtain ⟨kA, comp, k1, k2, k3, -⟩ := (hK.2 t0 _ ht).2
  have hcomp : comp = D.1 ci := Option.some.inj (k3.symm.trans hcls.1)
  subst hcomp
  obtain ⟨kC, hkC, -⟩ := hcls.2
  refine W.aast hx hb (hZ.at_ hk ha) (fun q h => by cases h) (fun h => by cases h) k1 k2 rfl hkC ⟨fun q => hi (Or.inl q), by show _ < (arrV _ _ _).slots.size; rw [arrV_size]; exact Nat.not_le.mp fun q => hi (Or.inr q)⟩ g1 (fun q h => by rw [g3] at h; cases h) (by rw [g2]; exact hkC) (by rw [g2]; exact va_assign hcls) rfl rfl hdg fun H1 e1 e2 e3 => ?_
  refine kk H1 _ ls (hZ.put hk ?_ e2 e3) h
  show H1[ad k i]? = some (vp_cell _ _)
  rw [e1, vp_cell_q, vp_cell_q, arrV_store, hcx]
  congr 2
  funext q
  by_cases hq : q = x
  · subst hq
    simp [updV, va_up, va_rf]
  · simp [updV, va_up, hq]
theorem tg_aastN (hx : p.tables.exec = Jvm.exec) (hb : c.code = cc) {k i t0 : Nat} (hK : va_K D cl tys s) (hk : ok k i) {cA : ClassId} {n : Nat} {C : String} {f : Nat → Option Nat} (ha : w k i = .inl (cA, n, .inr (.inr (.inr (.inr f))))) (ht : tys[t0]? = some (cA, .object C)) {x : Nat} (hn : n < 2 ^ 31) (hin : x < n) (hdg : decode cc pc = .ok (.aastore, 1)) (kk : tg_W p l e R s m args below meth c Q nL D cl F ad ok (tg_up w k i (.inl (cA, n, .inr (.inr (.inr (.inr (va_up f x none))))))) L cells slots (pc + 1) st) : tg_W p l e R s m args below meth c Q nL D cl F ad ok w L cells slots pc (.null :: .int (nI x) :: .ref (ad k i) :: st) := by
  intro H locs ls hZ h
  have hcx := nI_clamp (Nat.lt_trans hin hn)
  refine va_WaastN (C := C) hx hb (hZ.at_ hk ha) ((hK.2 t0 _ ht).1 n (fun j => va_rf (f j))) (fun h => by cases h) (by show ¬ (nI x < 0 ∨ (arrV _ _ _).slots.size ≤ _); rw [arrV_size]; exact vp_in_nI hin hn) rfl rfl hdg fun H1 e1 e2 e3 => ?_
  refine kk H1 _ ls (hZ.put hk ?_ e2 e3) h
  show H1[ad k i]? = some (vp_cell _ _)
  rw [e1, vp_cell_q, vp_cell_q, arrV_store, hcx]
  congr 2
  funext q
  by_cases hq : q = x
  · subst hq
    simp [updV, va_up, va_rf]
  · simp [updV, va_up, hq]
theorem tg_new (hx : p.tables.exec = Jvm.exec) (hb : c.code = cc) (k i : Nat) {own C : String} {T : u_T} {N ci index : Nat} {Ts : List Cond} (hts : ∀ w ∈ Ts, w.before args s = true) (hin : ∀ w ∈ u_ws C T N, w ∈ Ts) (ty : Nat → FieldType) (hty : ∀ k, k < N → parseFieldDescriptor (T k).2.2.1 = some (ty k)) (hown : s.vm.findClass own = some m.cls) (hcl : (Cond.classLink own index C).before args s = true) (hinst : (Cond.instantiable C N).before args s = true) (hini : (Cond.initialized C).before args s = true)
    (hK : va_K D cl tys s) (hc : cl[ci]? = some (C, T, N)) {fs : List Value} (hfs : ∀ j, j < N → defaultValue (ty j) = vp_V fs j) (hcells : cells + 1 ≤ R.cells) (hslots : slots + N ≤ R.slots) (hdg : decode cc pc = .ok (.new index, 3))
    (kk : ∀ q : Nat, tg_W p l e R s m args below meth c Q nL D cl F (tg_up ad k i q) (fun a b => ok a b ∨ (a = k ∧ b = i)) (tg_up w k i (.inr (ci, fs))) L (cells + 1) (slots + N) (pc + 3) (.ref q :: st)) : tg_W p l e R s m args below meth c Q nL D cl F ad ok w L cells slots pc st := by
  intro H locs ls hZ h
  have hKn := hK.1 ci _ hc
  refine W.newcK hx hb hown hcl hinst hini rfl hdg hcells hslots hKn.2.1 rfl fun H1 kC hkC e1 z1 o1 => ?_
  exact kk H.size H1 locs ls (hZ.new k i ⟨_, hc, (u_born ty hts hin hKn hkC e1 hty).to hfs⟩ z1 o1) h
theorem tg_newa (hx : p.tables.exec = Jvm.exec) (hb : c.code = cc) (k i : Nat) {atype : ArrayType} (harr : (Cond.arrayClass (newarray.typeOf atype)).before args s = true) {ty : FieldType} (hty : newarray.typeOf atype = ty) {cA : ClassId} (hpr : s.vm.findClass ("[" ++ ty.toString) = some cA)
    {n : Int32} {N' : Nat} {a0 : vp_A} (ha : ∀ cA : ClassId, vp_cell cA a0 = arrV cA N' (fun _ => defaultValue ty)) (hn : ¬ n < 0) (hN : n.toNatClampNeg = N') (hbytes : N' * componentBytes ty ≤ 536870912) (hcells : cells + 1 ≤ R.cells) (hslots : slots + N' ≤ R.slots) (hdg : decode cc pc = .ok (.newarray atype, 2))
    (kk : ∀ q : Nat, tg_W p l e R s m args below meth c Q nL D cl F (tg_up ad k i q) (fun a b => ok a b ∨ (a = k ∧ b = i)) (tg_up w k i (.inl (cA, a0))) L (cells + 1) (slots + N') (pc + 2) (.ref q :: st)) : tg_W p l e R s m args below meth c Q nL D cl F ad ok w L cells slots pc (.int n :: st) := by
  intro H locs ls hZ h
  subst hty
  refine va_newaK hx hb harr rfl hdg rfl hn hN hbytes hcells hslots rfl fun H1 cB e1 z1 o1 hAr hNm => ?_
  have hcB : cB = cA := Option.some.inj (hNm.symm.trans hpr)
  subst hcB
  exact kk H.size H1 locs ls (hZ.new k i (x := .inl (cB, a0)) (by show H1[H.size]? = some (vp_cell _ _); rw [ha]; exact e1) z1 o1) h
theorem tg_anew (hx : p.tables.exec = Jvm.exec) (hb : c.code = cc) (k i : Nat) {own C : String} {index t0 : Nat} (hown : s.vm.findClass own = some m.cls) (hclink : (Cond.classLink own index C).before args s = true) (hover : (Cond.arrayOver (.object C)).before args s = true) (hK : va_K D cl tys s) {cA : ClassId} (ht : tys[t0]? = some (cA, .object C))
    {n : Int32} {N' : Nat} (hn : ¬ n < 0) (hN : n.toNatClampNeg = N') (hbytes : N' * 4 ≤ 536870912) (hcells : cells + 1 ≤ R.cells) (hslots : slots + N' ≤ R.slots) (hdg : decode cc pc = .ok (.anewarray index, 3))
    (kk : ∀ q : Nat, tg_W p l e R s m args below meth c Q nL D cl F (tg_up ad k i q) (fun a b => ok a b ∨ (a = k ∧ b = i)) (tg_up w k i (.inl (cA, N', .inr (.inr (.inr (.inr fun _ => none)))))) L (cells + 1) (slots + N') (pc + 3) (.ref q :: st)) : tg_W p l e R s m args below meth c Q nL D cl F ad ok w L cells slots pc (.int n :: st) := by
  intro H locs ls hZ h
  subst hN
  refine W.anew hx hb hown hclink hover rfl hdg rfl hn hbytes hcells hslots fun cB kA comp h1 h2 h3 h4 => ?_
  obtain ⟨kA', comp', k1, k2, k3, k4⟩ := (hK.2 t0 _ ht).2
  have hcB : cB = cA := Option.some.inj (h1.symm.trans k4)
  subst hcB
  refine kk H.size _ locs ls (hZ.new k i ?_ (by simp) (fun q hq => by rw [Array.getElem?_push, if_neg (Nat.ne_of_lt hq)])) h
  show (H.push _)[H.size]? = some (vp_cell _ _)
  rw [vp_cell_q]
  show _ = some (arrV cB n.toNatClampNeg (fun _ => Value.null))
  rw [← arrV_new]
  simp
theorem tg_mmax (hx : p.tables.exec = Jvm.exec) (hb : c.code = cc) (hml : c.maxLocals = nL) {own : String} {index : Nat} (hown : s.vm.findClass own = some m.cls) (hlink : (Cond.methodLink own index Lib.Math.max.name).before args s = true) (hstat : (Cond.static Lib.Math.max.name).before args s = true) (hini : (Cond.initialized "java/lang/Math").before args s = true) (hcode : (Cond.code Lib.Math.max.name Lib.Math.max.code 2 (some .int)).before args s = true) (hframes : 1 ≤ R.frames) (hlocals : (st.map fun v => v.category).sum + 13 ≤ R.locals) (hc : cells ≤ R.cells) (hs : slots ≤ R.slots) {x y : Int32} (hdg : decode cc pc = .ok (.invokestatic index, 3)) (kk : tg_W p l e R s m args below meth c Q nL D cl F ad ok w L cells slots (pc + 3) (.int (if x < y then y else x) :: st)) : tg_W p l e R s m args below meth c Q nL D cl F ad ok w L cells slots pc (.int y :: .int x :: st) :=
  fun H locs ls hZ h => va_mmax hx hb (hml.trans h.1.symm) hown hlink hstat hini hcode hframes hlocals hc hs hdg (kk H locs ls hZ h)
theorem tg_mmin (hx : p.tables.exec = Jvm.exec) (hb : c.code = cc) (hml : c.maxLocals = nL) {own : String} {index : Nat} (hown : s.vm.findClass own = some m.cls) (hlink : (Cond.methodLink own index Lib.Math.min.name).before args s = true) (hstat : (Cond.static Lib.Math.min.name).before args s = true) (hini : (Cond.initialized "java/lang/Math").before args s = true) (hcode : (Cond.code Lib.Math.min.name Lib.Math.min.code 2 (some .int)).before args s = true) (hframes : 1 ≤ R.frames) (hlocals : (st.map fun v => v.category).sum + 13 ≤ R.locals) (hc : cells ≤ R.cells) (hs : slots ≤ R.slots) {x y : Int32} (hdg : decode cc pc = .ok (.invokestatic index, 3)) (kk : tg_W p l e R s m args below meth c Q nL D cl F ad ok w L cells slots (pc + 3) (.int (if y < x then y else x) :: st)) : tg_W p l e R s m args below meth c Q nL D cl F ad ok w L cells slots pc (.int y :: .int x :: st) :=
  fun H locs ls hZ h => va_mmin hx hb (hml.trans h.1.symm) hown hlink hstat hini hcode hframes hlocals hc hs hdg (kk H locs ls hZ h)
end TGW
theorem tg_loop {σ : Type} (I : σ → Prop) (μ : σ → Nat) (G : σ → Prop) (hs : ∀ x, I x → (∀ y, I y → μ y < μ x → G y) → G x) : ∀ x, I x → G x := by
  have key : ∀ (n : Nat) (x : σ), μ x < n → I x → G x := by
    intro n
    induction n with
    | zero => intro x h; omega
    | succ n ih => exact fun x h hI => hs x hI fun y hy hlt => ih y (by omega) hy
  exact fun x hI => key (μ x + 1) x (by omega) hI
/-! contracts over such worlds. Nn: what else is known of the tables and of old cells (texts, links between nest mates); it outlives what is written in F -/
def tg_Mv (F : Nat → Prop) (Nn : State → Heap → Prop) : Prop := (∀ (u U : State) (H : Heap), u.WarmedH U.vm → Nn u H → Nn U H) ∧ (∀ (u U : State) (H : Heap), u.vm = U.vm → Nn u H → Nn U H) ∧ ∀ (U : State) (H H1 : Heap), H.size ≤ H1.size → (∀ q : Nat, q < H.size → ¬ F q → H1[q]? = H[q]?) → Nn U H → Nn U H1
def tg_B (D : va_G) (cl : List vw_C) (tys : List (ClassId × FieldType)) (F : Nat → Prop) (Nn : State → Heap → Prop) (ad : Nat → Nat → Nat) (ok : Nat → Nat → Prop) (w : Nat → Nat → va_E) (U : State) : Prop := tg_Y D cl F ad ok w U.heap ∧ (∀ q, U.heap.size ≤ q → F q) ∧ va_K D cl tys U ∧ Nn U U.heap
def tg_Q (D : va_G) (cl : List vw_C) (F : Nat → Prop) (post : Option Value → (Nat → Nat → Nat) → (Nat → Nat → Prop) → (Nat → Nat → va_E) → Prop) : Array Value → State → Outcome → State → Prop := fun _ st oc t => (∃ (r : Option Value) (ad1 : Nat → Nat → Nat) (ok1 : Nat → Nat → Prop) (w1 : Nat → Nat → va_E), oc = .returned r ∧ post r ad1 ok1 w1 ∧ tg_Y D cl F ad1 ok1 w1 t.heap) ∧ va_F F st t
def tg_Met (l : Launch) (y : MethodName) (ws : List Cond) (rm : Room) (D : va_G) (cl : List vw_C) (tys : List (ClassId × FieldType)) (F : Nat → Prop) (Nn : State → Heap → Prop) (ad : Nat → Nat → Nat) (ok : Nat → Nat → Prop) (w : Nat → Nat → va_E) (av : List Value) (post : Option Value → (Nat → Nat → Nat) → (Nat → Nat → Prop) → (Nat → Nat → va_E) → Prop) : Prop :=
  Met l y ws rm (va_Pc av (tg_B D cl tys F Nn ad ok w)) (tg_Q D cl F post) rm.cells rm.slots F
/-- a post that makes nothing: an answer, and the cells as they then are -/
def tg_po (ad : Nat → Nat → Nat) (ok : Nat → Nat → Prop) (po : Option Value → (Nat → Nat → va_E) → Prop) : Option Value → (Nat → Nat → Nat) → (Nat → Nat → Prop) → (Nat → Nat → va_E) → Prop := fun r ad1 ok1 w1 => ad1 = ad ∧ ok1 = ok ∧ po r w1
theorem tg_B.blind {D : va_G} {cl : List vw_C} {tys : List (ClassId × FieldType)} {F : Nat → Prop} {Nn : State → Heap → Prop} {ad : Nat → Nat → Nat} {ok : Nat → Nat → Prop} {w : Nat → Nat → va_E} {av : List Value} (hMv : tg_Mv F Nn) : FrameBlind (va_Pc av (tg_B D cl tys F Nn ad ok w)) := fun a U g mk q => by
  obtain ⟨q0, q1, q2, q3, q4⟩ := q
  exact ⟨q0, q1, q2, va_K.moved (u := U) (U := U.calling g mk a) (Vm.Alike.refl U.vm) q3, hMv.2.1 U (U.calling g mk a) _ rfl q4⟩
section TGC
variable {p : Program} {l : Launch} {e : Env} {R : Room} {s : State} {m : MethodId} {args : Array Value} {below : List Frame} {meth : Method} {c : Code} {cells slots : Nat} {Q : State → Prop}
variable {cc bytes : ByteArray} {pc nL maxL index n : Nat} {st : List Value} {D : va_G} {cl : List vw_C} {tys : List (ClassId × FieldType)} {F : Nat → Prop} {Nn : State → Heap → Prop} {ad : Nat → Nat → Nat} {ok : Nat → Nat → Prop} {w : Nat → Nat → va_E} {L : List (Nat × Value)}
variable {y : MethodName} {ws ws' Ts : List Cond} {rm : Room} {ret : Option FieldType} {own C host : String} {As rest : List Value} {post : Option Value → (Nat → Nat → Nat) → (Nat → Nat → Prop) → (Nat → Nat → va_E) → Prop}
theorem tg_pre {H : Heap} {locs : List Loc} (hMv : tg_Mv F Nn) (hZ : tg_Z D cl F ad ok w s.heap H locs) (hK : va_K D cl tys s) (hN : Nn s s.heap) {av : List Value} : PreS s H (va_Pc av (tg_B D cl tys F Nn ad ok w)) av :=
  ⟨tg_B.blind hMv, fun U hU hW => ⟨rfl, by rw [hU]; exact hZ.1, by rw [hU]; exact fun q h => hZ.2.1 q (Nat.le_trans hZ.2.2.1 h), va_K.moved hW.alike hK, by
    rw [hU]
    exact hMv.1 s U H hW (hMv.2.2 s s.heap H hZ.2.2.1 hZ.2.2.2.1 hN)⟩⟩
theorem tg_preV {H : Heap} {locs : List Loc} (hMv : tg_Mv F Nn) (hZ : tg_Z D cl F ad ok w s.heap H locs) (hK : va_K D cl tys s) (hN : Nn s s.heap) {k i ci : Nat} (hk : ok k i) {fs : List Value} (he : w k i = .inr (ci, fs)) {q : vw_C} (hc : cl[ci]? = some q) {av : List Value} : PreV s H q.1 (ad k i) (va_Pc (.ref (ad k i) :: av) (tg_B D cl tys F Nn ad ok w)) av :=
  ⟨(tg_pre (av := .ref (ad k i) :: av) hMv hZ hK hN).1, va_recv (q0 := 0) hK (hZ.one hk he) hc rfl, (tg_pre (av := .ref (ad k i) :: av) hMv hZ hK hN).2⟩
theorem tg_call {st0 : List Value} {a : Array Value} (hr : ∀ (H : Heap) (locs : List Loc) (ls : Array Slot), tg_Z D cl F ad ok w s.heap H locs → lv_has ls nL L → va_Run p l e R s m args below meth c H locs cells slots rm.cells rm.slots (F0 m pc ls st0) rest (tg_Q D cl F post a) F)
    (kk : ∀ (r : Option Value) (ad1 : Nat → Nat → Nat) (ok1 : Nat → Nat → Prop) (w1 : Nat → Nat → va_E), post r ad1 ok1 w1 → tg_W p l e R s m args below meth c Q nL D cl F ad1 ok1 w1 L (cells + rm.cells) (slots + rm.slots) (pc + 3) (r.toList ++ rest)) : tg_W p l e R s m args below meth c Q nL D cl F ad ok w L cells slots pc st0 := by
  intro H locs ls hZ h T hT X
  obtain ⟨v, st₀, t, T', LL, h0, X', hL, e1, e2, ⟨⟨r, ad1, ok1, w1, hv, hp, hY⟩, hz, hk⟩, stp⟩ := hr H locs ls hZ h T hT X
  cases hv
  rw [h0] at hz hk
  obtain ⟨-, g3, g4⟩ := hZ
  obtain ⟨t2, a1, b1⟩ := kk v ad1 ok1 w1 hp T'.heap (locs ++ LL) ls ⟨by rw [e1]; exact hY, g3, Nat.le_trans g4.1 (by rw [e1]; exact hz), fun q h1 h2 => by rw [e1, hk q (Nat.lt_of_lt_of_le h1 g4.1) h2]; exact g4.2.1 q h1 h2, fun q hq => by
    rcases List.mem_append.mp hq with h | h
    · exact g4.2.2 q h
    · exact hL q h⟩ h T' rfl X'
  exact ⟨t2, stp t2 a1, b1⟩
theorem tg_callS (S : CallFix p m c cc nL s args Ts own) (hK : va_K D cl tys s) (hN : Nn s s.heap) (hMv : tg_Mv F Nn) (hM : tg_Met l y ws rm D cl tys F Nn ad ok w As post) (cw : CallB R s args own index y bytes maxL ret ws rm rm.cells rm.slots n ∧ (Cond.static y).before args s = true) (hn : As.length = n) (hW : (rest.map fun v => v.category).sum ≤ 8) (hf : cells + rm.cells ≤ R.cells ∧ slots + rm.slots ≤ R.slots) (hst : st = As.reverse ++ rest) (hdg : decode cc pc = .ok (.invokestatic index, 3)) (kk : ∀ (r : Option Value) (ad1 : Nat → Nat → Nat) (ok1 : Nat → Nat → Prop) (w1 : Nat → Nat → va_E), post r ad1 ok1 w1 → tg_W p l e R s m args below meth c Q nL D cl F ad1 ok1 w1 L (cells + rm.cells) (slots + rm.slots) (pc + 3) (r.toList ++ rest)) : tg_W p l e R s m args below meth c Q nL D cl F ad ok w L cells slots pc st := by
  subst hst
  exact tg_call (rm := rm) (fun H locs ls hZ h => va_runS S hM cw (tg_pre hMv hZ hK hN) rfl hn h.1 rfl (lv_room hW) hdg hf) kk
theorem tg_callSN (S : CallFix p m c cc nL s args Ts own) (hK : va_K D cl tys s) (hN : Nn s s.heap) (hMv : tg_Mv F Nn) (hM : tg_Met l y ws rm D cl tys F Nn ad ok w As post) (cw : va_CN R s args own index y host bytes maxL ret ws rm rm.cells rm.slots n ∧ (Cond.static y).before args s = true ∧ True) (hn : As.length = n) (hW : (rest.map fun v => v.category).sum ≤ 8) (hf : cells + rm.cells ≤ R.cells ∧ slots + rm.slots ≤ R.slots) (hst : st = As.reverse ++ rest) (hdg : decode cc pc = .ok (.invokestatic index, 3)) (kk : ∀ (r : Option Value) (ad1 : Nat → Nat → Nat) (ok1 : Nat → Nat → Prop) (w1 : Nat → Nat → va_E), post r ad1 ok1 w1 → tg_W p l e R s m args below meth c Q nL D cl F ad1 ok1 w1 L (cells + rm.cells) (slots + rm.slots) (pc + 3) (r.toList ++ rest)) : tg_W p l e R s m args below meth c Q nL D cl F ad ok w L cells slots pc st := by
  subst hst
  exact tg_call (rm := rm) (fun H locs ls hZ h => va_runSN S hM cw (tg_pre hMv hZ hK hN) rfl hn h.1 rfl (lv_room hW) hdg hf) kk
theorem tg_callV (S : CallFix p m c cc nL s args Ts own) (hK : va_K D cl tys s) (hN : Nn s s.heap) (hMv : tg_Mv F Nn) {k i ci : Nat} (hk : ok k i) {fs : List Value} (he : w k i = .inr (ci, fs)) {q : vw_C} (hc : cl[ci]? = some q) (hC : q.1 = C) (hM : tg_Met l y ws rm D cl tys F Nn ad ok w (.ref (ad k i) :: As) post) (cw : CallW R s args own C index y bytes maxL ret ws rm rm.cells rm.slots n) (hn : As.length = n) (hW : (rest.map fun v => v.category).sum ≤ 8) (hf : cells + rm.cells ≤ R.cells ∧ slots + rm.slots ≤ R.slots) (hst : st = As.reverse ++ .ref (ad k i) :: rest) (hdg : decode cc pc = .ok (.invokevirtual index, 3)) (kk : ∀ (r : Option Value) (ad1 : Nat → Nat → Nat) (ok1 : Nat → Nat → Prop) (w1 : Nat → Nat → va_E), post r ad1 ok1 w1 → tg_W p l e R s m args below meth c Q nL D cl F ad1 ok1 w1 L (cells + rm.cells) (slots + rm.slots) (pc + 3) (r.toList ++ rest)) : tg_W p l e R s m args below meth c Q nL D cl F ad ok w L cells slots pc st := by
  subst hC
  subst hst
  exact tg_call (rm := rm) (fun H locs ls hZ h => va_runV S hM cw (tg_preV hMv hZ hK hN hk he hc) rfl hn h.1 rfl (lv_room hW) hdg hf) kk
theorem tg_callVN (S : CallFix p m c cc nL s args Ts own) (hK : va_K D cl tys s) (hN : Nn s s.heap) (hMv : tg_Mv F Nn) {k i ci : Nat} (hk : ok k i) {fs : List Value} (he : w k i = .inr (ci, fs)) {q : vw_C} (hc : cl[ci]? = some q) (hC : q.1 = C) (hM : tg_Met l y ws rm D cl tys F Nn ad ok w (.ref (ad k i) :: As) post) (cw : va_CN R s args own index y host bytes maxL ret ws rm rm.cells rm.slots n ∧ (Cond.instanceMethod y).before args s = true ∧ (Cond.selects C y y).before args s = true) (hn : As.length = n) (hW : (rest.map fun v => v.category).sum ≤ 8) (hf : cells + rm.cells ≤ R.cells ∧ slots + rm.slots ≤ R.slots) (hst : st = As.reverse ++ .ref (ad k i) :: rest) (hdg : decode cc pc = .ok (.invokevirtual index, 3)) (kk : ∀ (r : Option Value) (ad1 : Nat → Nat → Nat) (ok1 : Nat → Nat → Prop) (w1 : Nat → Nat → va_E), post r ad1 ok1 w1 → tg_W p l e R s m args below meth c Q nL D cl F ad1 ok1 w1 L (cells + rm.cells) (slots + rm.slots) (pc + 3) (r.toList ++ rest)) : tg_W p l e R s m args below meth c Q nL D cl F ad ok w L cells slots pc st := by
  subst hC
  subst hst
  exact tg_call (rm := rm) (fun H locs ls hZ h => va_runVN S hM cw (tg_preV hMv hZ hK hN hk he hc) rfl hn h.1 rfl (lv_room hW) hdg hf) kk
theorem tg_callI (S : CallFix p m c cc nL s args Ts own) (hK : va_K D cl tys s) (hN : Nn s s.heap) (hMv : tg_Mv F Nn) {b : Nat} (hM : tg_Met l y ws rm D cl tys F Nn ad ok w (.ref b :: As) post) (cw : CallB R s args own index y bytes maxL none ws rm rm.cells rm.slots n ∧ y.name = "<init>" ∧ (Cond.instanceMethod y).before args s = true) (hn : As.length = n) (hW : (rest.map fun v => v.category).sum ≤ 8) (hf : cells + rm.cells ≤ R.cells ∧ slots + rm.slots ≤ R.slots) (hst : st = As.reverse ++ .ref b :: rest) (hdg : decode cc pc = .ok (.invokespecial index, 3)) (kk : ∀ (r : Option Value) (ad1 : Nat → Nat → Nat) (ok1 : Nat → Nat → Prop) (w1 : Nat → Nat → va_E), post r ad1 ok1 w1 → tg_W p l e R s m args below meth c Q nL D cl F ad1 ok1 w1 L (cells + rm.cells) (slots + rm.slots) (pc + 3) (r.toList ++ rest)) : tg_W p l e R s m args below meth c Q nL D cl F ad ok w L cells slots pc st := by
  subst hst
  exact tg_call (rm := rm) (fun H locs ls hZ h => va_runI S hM cw (tg_pre hMv hZ hK hN) rfl hn h.1 rfl (lv_room hW) hdg hf) kk
theorem tg_callIN (S : CallFix p m c cc nL s args Ts own) (hK : va_K D cl tys s) (hN : Nn s s.heap) (hMv : tg_Mv F Nn) {b : Nat} (hM : tg_Met l y ws rm D cl tys F Nn ad ok w (.ref b :: As) post) (cw : va_CN R s args own index y host bytes maxL none ws rm rm.cells rm.slots n ∧ y.name = "<init>" ∧ (Cond.instanceMethod y).before args s = true) (hn : As.length = n) (hW : (rest.map fun v => v.category).sum ≤ 8) (hf : cells + rm.cells ≤ R.cells ∧ slots + rm.slots ≤ R.slots) (hst : st = As.reverse ++ .ref b :: rest) (hdg : decode cc pc = .ok (.invokespecial index, 3)) (kk : ∀ (r : Option Value) (ad1 : Nat → Nat → Nat) (ok1 : Nat → Nat → Prop) (w1 : Nat → Nat → va_E), post r ad1 ok1 w1 → tg_W p l e R s m args below meth c Q nL D cl F ad1 ok1 w1 L (cells + rm.cells) (slots + rm.slots) (pc + 3) (r.toList ++ rest)) : tg_W p l e R s m args below meth c Q nL D cl F ad ok w L cells slots pc st := by
  subst hst
  exact tg_call (rm := rm) (fun H locs ls hZ h => va_runIN S hM cw (tg_pre hMv hZ hK hN) rfl hn h.1 rfl (lv_room hW) hdg hf) kk
theorem tg_kk {po : Option Value → (Nat → Nat → va_E) → Prop} (hc : rm.cells = 0) (hs : rm.slots = 0) (kk : ∀ (r : Option Value) (w1 : Nat → Nat → va_E), po r w1 → tg_W p l e R s m args below meth c Q nL D cl F ad ok w1 L cells slots pc (r.toList ++ rest)) : ∀ (r : Option Value) (ad1 : Nat → Nat → Nat) (ok1 : Nat → Nat → Prop) (w1 : Nat → Nat → va_E), tg_po ad ok po r ad1 ok1 w1 → tg_W p l e R s m args below meth c Q nL D cl F ad1 ok1 w1 L (cells + rm.cells) (slots + rm.slots) pc (r.toList ++ rest) := by
  intro r ad1 ok1 w1 ⟨h1, h2, h3⟩
  rw [h1, h2, hc, hs]
  exact kk r w1 h3
theorem tg_kv {v : Value} {w' : Nat → Nat → va_E} (hc : rm.cells = 0) (hs : rm.slots = 0) (kk : tg_W p l e R s m args below meth c Q nL D cl F ad ok w' L cells slots pc (v :: rest)) : ∀ (r : Option Value) (ad1 : Nat → Nat → Nat) (ok1 : Nat → Nat → Prop) (w1 : Nat → Nat → va_E), tg_po ad ok (fun r w1 => r = some v ∧ w1 = w') r ad1 ok1 w1 → tg_W p l e R s m args below meth c Q nL D cl F ad1 ok1 w1 L (cells + rm.cells) (slots + rm.slots) pc (r.toList ++ rest) := by
  refine tg_kk hc hs ?_
  intro r w1 ⟨h1, h2⟩
  rw [h1, h2]
  exact kk
theorem tg_kn {w' : Nat → Nat → va_E} (hc : rm.cells = 0) (hs : rm.slots = 0) (kk : tg_W p l e R s m args below meth c Q nL D cl F ad ok w' L cells slots pc rest) : ∀ (r : Option Value) (ad1 : Nat → Nat → Nat) (ok1 : Nat → Nat → Prop) (w1 : Nat → Nat → va_E), tg_po ad ok (fun r w1 => r = none ∧ w1 = w') r ad1 ok1 w1 → tg_W p l e R s m args below meth c Q nL D cl F ad1 ok1 w1 L (cells + rm.cells) (slots + rm.slots) pc (r.toList ++ rest) := by
  refine tg_kk hc hs ?_
  intro r w1 ⟨h1, h2⟩
  rw [h1, h2]
  exact kk
theorem tg_Z.endQ {H : Heap} {locs : List Loc} (hZ : tg_Z D cl F ad ok w s.heap H locs) {r : Option Value} (hp : post r ad ok w) {t : State} (ht : t.heap = H) : tg_Q D cl F post args s (.returned r) t :=
  ⟨⟨r, ad, ok, w, rfl, hp, by rw [ht]; exact hZ.1⟩, hZ.2.2.F ht⟩
theorem tg_iret (hx : p.tables.exec = Jvm.exec) (hb : c.code = cc) (hlocks : meth.locks = false) (hr : meth.sig.returnType = some .int) (hQ : Q = MQ below (tg_Q D cl F post) args s cells slots F) {v : Int32} (hp : post (some (.int v)) ad ok w) (hdg : decode cc pc = .ok (.ireturn, 1)) : tg_W p l e R s m args below meth c Q nL D cl F ad ok w L cells slots pc [.int v] := by
  subst hQ
  exact fun H locs ls hZ h => W.iret hx hb hr (fun t ht hW => hZ.endQ hp ht) hZ.2.2.2.2 hdg hlocks
theorem tg_zret (hx : p.tables.exec = Jvm.exec) (hb : c.code = cc) (hlocks : meth.locks = false) {ty : FieldType} (hr : meth.sig.returnType = some ty) (hQ : Q = MQ below (tg_Q D cl F post) args s cells slots F) {v : Int32} (hn : narrow ty (.int v) = .int v) (hp : post (some (.int v)) ad ok w) (hdg : decode cc pc = .ok (.ireturn, 1)) : tg_W p l e R s m args below meth c Q nL D cl F ad ok w L cells slots pc [.int v] := by
  subst hQ
  exact fun H locs ls hZ h => W.zret hx hb hr hn (fun t ht hW => hZ.endQ hp ht) hZ.2.2.2.2 hdg hlocks
theorem tg_vret (hx : p.tables.exec = Jvm.exec) (hb : c.code = cc) (hlocks : meth.locks = false) (hr : meth.sig.returnType = none) (hQ : Q = MQ below (tg_Q D cl F post) args s cells slots F) (hp : post none ad ok w) (hdg : decode cc pc = .ok (.return_, 1)) : tg_W p l e R s m args below meth c Q nL D cl F ad ok w L cells slots pc [] := by
  subst hQ
  exact fun H locs ls hZ h => W.vret hx hb hr (fun t ht hW => hZ.endQ hp ht) hZ.2.2.2.2 hdg hlocks
theorem tg_aret (hx : p.tables.exec = Jvm.exec) (hb : c.code = cc) (hlocks : meth.locks = false) {N : String} (hr : meth.sig.returnType = some (.object N)) (hQ : Q = MQ below (tg_Q D cl F post) args s cells slots F) {v : Value} (hv : v = .null ∨ ∃ a, v = .ref a) (hp : post (some v) ad ok w) (hdg : decode cc pc = .ok (.areturn, 1)) : tg_W p l e R s m args below meth c Q nL D cl F ad ok w L cells slots pc [v] := by
  subst hQ
  exact fun H locs ls hZ h => W.aret hx hb hr (Or.inl ⟨N, rfl⟩) hv (fun t ht hW => hZ.endQ hp ht) hZ.2.2.2.2 hdg hlocks
/-- a contract's proof begins -/
theorem tg_start {av : List Value} (hy : plainName y.cls = true) (hw : ws = Cond.code y cc maxL ret :: ws') (hlen : (lg_sl av).length ≤ maxL)
    (body : ∀ (p : Program) (e : Env) (R : Room) (s : State) (m : MethodId) (args : Array Value) (below : List Frame) (meth : Method) (c : Code) (Q : State → Prop), p.tables.exec = Jvm.exec → c.code = cc → c.maxLocals = maxL → meth.sig.returnType = ret → meth.locks = false → s.vm.findClass y.cls = some m.cls → meth.name = y.name → (∀ w ∈ ws, w.before args s = true) → va_K D cl tys s → Nn s s.heap → R = (headSpec ws rm).room → Q = MQ below (tg_Q D cl F post) args s rm.cells rm.slots F →
      tg_W p l e R s m args below meth c Q maxL D cl F ad ok w (lv_args 0 av) 0 0 0 []) : tg_Met l y ws rm D cl tys F Nn ad ok w av post := by
  refine Met.ofW (cc := cc) (maxL := maxL) (ret := ret) hy hw ?_
  intro p e s m args below meth c s₁ B hml hv
  obtain ⟨rfl, hY, hF, hK, hN⟩ := hv
  rw [lg_entry_eq]
  exact body p e _ s m _ below meth c _ B.exec B.bytes hml B.returns B.notSynchronized (findClass_of_methodNamed B.named) (name_of_methodNamed B.named B.method).1 (atoms_spec (ws := ws) B.pre) hK hN rfl rfl s.heap [] _ (tg_Z.start hY hF) (lv_entry av hlen)
end TGC
