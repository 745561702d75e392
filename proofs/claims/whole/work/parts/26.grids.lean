/-! multianewarray of two dimensions over worlds by names. The kit has no row for it; the steps of 'make' follow what the library's shelf of laws does (which no row here uses), over cells as the worlds hold them. -/
def mx_f (h i : Nat) : Nat → Option Nat := fun j => if j < i then some (h + 1 + j) else none
def mx_o (cA : ClassId) (n h i : Nat) : Cell := vp_cell cA (n, .inr (.inr (.inr (.inr (mx_f h i)))))
def mx_s (T : State) (cA : ClassId) (n : Nat) (r : Cell) : Nat → State
  | 0 => T.pushCell (mx_o cA n T.heap.size 0)
  | i + 1 => ((mx_s T cA n r i).pushCell r).setCell T.heap.size (mx_o cA n T.heap.size (i + 1))
def mx_l (h : Nat) : Nat → List Loc
  | 0 => []
  | i + 1 => mx_l h i ++ [⟨h, i⟩]
theorem mx_o_set (cA : ClassId) (n h i : Nat) : (mx_o cA n h i).setSlot i (.ref (h + 1 + i)) = mx_o cA n h (i + 1) := by
  unfold mx_o
  rw [vp_cell_q, arrV_store, vp_cell_q]
  congr 1
  funext j
  unfold updV mx_f
  by_cases q : j = i
  · subst q
    simp [va_rf]
  · rw [if_neg q]
    show va_rf (if j < i then some (h + 1 + j) else none) = va_rf (if j < i + 1 then some (h + 1 + j) else none)
    by_cases z : j < i
    · rw [if_pos z, if_pos (by omega)]
    · rw [if_neg z, if_neg (by omega)]
theorem mx_o_0 (cA : ClassId) (n h : Nat) : ({ cls := cA, slots := Array.replicate n Value.null, vm := .none } : Cell) = mx_o cA n h 0 := by
  rw [arrV_new]
  unfold mx_o
  rw [vp_cell_q]
  rfl
theorem mx_o_c (cA : ClassId) (n h i : Nat) : (mx_o cA n h i).cls = cA ∧ (mx_o cA n h i).vm = .none ∧ (mx_o cA n h i).slots.size = n := by
  unfold mx_o
  rw [vp_cell_q]
  exact ⟨rfl, rfl, arrV_size _ _ _⟩
section MXS
variable (T : State) (cA : ClassId) (n : Nat) (r : Cell)
theorem mx_s_f : ∀ i, (mx_s T cA n r i).heap.size = T.heap.size + 1 + i ∧ (mx_s T cA n r i).heap[T.heap.size]? = some (mx_o cA n T.heap.size i) ∧ (mx_s T cA n r i).vm = T.vm ∧ (mx_s T cA n r i).slotsUsed = T.slotsUsed + n + i * r.slots.size
  | 0 => ⟨by simp [mx_s], by simp [mx_s], rfl, by simp [mx_s, (mx_o_c cA n T.heap.size 0).2.2]⟩
  | i + 1 => by
    obtain ⟨a1, a2, a3, a4⟩ := mx_s_f i
    have hlt : T.heap.size < (mx_s T cA n r i).heap.size := by rw [a1]; omega
    have hb : ((mx_s T cA n r i).pushCell r).heap[T.heap.size]? = some (mx_o cA n T.heap.size i) := by
      rw [State.heap_pushCell_of_lt (h := hlt)]
      exact a2
    refine ⟨?_, State.heap_setCell_self hb, by simp [mx_s, a3], ?_⟩
    · simp [mx_s, State.setCell, a1]
      omega
    · simp [mx_s, a4, Nat.succ_mul]
      omega
theorem mx_s_top (f : JFrame) : ∀ i, mx_s (T.setTop f) cA n r i = (mx_s T cA n r i).setTop f
  | 0 => rfl
  | i + 1 => by simp only [mx_s, mx_s_top f i, State.heap_setTop, State.pushCell_setTop, State.setCell_setTop]
end MXS
section MXP
variable {E : CtlPost} {e : Env} {d : Bool} {acts : List Action} {s : State}
theorem mx_new {c comp : ClassId} {k : Class} {ty : FieldType} {n : Nat} {v : Value} (hk : s.vm.classes[c]? = some k) (hkind : k.kind = .array comp ty) (h1 : ¬ n > e.platform.arrayLengthLimit) (h2 : ¬ n * componentBytes ty > e.platform.maxHeapBytes) (hf : fits ty v = true) (hd : v.isDefault = true) {Q : Addr → Pre} (h3 : s.heap.size < e.platform.maxCells) (h4 : s.slotsUsed + n ≤ e.platform.maxSlots)
    (hq : Q s.heap.size d acts (s.pushCell { cls := c, slots := Array.replicate n v, vm := .none })) : wp (Jvm.newArray c n v) Q E e d acts s := by
  have g1 : allocActs (Array.replicate n v) s.heap.size acts = acts := by
    unfold allocActs
    rw [if_pos]
    rw [Array.all_replicate]
    split <;> simp [hd]
  have g2 : ∀ i x, (Array.replicate n v)[i]? = some x → s.fitsSlot c .none i x = true := fun i x hx => by
    rw [Array.getElem?_replicate] at hx
    split at hx
    · cases hx
      simp [State.fitsSlot, State.slotType?, hk, hkind, hf]
    · cases hx
  simp only [Jvm.newArray, Jvm.arrayFits, wp_bind', W.ask, W.ite, h1, if_false, wp_pure', W.theClass, hk, hkind, h2, W.alloc, W.stop, Option.some.injEq, exists_eq_left', Array.size_replicate, g1]
  rw [if_neg (by omega)]
  exact ⟨h3, h4, g2, hq⟩
theorem mx_rf {t : FieldType} (h : t.isReference = true) : fits t .null = true ∧ ∀ a, fits t (.ref a) = true := by
  cases t <;> simp [FieldType.isReference] at h <;> exact ⟨rfl, fun _ => rfl⟩
theorem mx_make {c comp cc : ClassId} {k kc : Class} {t0 ty : FieldType} {n m : Int32} {N M : Nat} (hk : s.vm.classes[c]? = some k) (hkind : k.kind = .array comp t0) (href : t0.isReference = true) (hkc : s.vm.classes[comp]? = some kc) (hkindc : kc.kind = .array cc ty) (hn : ¬ n < 0) (hm : ¬ m < 0) (hN : n.toNatClampNeg = N) (hM : m.toNatClampNeg = M)
    (hl1 : ¬ N > e.platform.arrayLengthLimit) (hh1 : ¬ N * componentBytes t0 > e.platform.maxHeapBytes) (hl2 : ¬ M > e.platform.arrayLengthLimit) (hh2 : ¬ M * componentBytes ty > e.platform.maxHeapBytes) (hdf : fits ty (defaultValue ty) = true) (hdd : (defaultValue ty).isDefault = true)
    (hc : s.heap.size + 1 + N ≤ e.platform.maxCells) (hs : s.slotsUsed + N + N * M ≤ e.platform.maxSlots) {r : Cell} (hr : r = { cls := comp, slots := Array.replicate M (defaultValue ty), vm := .none })
    {Q : Addr → Pre} (hq : ∀ d' acts', Q s.heap.size d' acts' (mx_s s c N r N)) : wp (multianewarray.make c [n, m]) Q E e d acts s := by
  have hrs : r.slots.size = M := by rw [hr]; simp
  have hfind : ([m].find? (· < 0)) = none := by simp [hm]
  rw [multianewarray.make]
  simp only [wp_bind', W.ite, hn, if_false, wp_pure', W.theClass, hk, hkind, Option.some.injEq, exists_eq_left', hN]
  refine mx_new hk hkind hl1 hh1 (mx_rf href).1 rfl (by omega) (by omega) ?_
  simp only [hfind]
  rw [ite_self, wp_bind', Std.Legacy.Range.forIn_eq_forIn_range']
  have hsz : ([:N] : Std.Legacy.Range).size = N := by simp [Std.Legacy.Range.size]
  rw [hsz]
  show wp (forIn (List.range' 0 N 1) PUnit.unit _) _ E e d acts _
  refine wp_forIn_inv (fun rest s' => ∃ i, rest.length + i = N ∧ rest = List.range' i rest.length ∧ s' = mx_s s c N r i) _ _ ⟨0, by simp, by simp, by rw [mx_o_0 c N s.heap.size]; rfl⟩ ?_ ?_
  · rintro x rest s' d' acts' Q' ⟨i, hi, hl, rfl⟩ hnext
    simp only [List.length_cons] at hi hl
    rw [List.range'_succ] at hl
    obtain ⟨hx, hrest⟩ := List.cons.inj hl
    subst hx
    obtain ⟨f1, f2, f3, f4⟩ := mx_s_f s c N r x
    obtain ⟨o1, o2, o3⟩ := mx_o_c c N s.heap.size x
    have hmul : x * M + M ≤ N * M := by
      have := Nat.mul_le_mul_right M (show x + 1 ≤ N by omega)
      rwa [Nat.succ_mul] at this
    rw [hrs] at f4
    simp only [wp_bind']
    rw [multianewarray.make]
    simp only [wp_bind', W.ite, hm, if_false, wp_pure', W.theClass, f3, hkc, hkindc, Option.some.injEq, exists_eq_left', hM]
    refine mx_new (by rw [f3]; exact hkc) hkindc hl2 hh2 hdf hdd (by rw [f1]; omega) (by rw [f4]; omega) ?_
    rw [← hr]
    simp only [W.writeLoc, wp_bind', wp_pure']
    have hlt : s.heap.size < (mx_s s c N r x).heap.size := by rw [f1]; omega
    refine ⟨mx_o c N s.heap.size x, by rw [State.heap_pushCell_of_lt (h := hlt)]; exact f2, by rw [o2]; simp, by rw [o3]; omega, ?_, hnext _ _ _ ⟨x + 1, by omega, hrest, ?_⟩⟩
    · rw [o1, o2]
      simp [State.fitsSlot, State.slotType?, f3, hk, hkind, (mx_rf href).2]
    · rw [f1, mx_o_set]
      rfl
  · rintro s' d' acts' ⟨i, hi, hl, rfl⟩
    simp only [List.length_nil, Nat.zero_add] at hi
    subst hi
    simp only [wp_pure']
    exact hq _ _
end MXP
section MXT
variable {p : Program} {l : Launch} {e : Env} {R : Room} {s : State} {m : MethodId} {args : Array Value} {below : List Frame} {meth : Method} {c : Code} {T : State} {locs : List Loc} {cells slots : Nat}
theorem mx_stand (X : Stand p l e R s m args below meth c T locs cells slots) (cA : ClassId) (n : Nat) (r : Cell) : ∀ i, Stand p l e R s m args below meth c (mx_s T cA n r i) (locs ++ mx_l T.heap.size i) (cells + 1 + i) (slots + n + i * r.slots.size)
  | 0 => by
    have h := X.pushed (mx_o cA n T.heap.size 0)
    rw [(mx_o_c cA n T.heap.size 0).2.2] at h
    simpa [mx_s, mx_l] using h
  | i + 1 => by
    obtain ⟨a1, a2, -, -⟩ := mx_s_f T cA n r i
    have hlt : T.heap.size < (mx_s T cA n r i).heap.size := by rw [a1]; omega
    have hb : ((mx_s T cA n r i).pushCell r).heap[T.heap.size]? = some (mx_o cA n T.heap.size i) := by
      rw [State.heap_pushCell_of_lt (h := hlt)]
      exact a2
    have h := ((mx_stand X cA n r i).pushed r).stored hb i (.ref (T.heap.size + 1 + i))
    rw [mx_o_set] at h
    have e1 : slots + n + (i + 1) * r.slots.size = slots + n + i * r.slots.size + r.slots.size := by rw [Nat.succ_mul]; omega
    rw [e1]
    show Stand p l e R s m args below meth c (((mx_s T cA n r i).pushCell r).setCell T.heap.size (mx_o cA n T.heap.size (i + 1))) (locs ++ (mx_l T.heap.size i ++ [⟨T.heap.size, i⟩])) (cells + 1 + i + 1) (slots + n + i * r.slots.size + r.slots.size)
    rw [← List.append_assoc]
    exact h
end MXT
/-- the names of a grid: k0 the array of rows, k1 its rows -/
def mx_ad (ad : Nat → Nat → Nat) (k0 k1 h : Nat) : Nat → Nat → Nat → Nat
  | 0 => tg_up ad k0 0 h
  | i + 1 => tg_up (mx_ad ad k0 k1 h i) k1 i (h + 1 + i)
def mx_ok (ok : Nat → Nat → Prop) (k0 k1 : Nat) : Nat → Nat → Nat → Prop
  | 0 => fun a b => ok a b ∨ (a = k0 ∧ b = 0)
  | i + 1 => fun a b => mx_ok ok k0 k1 i a b ∨ (a = k1 ∧ b = i)
def mx_w (w : Nat → Nat → va_E) (k0 k1 h n : Nat) (cA : ClassId) (x : va_E) : Nat → Nat → Nat → va_E
  | 0 => tg_up w k0 0 (.inl (cA, n, .inr (.inr (.inr (.inr (mx_f h 0))))))
  | i + 1 => tg_up (tg_up (mx_w w k0 k1 h n cA x i) k1 i x) k0 0 (.inl (cA, n, .inr (.inr (.inr (.inr (mx_f h (i + 1)))))))
section MXW
variable {ad : Nat → Nat → Nat} {ok : Nat → Nat → Prop} {w : Nat → Nat → va_E} {k0 k1 h n : Nat} {cA : ClassId} {x : va_E}
theorem mx_ok_iff : ∀ i a b, mx_ok ok k0 k1 i a b ↔ ok a b ∨ (a = k0 ∧ b = 0) ∨ (a = k1 ∧ b < i)
  | 0, a, b => ⟨fun z => z.elim Or.inl (fun q => Or.inr (Or.inl q)), fun z => z.elim Or.inl (fun q => q.elim Or.inr (fun y => absurd y.2 (Nat.not_lt_zero _)))⟩
  | i + 1, a, b => by
    show mx_ok ok k0 k1 i a b ∨ (a = k1 ∧ b = i) ↔ _
    rw [mx_ok_iff i a b]
    constructor
    · intro z
      rcases z with (z | z | z) | z
      · exact Or.inl z
      · exact Or.inr (Or.inl z)
      · exact Or.inr (Or.inr ⟨z.1, by omega⟩)
      · exact Or.inr (Or.inr ⟨z.1, by omega⟩)
    · intro z
      rcases z with z | z | z
      · exact Or.inl (Or.inl z)
      · exact Or.inl (Or.inr (Or.inl z))
      · by_cases q : b = i
        · exact Or.inr ⟨z.1, q⟩
        · exact Or.inl (Or.inr (Or.inr ⟨z.1, by omega⟩))
theorem mx_ad_0 (hk : k0 ≠ k1) : ∀ i, mx_ad ad k0 k1 h i k0 0 = h
  | 0 => tg_up_self ..
  | i + 1 => by
    show tg_up (mx_ad ad k0 k1 h i) k1 i _ k0 0 = h
    rw [tg_up_ne _ _ (fun z => hk z.1)]
    exact mx_ad_0 hk i
theorem mx_ad_1 : ∀ i j, j < i → mx_ad ad k0 k1 h i k1 j = h + 1 + j
  | 0, j, q => absurd q (Nat.not_lt_zero _)
  | i + 1, j, q => by
    show tg_up (mx_ad ad k0 k1 h i) k1 i _ k1 j = _
    by_cases z : j = i
    · rw [z, tg_up_self]
    · rw [tg_up_ne _ _ (fun y => z y.2)]
      exact mx_ad_1 i j (by omega)
theorem mx_ad_o {a b : Nat} (h1 : ¬ (a = k0 ∧ b = 0)) : ∀ i, ¬ (a = k1 ∧ b < i) → mx_ad ad k0 k1 h i a b = ad a b
  | 0, _ => tg_up_ne _ _ h1
  | i + 1, q => by
    show tg_up (mx_ad ad k0 k1 h i) k1 i _ a b = _
    rw [tg_up_ne _ _ (fun y => q ⟨y.1, by omega⟩)]
    exact mx_ad_o h1 i (fun y => q ⟨y.1, by omega⟩)
theorem mx_w_0 : ∀ i, mx_w w k0 k1 h n cA x i k0 0 = .inl (cA, n, .inr (.inr (.inr (.inr (mx_f h i)))))
  | 0 => tg_up_self ..
  | _ + 1 => tg_up_self ..
theorem mx_w_1 (hk : k0 ≠ k1) : ∀ i j, j < i → mx_w w k0 k1 h n cA x i k1 j = x
  | 0, j, q => absurd q (Nat.not_lt_zero _)
  | i + 1, j, q => by
    show tg_up (tg_up (mx_w w k0 k1 h n cA x i) k1 i x) k0 0 _ k1 j = x
    rw [tg_up_ne _ _ (fun y => hk y.1.symm)]
    by_cases z : j = i
    · rw [z, tg_up_self]
    · rw [tg_up_ne _ _ (fun y => z y.2)]
      exact mx_w_1 hk i j (by omega)
theorem mx_w_o {a b : Nat} (h1 : ¬ (a = k0 ∧ b = 0)) : ∀ i, ¬ (a = k1 ∧ b < i) → mx_w w k0 k1 h n cA x i a b = w a b
  | 0, _ => tg_up_ne _ _ h1
  | i + 1, q => by
    show tg_up (tg_up (mx_w w k0 k1 h n cA x i) k1 i x) k0 0 _ a b = _
    rw [tg_up_ne _ _ h1, tg_up_ne _ _ (fun y => q ⟨y.1, by omega⟩)]
    exact mx_w_o h1 i (fun y => q ⟨y.1, by omega⟩)
variable {D : va_G} {cl : List vw_C} {F : Nat → Prop} {H0 : Heap} {locs : List Loc} {T : State}
theorem mx_Z (hk : k0 ≠ k1) {cR : ClassId} {a0 : vp_A} (hZ : tg_Z D cl F ad ok w H0 T.heap locs) : ∀ i, tg_Z D cl F (mx_ad ad k0 k1 T.heap.size i) (mx_ok ok k0 k1 i) (mx_w w k0 k1 T.heap.size n cA (.inl (cR, a0)) i) H0 (mx_s T cA n (vp_cell cR a0) i).heap (locs ++ mx_l T.heap.size i)
  | 0 => by
    have h := hZ.new (H1 := (mx_s T cA n (vp_cell cR a0) 0).heap) k0 0 (x := .inl (cA, n, .inr (.inr (.inr (.inr (mx_f T.heap.size 0)))))) (mx_s_f T cA n (vp_cell cR a0) 0).2.1 (mx_s_f T cA n (vp_cell cR a0) 0).1 (fun q hq => State.heap_pushCell_of_lt _ _ hq)
    show tg_Z D cl F _ _ _ H0 _ (locs ++ [])
    rw [List.append_nil]
    exact h
  | i + 1 => by
    have h := mx_Z hk (cR := cR) (a0 := a0) hZ i
    obtain ⟨a1, a2, -, -⟩ := mx_s_f T cA n (vp_cell cR a0) i
    obtain ⟨b1, b2, -, -⟩ := mx_s_f T cA n (vp_cell cR a0) (i + 1)
    have h2 := h.new (H1 := ((mx_s T cA n (vp_cell cR a0) i).pushCell (vp_cell cR a0)).heap) k1 i (x := .inl (cR, a0)) (State.heap_pushCell_size _ _) (by simp) (fun q hq => State.heap_pushCell_of_lt _ _ hq)
    rw [a1] at h2
    have e0 : (tg_up (mx_ad ad k0 k1 T.heap.size i) k1 i (T.heap.size + 1 + i)) k0 0 = T.heap.size := by
      rw [tg_up_ne _ _ (fun z => hk z.1)]
      exact mx_ad_0 hk i
    have h3 := h2.put (k := k0) (i := 0) (j := i) (x1 := .inl (cA, n, .inr (.inr (.inr (.inr (mx_f T.heap.size (i + 1))))))) (H1 := (mx_s T cA n (vp_cell cR a0) (i + 1)).heap) (Or.inl ((mx_ok_iff i k0 0).mpr (Or.inr (Or.inl ⟨rfl, rfl⟩)))) (by rw [e0]; exact b2) (by simp [b1, a1]; omega) (fun q hq => by
      rw [e0] at hq
      exact State.heap_setCell_other (fun z => hq z.symm))
    rw [e0] at h3
    show tg_Z D cl F _ _ _ H0 _ (locs ++ (mx_l T.heap.size i ++ [⟨T.heap.size, i⟩]))
    rw [← List.append_assoc]
    exact h3
end MXW
/-- the world with a grid in it -/
def mx_W (w : Nat → Nat → va_E) (k0 k1 n : Nat) (x y : va_E) : Nat → Nat → va_E := fun a b => if a = k0 ∧ b = 0 then x else if a = k1 ∧ b < n then y else w a b
theorem mx_W_ne {w : Nat → Nat → va_E} {k0 k1 n a b : Nat} {x y : va_E} (h0 : a ≠ k0) (h1 : a ≠ k1) : mx_W w k0 k1 n x y a b = w a b := by
  unfold mx_W
  rw [if_neg (fun z => h0 z.1), if_neg (fun z => h1 z.1)]
section MXR
variable {p : Program} {l : Launch} {e : Env} {R : Room} {s : State} {m : MethodId} {args : Array Value} {below : List Frame} {meth : Method} {c : Code} {cells slots : Nat} {Q : State → Prop}
variable {cc : ByteArray} {pc nL : Nat} {st : List Value} {D : va_G} {cl : List vw_C} {tys : List (ClassId × FieldType)} {F : Nat → Prop} {ad : Nat → Nat → Nat} {ok : Nat → Nat → Prop} {w : Nat → Nat → va_E} {L : List (Nat × Value)}
set_option maxHeartbeats 2000000 in
theorem tg_multi (hx : p.tables.exec = Jvm.exec) (hb : c.code = cc) (k0 k1 : Nat) (hk01 : k0 ≠ k1) {own : String} {index : Nat} {ty : FieldType} (hown : s.vm.findClass own = some m.cls) (hclink : (Cond.classLink own index ("[" ++ (FieldType.array ty).toString)).before args s = true) (hover : hg_AA ty s) (harr : (Cond.arrayClass ty).before args s = true)
    (hK : va_K D cl tys s) {cA cR : ClassId} (hpA : s.vm.findClass ("[" ++ (FieldType.array ty).toString) = some cA) (hpR : s.vm.findClass ("[" ++ ty.toString) = some cR) {n k : Int32} {N M : Nat} {a0 : vp_A} (ha : vp_cell cR a0 = arrV cR M (fun _ => defaultValue ty)) (hn : ¬ n < 0) (hk : ¬ k < 0) (hN : n.toNatClampNeg = N) (hM : k.toNatClampNeg = M)
    (hb1 : N * 4 ≤ 536870912) (hb2 : M * componentBytes ty ≤ 536870912) (hb3 : M ≤ 536870912) (hdf : fits ty (defaultValue ty) = true) (hdd : (defaultValue ty).isDefault = true) (hcells : cells + (1 + N) ≤ R.cells) (hslots : slots + (N + N * M) ≤ R.slots) (hdg : decode cc pc = .ok (.multianewarray index 2, 4))
    (kk : ∀ ad' : Nat → Nat → Nat, (∀ a b, ¬ (a = k0 ∧ b = 0) → ¬ (a = k1 ∧ b < N) → ad' a b = ad a b) → tg_W p l e R s m args below meth c Q nL D cl F ad' (fun a b => ok a b ∨ (a = k0 ∧ b = 0) ∨ (a = k1 ∧ b < N)) (mx_W w k0 k1 N (.inl (cA, N, .inr (.inr (.inr (.inr fun j => some (ad' k1 j)))))) (.inl (cR, a0))) L (cells + 1 + N) (slots + N + N * M) (pc + 4) (.ref (ad' k0 0) :: st)) :
    tg_W p l e R s m args below meth c Q nL D cl F ad ok w L cells slots pc (.int k :: .int n :: st) := by
  intro H locs ls hZ h T hT X
  subst hT
  subst hb
  have hpl : e.platform.magicAccessors = ({} : Platform).magicAccessors := by rw [X.admits.platform]
  obtain ⟨comp, cA', kA, hcomp, -, hkA, hkindA, hnameA⟩ := arrayOverA_spec hover
  cases Option.some.inj (hnameA.symm.trans hpA)
  obtain ⟨comp', kC, cc', hcomp', hkC, hkindC⟩ := Cond.arrayClass_spec harr
  cases Option.some.inj (hcomp'.symm.trans hpR)
  have ecomp : comp = cR := Option.some.inj (hcomp.symm.trans hpR)
  subst ecomp
  obtain ⟨c0, hfc0, hcl⟩ := Cond.classLink_spec hown hclink e.platform hpl
  cases hnameA.symm.trans hfc0
  obtain ⟨hg₁, hwarm₁, hready₁⟩ := State.classEntry (e := e) X.warmed hcl
  generalize T.vm.noted m.cls index (.cls cA) = vm₁ at hg₁ hwarm₁ hready₁
  have hal : s.vm.Alike vm₁ := hwarm₁.alike
  obtain ⟨kA₁, hkA₁, heA⟩ := hal.2.2 _ _ hkA
  obtain ⟨kC₁, hkC₁, heC⟩ := hal.2.2 _ _ hkC
  have hkindA₁ : kA₁.kind = .array comp (.array ty) := by rw [heA]; exact hkindA
  have hkindC₁ : kC₁.kind = .array cc' ty := by rw [heC]; exact hkindC
  have X₁ := X.noted hwarm₁
  obtain ⟨hr1, hr2⟩ := X.roomAbove hcells hslots
  have hrc : vp_cell comp a0 = { cls := comp, slots := Array.replicate M (defaultValue ty), vm := .none } := by rw [ha, arrV_new]
  have hrs : (vp_cell comp a0).slots.size = M := by rw [hrc]; simp
  have XF := mx_stand X₁ cA N (vp_cell comp a0) N
  rw [hrs] at XF
  have hZF := mx_Z (T := T.setVm vm₁) (n := N) (cA := cA) (cR := comp) (a0 := a0) hk01 hZ N
  obtain ⟨ad', had⟩ : ∃ z, z = mx_ad ad k0 k1 T.heap.size N := ⟨_, rfl⟩
  have q0 : ad' k0 0 = T.heap.size := by rw [had]; exact mx_ad_0 hk01 N
  have q1 : ∀ j, j < N → ad' k1 j = T.heap.size + 1 + j := fun j hj => by rw [had]; exact mx_ad_1 N j hj
  have q2 : ∀ a b, ¬ (a = k0 ∧ b = 0) → ¬ (a = k1 ∧ b < N) → ad' a b = ad a b := fun a b z1 z2 => by rw [had]; exact mx_ad_o z1 N z2
  have hZ' : tg_Z D cl F ad' (fun a b => ok a b ∨ (a = k0 ∧ b = 0) ∨ (a = k1 ∧ b < N)) (mx_W w k0 k1 N (.inl (cA, N, .inr (.inr (.inr (.inr fun j => some (ad' k1 j)))))) (.inl (comp, a0))) s.heap (mx_s (T.setVm vm₁) cA N (vp_cell comp a0) N).heap (locs ++ mx_l T.heap.size N) := by
    have hz := hZF.to (ad' := ad') (ok' := fun a b => ok a b ∨ (a = k0 ∧ b = 0) ∨ (a = k1 ∧ b < N)) (fun a b z => (mx_ok_iff N a b).mpr z) (fun a b _ => by rw [had]; rfl) (fun _ _ _ => rfl)
    obtain ⟨⟨h1, h2, h3⟩, h4, h5⟩ := hz
    refine ⟨⟨fun a b hab => ?_, h2, h3⟩, h4, h5⟩
    have hat := h1 a b hab
    unfold mx_W
    by_cases z0 : a = k0 ∧ b = 0
    · rw [if_pos z0]
      obtain ⟨rfl, rfl⟩ := z0
      rw [mx_w_0] at hat
      refine (show _ = _ from hat).trans ?_
      show some (vp_cell cA _) = some (vp_cell cA _)
      rw [vp_cell_q, vp_cell_q]
      unfold arrV
      congr 3
      funext j
      show va_rf (mx_f T.heap.size N j.val) = va_rf (some (ad' k1 j.val))
      unfold mx_f
      rw [if_pos j.isLt, q1 j.val j.isLt]
    · rw [if_neg z0]
      by_cases z1 : a = k1 ∧ b < N
      · rw [if_pos z1]
        obtain ⟨rfl, z2⟩ := z1
        rw [mx_w_1 hk01 N b z2] at hat
        exact hat
      · rw [if_neg z1]
        rw [mx_w_o z0 N z1] at hat
        exact hat
  obtain ⟨t, a1, b1⟩ := kk ad' q2 _ _ ls hZ' h _ rfl XF
  refine ⟨t, ?_, b1⟩
  rw [q0] at a1
  have hl1 : ¬ N > e.platform.arrayLengthLimit := by rw [Launch.admits_arrayLengthLimit X.admits]; omega
  have hh1 : ¬ N * componentBytes (.array ty) > e.platform.maxHeapBytes := by
    rw [Launch.admits_maxHeapBytes X.admits]; show ¬ N * 4 > 536870912; omega
  have hl2 : ¬ M > e.platform.arrayLengthLimit := by rw [Launch.admits_arrayLengthLimit X.admits]; omega
  have hh2 : ¬ M * componentBytes ty > e.platform.maxHeapBytes := by rw [Launch.admits_maxHeapBytes X.admits]; omega
  jvm_step X.here [hx, hdg]
  simp only [multianewarray.sem, wp_bind', W.resolveClassAt_links (State.method?_setTop (F0 m pc ls (.int k :: .int n :: st)) X.here.top) hg₁]
  rw [W.popN, if_neg (by decide)]
  refine ⟨F0 m pc ls (.int k :: .int n :: st), State.topJava?_setTop' (s := T.setVm vm₁) _ X.here.top, [.int n, .int k], st, rfl, rfl, ?_⟩
  simp only [List.mapM_cons, List.mapM_nil, wp_bind', wp_pure']
  refine mx_make (k := kA₁) (kc := kC₁) (comp := comp) (cc := cc') (t0 := .array ty) (ty := ty) hkA₁ hkindA₁ rfl hkC₁ hkindC₁ hn hk hN hM hl1 hh1 hl2 hh2 hdf hdd (by show T.heap.size + 1 + _ ≤ _; omega) (by show T.slotsUsed + _ + _ ≤ _; omega) hrc (fun d' acts' => ?_)
  have eS : ((T.setTop (F0 m pc ls (.int k :: .int n :: st))).setVm vm₁).setTop { F0 m pc ls (.int k :: .int n :: st) with stack := st } = (T.setVm vm₁).setTop { F0 m pc ls (.int k :: .int n :: st) with stack := st } := by
    show ((T.setVm vm₁).setTop _).setTop _ = _
    rw [State.setTop_setTop]
  rw [eS, mx_s_top]
  simp only [wp_bind', W.mark, W.pushRef, State.topJava?_setTop' _ XF.here.top, Option.some.injEq, exists_eq_left', State.setTop_setTop, State.heap_setTop]
  intro acts
  simp [jvm, XF.here.top]
  exact a1
end MXR
