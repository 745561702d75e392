/-! an array's length; rows for covering blocks and rows of cells -/
section TGL
variable {p : Program} {l : Launch} {e : Env} {R : Room} {s : State} {m : MethodId} {args : Array Value} {below : List Frame} {meth : Method} {c : Code} {cells slots : Nat} {Q : State → Prop}
variable {cc : ByteArray} {pc nL : Nat} {st : List Value} {D : va_G} {cl : List vw_C} {tys : List (ClassId × FieldType)} {F : Nat → Prop} {ad : Nat → Nat → Nat} {ok : Nat → Nat → Prop} {w : Nat → Nat → va_E} {L : List (Nat × Value)}
theorem tg_alen (hx : p.tables.exec = Jvm.exec) (hb : c.code = cc) {k i t0 : Nat} (hK : va_K D cl tys s) (hk : ok k i) {cA : ClassId} {x : vp_A} (ha : w k i = .inl (cA, x)) {ty : FieldType} (ht : tys[t0]? = some (cA, ty)) {v : Int32} (hv : Int32.ofNat x.1 = v) (hdg : decode cc pc = .ok (.arraylength, 1)) (kk : tg_W p l e R s m args below meth c Q nL D cl F ad ok w L cells slots (pc + 1) (.int v :: st)) : tg_W p l e R s m args below meth c Q nL D cl F ad ok w L cells slots pc (.ref (ad k i) :: st) :=
  fun H locs ls hZ h => va_alen hx hb hK (hZ.one hk ha) 0 t0 rfl ht hv hdg (kk H locs ls hZ h)
end TGL
/-- v at the cells of the columns l .. r, in the rows from t below x and in the row x in the columns below y -/
def hg_cp {α : Type} (f : Nat → α) (t l r x y : Nat) (v : α) : Nat → α := fun c => if (l ≤ c % 20 ∧ c % 20 ≤ r) ∧ t ≤ c / 20 ∧ (c / 20 < x ∨ (c / 20 = x ∧ c % 20 < y)) then v else f c
theorem hg_cp_0 {α : Type} (f : Nat → α) (t l r : Nat) (v : α) : hg_cp f t l r t l v = f := by
  funext c
  exact if_neg (fun h => by omega)
theorem hg_cp_row {α : Type} (f : Nat → α) (t l r x y : Nat) (v : α) (h : r < y) : hg_cp f t l r x y v = hg_cp f t l r (x + 1) l v := by
  funext c
  unfold hg_cp
  by_cases q : (l ≤ c % 20 ∧ c % 20 ≤ r) ∧ t ≤ c / 20 ∧ (c / 20 < x ∨ (c / 20 = x ∧ c % 20 < y))
  · rw [if_pos q, if_pos (by omega)]
  · by_cases tx : t ≤ x
    · rw [if_neg q, if_neg (by omega)]
    · rw [if_neg q, if_neg (by omega)]
theorem hg_cp_step {α : Type} (f : Nat → α) (t l r x y : Nat) (v : α) (hy : y < 20) (h1 : l ≤ y) (h2 : y ≤ r) (h3 : t ≤ x) : va_up (hg_cp f t l r x y v) (20 * x + y) v = hg_cp f t l r x (y + 1) v := by
  funext c
  by_cases q : c = 20 * x + y
  · subst q
    rw [va_up_self]
    exact (if_pos (by omega)).symm
  · rw [va_up_ne _ _ q]
    unfold hg_cp
    by_cases z : (l ≤ c % 20 ∧ c % 20 ≤ r) ∧ t ≤ c / 20 ∧ (c / 20 < x ∨ (c / 20 = x ∧ c % 20 < y))
    · rw [if_pos z, if_pos (by omega)]
    · rw [if_neg z, if_neg (by omega)]
/-- the columns c in the rows t .. below i -/
def hg_or (f : Nat → Int32) (t i : Nat) (c : Int32) : Nat → Int32 := fun row => if t ≤ row ∧ row < i then (f row) ||| c else f row
theorem hg_or_0 (f : Nat → Int32) (t : Nat) (c : Int32) : hg_or f t t c = f := by
  funext row
  exact if_neg (fun h => by omega)
theorem hg_or_step (f : Nat → Int32) {t i : Nat} (c : Int32) (h : t ≤ i) : upd (hg_or f t i c) i ((hg_or f t i c i) ||| c) = hg_or f t (i + 1) c := by
  funext row
  unfold upd hg_or
  by_cases q : row = i
  · subst q
    rw [if_pos rfl, if_neg (by omega), if_pos (by omega)]
  · rw [if_neg q]
    by_cases z : t ≤ row ∧ row < i
    · rw [if_pos z, if_pos (by omega)]
    · rw [if_neg z, if_neg (by omega)]
theorem hg_spup {sp : Nat → Nat → Int32} {f : Nat} {x : Nat → Int32} (h : x = sp f) : va_up sp f x = sp := by
  funext a
  by_cases z : a = f
  · rw [z, va_up_self, h]
  · rw [va_up_ne _ _ z]
theorem hg_aup {a : Nat → Nat → Option Nat} {j : Nat} {x : Nat → Option Nat} (h : x = a j) : va_up a j x = a := by
  funext k
  by_cases z : k = j
  · rw [z, va_up_self, h]
  · rw [va_up_ne _ _ z]
def hg_z (f : Nat → Int32) (i : Nat) : Nat → Int32 := fun c => if c < i then nI 0 else f c
theorem hg_z_0 (f : Nat → Int32) : hg_z f 0 = f := by
  funext c
  exact if_neg (by omega)
theorem hg_z_s (f : Nat → Int32) (i : Nat) : upd (hg_z f i) i (nI 0) = hg_z f (i + 1) := by
  funext c
  unfold upd hg_z
  by_cases q : c = i
  · rw [if_pos q, if_pos (by omega)]
  · rw [if_neg q]
    by_cases z : c < i
    · rw [if_pos z, if_pos (by omega)]
    · rw [if_neg z, if_neg (by omega)]
