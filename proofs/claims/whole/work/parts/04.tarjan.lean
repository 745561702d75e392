/-! pure rows: the walk that finds the groups (numbers, lowest, path, open), one step a row; nodes are numbers; e u v: u hangs on v, both hit -/
/-- come to, and its group not closed -/
def hg_op (num : Nat → Nat) (stl : Nat → Prop) (u : Nat) : Prop := num u ≠ 0 ∧ ¬ stl u
def hg_on (path : Nat → Nat) (pl u : Nat) : Prop := ∃ k, k < pl ∧ path k = u
def hg_T (e : Nat → Nat → Prop) (hits : Nat → Nat) (hc : Nat) (num low look : Nat → Nat) (stl : Nat → Prop) (path : Nat → Nat) (pl : Nat) (opn : Nat → Nat) (oc last : Nat) : Prop :=
  (∀ u, stl u → num u ≠ 0) ∧
  (∀ u, num u ≤ last) ∧
  (∀ k, k < oc → hg_op num stl (opn k)) ∧
  (∀ u, hg_op num stl u → ∃ k, k < oc ∧ opn k = u) ∧
  (∀ i j, i < j → j < oc → num (opn i) < num (opn j)) ∧
  (∀ k, k < pl → hg_op num stl (path k)) ∧
  (∀ i j, i < j → j < pl → num (path i) < num (path j)) ∧
  (∀ u v, stl u → e u v → stl v) ∧
  (∀ k v, k < pl → hg_op num stl v → num (path k) ≤ num v → hg_R e (path k) v) ∧
  (∀ u, hg_op num stl u → low u ≤ num u ∧ ∃ w, hg_op num stl w ∧ num w = low u ∧ hg_R e u w) ∧
  (∀ u, hg_op num stl u → ¬ hg_on path pl u → low u < num u) ∧
  (∀ u i, hg_op num stl u → i < look u → i < hc → e u (hits i) → num (hits i) ≠ 0 ∧ (stl (hits i) ∨ low u ≤ num (hits i) ∨ ∃ k, k + 1 < pl ∧ path k = u ∧ path (k + 1) = hits i)) ∧
  (∀ u, hg_op num stl u → ¬ hg_on path pl u → hc ≤ look u) ∧
  (∀ k w, k < pl → hg_op num stl w → ¬ hg_on path pl w → num (path k) < num w → (k + 1 < pl → num w < num (path (k + 1))) → low (path k) ≤ low w) ∧
  (∀ u, 0 < pl → hg_op num stl u → num (path 0) ≤ num u) ∧
  (pl = 0 → oc = 0) ∧
  (∀ u, num u ≠ 0 → ∃ i, i < hc ∧ hits i = u) ∧
  (∀ u, num u = 0 → look u = 0)
section HGT
variable {e : Nat → Nat → Prop} {hits : Nat → Nat} {hc : Nat} {num low look : Nat → Nat} {stl : Nat → Prop} {path : Nat → Nat} {pl : Nat} {opn : Nat → Nat} {oc last : Nat}
theorem hg_T_0 (hn : ∀ u, num u = 0) (hk : ∀ u, look u = 0) (hs : ∀ u, ¬ stl u) : hg_T e hits hc num low look stl path 0 opn 0 last := by
  have no : ∀ u, ¬ hg_op num stl u := fun u h => h.1 (hn u)
  refine ⟨fun u h => absurd h (hs u), fun u => by rw [hn u]; exact Nat.zero_le _, fun k h => by omega, fun u h => absurd h (no u), fun i j _ h => by omega, fun k h => by omega, fun i j _ h => by omega, fun u v h => absurd h (hs u), fun k v h => by omega, fun u h => absurd h (no u), fun u h => absurd h (no u), fun u i h => absurd h (no u), fun u h => absurd h (no u), fun k w h => by omega, fun u h => by omega, fun _ => rfl, fun u h => absurd (hn u) h, fun u _ => hk u⟩
/-- two that are open have one number only if they are one -/
theorem hg_T_inj (hT : hg_T e hits hc num low look stl path pl opn oc last) {u v : Nat} (hu : hg_op num stl u) (hv : hg_op num stl v) (h : num u = num v) : u = v := by
  obtain ⟨-, -, -, t4, t5, -⟩ := hT
  obtain ⟨i, hi, e1⟩ := t4 u hu
  obtain ⟨j, hj, e2⟩ := t4 v hv
  rcases Nat.lt_trichotomy i j with q | q | q
  · have := t5 i j q hj
    rw [e1, e2] at this
    omega
  · rw [← e1, ← e2, q]
  · have := t5 j i q hi
    rw [e1, e2] at this
    omega
/-- a node is come to -/
theorem hg_T_enter {look' : Nat → Nat} {x : Nat} (hT : hg_T e hits hc num low look stl path pl opn oc last) (hx : num x = 0) (hxh : ∃ i, i < hc ∧ hits i = x)
    (hlk : ∀ u, ¬ hg_on path pl u → look' u = look u)
    (h12 : ∀ u i, hg_op num stl u → i < look' u → i < hc → e u (hits i) → (num (hits i) ≠ 0 ∧ (stl (hits i) ∨ low u ≤ num (hits i) ∨ ∃ k, k + 1 < pl ∧ path k = u ∧ path (k + 1) = hits i)) ∨ (hits i = x ∧ 0 < pl ∧ u = path (pl - 1)))
    (hpx : 0 < pl → e (path (pl - 1)) x) :
    hg_T e hits hc (va_up num x (last + 1)) (va_up low x (last + 1)) look' stl (va_up path pl x) (pl + 1) (va_up opn oc x) (oc + 1) (last + 1) := by
  obtain ⟨t1, t2, t3, t4, t5, t6, t7, t8, t9, t10, t11, t12, t13, t14, t15, t16, t17, t18⟩ := hT
  have ne : ∀ u, num u ≠ 0 → u ≠ x := fun u h q => h (by rw [q]; exact hx)
  have nx : va_up num x (last + 1) x = last + 1 := va_up_self ..
  have nu : ∀ u, u ≠ x → va_up num x (last + 1) u = num u := fun u h => va_up_ne _ _ h
  have lx : va_up low x (last + 1) x = last + 1 := va_up_self ..
  have lu : ∀ u, u ≠ x → va_up low x (last + 1) u = low u := fun u h => va_up_ne _ _ h
  have px : va_up path pl x pl = x := va_up_self ..
  have pk : ∀ k, k < pl → va_up path pl x k = path k := fun k h => va_up_ne _ _ (by omega)
  have ox : va_up opn oc x oc = x := va_up_self ..
  have ok : ∀ k, k < oc → va_up opn oc x k = opn k := fun k h => va_up_ne _ _ (by omega)
  have sx : ¬ stl x := fun q => t1 x q hx
  have opx : hg_op (va_up num x (last + 1)) stl x := ⟨by rw [nx]; omega, sx⟩
  have opu : ∀ u, hg_op num stl u → hg_op (va_up num x (last + 1)) stl u := fun u h => ⟨by rw [nu u (ne u h.1)]; exact h.1, h.2⟩
  have opo : ∀ u, u ≠ x → hg_op (va_up num x (last + 1)) stl u → hg_op num stl u := fun u hu h => ⟨by have := h.1; rw [nu u hu] at this; exact this, h.2⟩
  have nonx : ¬ hg_on path pl x := fun q => by
    obtain ⟨k, h1, h2⟩ := q
    exact (t6 k h1).1 (by rw [h2]; exact hx)
  have onx : hg_on (va_up path pl x) (pl + 1) x := ⟨pl, by omega, px⟩
  have onu : ∀ u, hg_on path pl u → hg_on (va_up path pl x) (pl + 1) u := fun u q => by
    obtain ⟨k, h1, h2⟩ := q
    exact ⟨k, by omega, by rw [pk k h1]; exact h2⟩
  have pne : ∀ k, k < pl → path k ≠ x := fun k h => ne _ (t6 k h).1
  have one : ∀ k, k < oc → opn k ≠ x := fun k h => ne _ (t3 k h).1
  refine ⟨?_, ?_, ?_, ?_, ?_, ?_, ?_, t8, ?_, ?_, ?_, ?_, ?_, ?_, ?_, fun h => by omega, ?_, ?_⟩
  · intro u h
    rw [nu u (ne u (t1 u h))]
    exact t1 u h
  · intro u
    by_cases q : u = x
    · rw [q, nx]
      exact Nat.le_refl _
    · rw [nu u q]
      exact Nat.le_succ_of_le (t2 u)
  · intro k h
    by_cases q : k = oc
    · rw [q, ox]
      exact opx
    · rw [ok k (by omega)]
      exact opu _ (t3 k (by omega))
  · intro u h
    by_cases q : u = x
    · exact ⟨oc, by omega, by rw [ox]; exact q.symm⟩
    · obtain ⟨k, h1, h2⟩ := t4 u (opo u q h)
      exact ⟨k, by omega, by rw [ok k h1]; exact h2⟩
  · intro i j hij hj
    by_cases q : j = oc
    · subst q
      rw [ox, nx, ok i hij, nu _ (one i hij)]
      exact Nat.lt_succ_of_le (t2 _)
    · rw [ok i (by omega), ok j (by omega), nu _ (one i (by omega)), nu _ (one j (by omega))]
      exact t5 i j hij (by omega)
  · intro k h
    by_cases q : k = pl
    · rw [q, px]
      exact opx
    · rw [pk k (by omega)]
      exact opu _ (t6 k (by omega))
  · intro i j hij hj
    by_cases q : j = pl
    · subst q
      rw [px, nx, pk i hij, nu _ (pne i hij)]
      exact Nat.lt_succ_of_le (t2 _)
    · rw [pk i (by omega), pk j (by omega), nu _ (pne i (by omega)), nu _ (pne j (by omega))]
      exact t7 i j hij (by omega)
  · intro k v h hv hle
    by_cases q : k = pl
    · rw [q, px] at hle ⊢
      rw [nx] at hle
      by_cases q2 : v = x
      · rw [q2]
        exact hg_R_refl e x
      · rw [nu v q2] at hle
        have := t2 v
        omega
    · have hk : k < pl := by omega
      rw [pk k hk] at hle ⊢
      rw [nu _ (pne k hk)] at hle
      by_cases q2 : v = x
      · rw [q2]
        have h1 : hg_R e (path k) (path (pl - 1)) := t9 k (path (pl - 1)) hk (t6 (pl - 1) (by omega)) (by
          by_cases q3 : k = pl - 1
          · rw [q3]
            exact Nat.le_refl _
          · exact Nat.le_of_lt (t7 k (pl - 1) (by omega) (by omega)))
        exact hg_R_trans h1 (hg_R_one (hpx (by omega)))
      · rw [nu v q2] at hle
        exact t9 k v hk (opo v q2 hv) hle
  · intro u h
    by_cases q : u = x
    · rw [q, lx, nx]
      exact ⟨Nat.le_refl _, x, opx, nx, hg_R_refl e x⟩
    · obtain ⟨h1, w, h2, h3, h4⟩ := t10 u (opo u q h)
      rw [lu u q, nu u q]
      exact ⟨h1, w, opu w h2, by rw [nu w (ne w h2.1)]; exact h3, h4⟩
  · intro u h hn
    have q : u ≠ x := fun q => hn (by rw [q]; exact onx)
    rw [lu u q, nu u q]
    exact t11 u (opo u q h) (fun z => hn (onu u z))
  · intro u i h hi hic he
    by_cases q : u = x
    · rw [q, hlk x nonx, t18 x hx] at hi
      omega
    · rcases h12 u i (opo u q h) hi hic he with ⟨g1, g2⟩ | ⟨g1, g2, g3⟩
      · have q2 := ne _ g1
        rw [nu _ q2, lu u q]
        refine ⟨g1, ?_⟩
        rcases g2 with g2 | g2 | ⟨k, g2, g3, g4⟩
        · exact Or.inl g2
        · exact Or.inr (Or.inl g2)
        · exact Or.inr (Or.inr ⟨k, by omega, by rw [pk k (by omega)]; exact g3, by rw [pk (k + 1) g2]; exact g4⟩)
      · rw [g1, nx]
        refine ⟨by omega, Or.inr (Or.inr ⟨pl - 1, by omega, ?_, ?_⟩)⟩
        · rw [pk (pl - 1) (by omega)]
          exact g3.symm
        · rw [show pl - 1 + 1 = pl by omega]
          exact px
  · intro u h hn
    have q : u ≠ x := fun q => hn (by rw [q]; exact onx)
    have hn' : ¬ hg_on path pl u := fun z => hn (onu u z)
    rw [hlk u hn']
    exact t13 u (opo u q h) hn'
  · intro k w h hw hn hlt hnext
    have q : w ≠ x := fun q => hn (by rw [q]; exact onx)
    rw [nu w q] at hlt hnext
    by_cases q2 : k = pl
    · rw [q2, px, nx] at hlt
      have := t2 w
      omega
    · have hk : k < pl := by omega
      rw [pk k hk] at hlt ⊢
      rw [nu _ (pne k hk)] at hlt
      rw [lu _ (pne k hk), lu w q]
      refine t14 k w hk (opo w q hw) (fun z => hn (onu w z)) hlt (fun h2 => ?_)
      have h3 := hnext (by omega)
      rw [pk (k + 1) h2, nu _ (pne (k + 1) h2)] at h3
      exact h3
  · intro u _ h
    by_cases q0 : pl = 0
    · subst q0
      rw [px, nx]
      by_cases q : u = x
      · rw [q, nx]
        exact Nat.le_refl _
      · obtain ⟨k, h1, -⟩ := t4 u (opo u q h)
        have := t16 rfl
        omega
    · have h0 : 0 < pl := by omega
      rw [pk 0 h0, nu _ (pne 0 h0)]
      by_cases q : u = x
      · rw [q, nx]
        exact Nat.le_succ_of_le (t2 _)
      · rw [nu u q]
        exact t15 u h0 (opo u q h)
  · intro u h
    by_cases q : u = x
    · rw [q]
      exact hxh
    · rw [nu u q] at h
      exact t17 u h
  · intro u h
    have q : u ≠ x := fun q => by
      rw [q, nx] at h
      omega
    rw [nu u q] at h
    rw [hlk u (fun z => by
      obtain ⟨k, h1, h2⟩ := z
      exact (t6 k h1).1 (by rw [h2]; exact h))]
    exact t18 u h
/-- the next one below is settled, or no step goes there -/
theorem hg_T_skip (hT : hg_T e hits hc num low look stl path pl opn oc last) {v i : Nat} (h0 : 0 < pl) (hv : path (pl - 1) = v) (hi : look v = i) (hs : i < hc → e v (hits i) → stl (hits i)) : hg_T e hits hc num low (va_up look v (i + 1)) stl path pl opn oc last := by
  obtain ⟨t1, t2, t3, t4, t5, t6, t7, t8, t9, t10, t11, t12, t13, t14, t15, t16, t17, t18⟩ := hT
  refine ⟨t1, t2, t3, t4, t5, t6, t7, t8, t9, t10, t11, ?_, ?_, t14, t15, t16, t17, ?_⟩
  · intro u j h hj hjc he
    by_cases q : u = v
    · subst q
      rw [va_up_self] at hj
      by_cases q2 : j = i
      · subst q2
        have h1 := hs hjc he
        exact ⟨t1 _ h1, Or.inl h1⟩
      · exact t12 u j h (by omega) hjc he
    · rw [va_up_ne _ _ q] at hj
      exact t12 u j h hj hjc he
  · intro u h hn
    by_cases q : u = v
    · exact absurd ⟨pl - 1, by omega, by rw [q]; exact hv⟩ hn
    · rw [va_up_ne _ _ q]
      exact t13 u h hn
  · intro u h
    by_cases q : u = v
    · have := (t6 (pl - 1) (by omega)).1
      rw [hv, ← q] at this
      exact absurd h this
    · rw [va_up_ne _ _ q]
      exact t18 u h
/-- the next one below is open: the lowest number is told -/
theorem hg_T_lower (hT : hg_T e hits hc num low look stl path pl opn oc last) {v i : Nat} (h0 : 0 < pl) (hv : path (pl - 1) = v) (hi : look v = i) (he : e v (hits i)) (hn0 : num (hits i) ≠ 0) (hs : ¬ stl (hits i)) : hg_T e hits hc num (va_up low v (Nat.min (low v) (num (hits i)))) (va_up look v (i + 1)) stl path pl opn oc last := by
  obtain ⟨t1, t2, t3, t4, t5, t6, t7, t8, t9, t10, t11, t12, t13, t14, t15, t16, t17, t18⟩ := hT
  have opv : hg_op num stl v := by rw [← hv]; exact t6 (pl - 1) (by omega)
  have onv : hg_on path pl v := ⟨pl - 1, by omega, hv⟩
  have lle : ∀ u, va_up low v (Nat.min (low v) (num (hits i))) u ≤ low u := fun u => by
    by_cases q : u = v
    · rw [q, va_up_self]
      exact Nat.min_le_left ..
    · rw [va_up_ne _ _ q]
      exact Nat.le_refl _
  refine ⟨t1, t2, t3, t4, t5, t6, t7, t8, t9, ?_, ?_, ?_, ?_, ?_, t15, t16, t17, ?_⟩
  · intro u h
    by_cases q : u = v
    · subst q
      obtain ⟨h1, w, h2, h3, h4⟩ := t10 u h
      rw [va_up_self]
      refine ⟨Nat.le_trans (Nat.min_le_left ..) h1, ?_⟩
      rcases Nat.le_total (low u) (num (hits i)) with q2 | q2
      · exact ⟨w, h2, by rw [h3]; exact (Nat.min_eq_left q2).symm, h4⟩
      · exact ⟨hits i, ⟨hn0, hs⟩, (Nat.min_eq_right q2).symm, hg_R_one he⟩
    · rw [va_up_ne _ _ q]
      exact t10 u h
  · intro u h hn
    exact Nat.lt_of_le_of_lt (lle u) (t11 u h hn)
  · intro u j h hj hjc he2
    by_cases q : u = v
    · subst q
      rw [va_up_self] at hj
      by_cases q2 : j = i
      · subst q2
        refine ⟨hn0, Or.inr (Or.inl ?_)⟩
        rw [va_up_self]
        exact Nat.min_le_right ..
      · obtain ⟨g1, g2⟩ := t12 u j h (by omega) hjc he2
        refine ⟨g1, ?_⟩
        rcases g2 with g2 | g2 | g2
        · exact Or.inl g2
        · exact Or.inr (Or.inl (Nat.le_trans (lle u) g2))
        · exact Or.inr (Or.inr g2)
    · rw [va_up_ne _ _ q] at hj
      rw [va_up_ne _ _ q]
      exact t12 u j h hj hjc he2
  · intro u h hn
    by_cases q : u = v
    · exact absurd (by rw [q]; exact onv) hn
    · rw [va_up_ne _ _ q]
      exact t13 u h hn
  · intro k w h hw hn hlt hnext
    have q : w ≠ v := fun q => hn (by rw [q]; exact onv)
    rw [va_up_ne _ _ q]
    exact Nat.le_trans (lle _) (t14 k w h hw hn hlt hnext)
  · intro u h
    by_cases q : u = v
    · rw [q] at h
      exact absurd h opv.1
    · rw [va_up_ne _ _ q]
      exact t18 u h
/-- the walk goes back from v, whose group isn't closed: there is one above it -/
theorem hg_T_up (hT : hg_T e hits hc num low look stl path pl opn oc last) {v : Nat} (h0 : 0 < pl) (hv : path (pl - 1) = v) (hne : low v ≠ num v) : 2 ≤ pl := by
  obtain ⟨t1, t2, t3, t4, t5, t6, t7, t8, t9, t10, t11, t12, t13, t14, t15, t16, t17, t18⟩ := hT
  have opv : hg_op num stl v := by rw [← hv]; exact t6 (pl - 1) (by omega)
  obtain ⟨h1, w, h2, h3, -⟩ := t10 v opv
  have h4 := t15 w h0 h2
  by_cases q : pl = 1
  · subst q
    have hv' : path 0 = v := hv
    rw [hv'] at h4
    omega
  · omega
theorem hg_T_leave {q : Nat} (hT : hg_T e hits hc num low look stl path (q + 2) opn oc last) {v p : Nat} (hv : path (q + 1) = v) (hp : path q = p) (hlk : hc ≤ look v) (hne : low v ≠ num v) : hg_T e hits hc num (va_up low p (Nat.min (low p) (low v))) look stl path (q + 1) opn oc last := by
  have inj := @hg_T_inj _ _ _ _ _ _ _ _ _ _ _ _ hT
  obtain ⟨t1, t2, t3, t4, t5, t6, t7, t8, t9, t10, t11, t12, t13, t14, t15, t16, t17, t18⟩ := hT
  have opv : hg_op num stl v := by rw [← hv]; exact t6 (q + 1) (by omega)
  have opp : hg_op num stl p := by rw [← hp]; exact t6 q (by omega)
  have npv : num p < num v := by rw [← hp, ← hv]; exact t7 q (q + 1) (by omega) (by omega)
  have hlt : low v < num v := by have := (t10 v opv).1; omega
  have lle : ∀ u, va_up low p (Nat.min (low p) (low v)) u ≤ low u := fun u => by
    by_cases z : u = p
    · rw [z, va_up_self]
      exact Nat.min_le_left ..
    · rw [va_up_ne _ _ z]
      exact Nat.le_refl _
  have lpv : va_up low p (Nat.min (low p) (low v)) p ≤ low v := by rw [va_up_self]; exact Nat.min_le_right ..
  have onp : hg_on path (q + 1) p := ⟨q, by omega, hp⟩
  have onw : ∀ u, hg_on path (q + 2) u → u = v ∨ hg_on path (q + 1) u := fun u z => by
    obtain ⟨k, h1, h2⟩ := z
    by_cases z2 : k = q + 1
    · subst z2
      exact Or.inl (h2.symm.trans hv)
    · exact Or.inr ⟨k, by omega, h2⟩
  have vne : v ≠ p := fun z => by rw [z] at npv; omega
  refine ⟨t1, t2, t3, t4, t5, fun k h => t6 k (by omega), fun i j hij hj => t7 i j hij (by omega), t8, fun k w h hw hle => t9 k w (by omega) hw hle, ?_, ?_, ?_, ?_, ?_, fun u _ h => t15 u (by omega) h, fun h => by omega, t17, t18⟩
  · intro u h
    by_cases z : u = p
    · subst z
      obtain ⟨h1, w, h2, h3, h4⟩ := t10 u h
      obtain ⟨-, w2, g2, g3, g4⟩ := t10 v opv
      rw [va_up_self]
      refine ⟨Nat.le_trans (Nat.min_le_left ..) h1, ?_⟩
      rcases Nat.le_total (low u) (low v) with z2 | z2
      · exact ⟨w, h2, by rw [h3]; exact (Nat.min_eq_left z2).symm, h4⟩
      · refine ⟨w2, g2, by rw [g3]; exact (Nat.min_eq_right z2).symm, hg_R_trans ?_ g4⟩
        rw [← hp]
        exact t9 q v (by omega) opv (by rw [hp]; omega)
    · rw [va_up_ne _ _ z]
      exact t10 u h
  · intro u h hn
    by_cases z : u = v
    · rw [z, va_up_ne _ _ vne]
      exact hlt
    · exact Nat.lt_of_le_of_lt (lle u) (t11 u h (fun z2 => (onw u z2).elim z hn))
  · intro u i h hi hic he
    obtain ⟨g1, g2⟩ := t12 u i h hi hic he
    refine ⟨g1, ?_⟩
    rcases g2 with g2 | g2 | ⟨k, g2, g3, g4⟩
    · exact Or.inl g2
    · exact Or.inr (Or.inl (Nat.le_trans (lle u) g2))
    · by_cases z : k = q
      · subst z
        refine Or.inr (Or.inl ?_)
        rw [← g3, hp, ← g4, hv]
        exact Nat.le_trans lpv (Nat.le_of_lt hlt)
      · exact Or.inr (Or.inr ⟨k, by omega, g3, g4⟩)
  · intro u h hn
    by_cases z : u = v
    · rw [z]
      exact hlk
    · exact t13 u h (fun z2 => (onw u z2).elim z hn)
  · intro k w h hw hn hlt2 hnext
    have wp : w ≠ p := fun z => hn (by rw [z]; exact onp)
    rw [va_up_ne _ _ wp]
    by_cases zk : k = q
    · subst zk
      rw [hp] at hlt2 ⊢
      by_cases zw : w = v
      · rw [zw]
        exact lpv
      · have hn2 : ¬ hg_on path (k + 2) w := fun z2 => (onw w z2).elim zw hn
        rcases Nat.lt_trichotomy (num w) (num v) with z | z | z
        · refine Nat.le_trans (lle p) ?_
          have := t14 k w (by omega) hw hn2 (by rw [hp]; exact hlt2) (fun _ => by rw [hv]; exact z)
          rw [hp] at this
          exact this
        · exact absurd (inj hw opv z) zw
        · refine Nat.le_trans lpv ?_
          have := t14 (k + 1) w (by omega) hw hn2 (by rw [hv]; exact z) (fun z3 => by omega)
          rw [hv] at this
          exact this
    · have hk2 := hnext (by omega)
      have zw : w ≠ v := fun z => by
        rw [z] at hk2
        by_cases z3 : k + 1 = q + 1
        · omega
        · have := t7 (k + 1) (q + 1) (by omega) (by omega)
          rw [hv] at this
          omega
      exact Nat.le_trans (lle _) (t14 k w (by omega) hw (fun z2 => (onw w z2).elim zw hn) hlt2 (fun _ => hk2))
/-- the group of v: what is open from v on -/
def hg_G (num : Nat → Nat) (stl : Nat → Prop) (v w : Nat) : Prop := hg_op num stl w ∧ num v ≤ num w
theorem hg_T_fin (hT : hg_T e hits hc num low look stl path pl opn oc last) {v w : Nat} (h0 : 0 < pl) (hv : path (pl - 1) = v) (hw : hg_G num stl v w) (hne : w ≠ v) : ¬ hg_on path pl w ∧ num v < num w ∧ low v ≤ low w := by
  have inj := @hg_T_inj _ _ _ _ _ _ _ _ _ _ _ _ hT
  obtain ⟨t1, t2, t3, t4, t5, t6, t7, t8, t9, t10, t11, t12, t13, t14, t15, t16, t17, t18⟩ := hT
  have opv : hg_op num stl v := by rw [← hv]; exact t6 (pl - 1) (by omega)
  have hn : ¬ hg_on path pl w := fun z => by
    obtain ⟨k, h1, h2⟩ := z
    by_cases z2 : k = pl - 1
    · rw [z2, hv] at h2
      exact hne h2.symm
    · have := t7 k (pl - 1) (by omega) (by omega)
      rw [h2, hv] at this
      have := hw.2
      omega
  have hlt : num v < num w := by
    have h1 := hw.2
    by_cases z : num v = num w
    · exact absurd (inj opv hw.1 z).symm hne
    · omega
  refine ⟨hn, hlt, ?_⟩
  have := t14 (pl - 1) w (by omega) hw.1 hn (by rw [hv]; exact hlt) (fun z => by omega)
  rw [hv] at this
  exact this
/-- no step leaves the group but to what is settled -/
theorem hg_T_out (hT : hg_T e hits hc num low look stl path pl opn oc last) (hee : ∀ a b, e a b → ∃ i, i < hc ∧ hits i = b) {v : Nat} (h0 : 0 < pl) (hv : path (pl - 1) = v) (hlk : hc ≤ look v) (heq : low v = num v) {u x : Nat} (hu : hg_G num stl v u) (he : e u x) : stl x ∨ hg_G num stl v x := by
  have fin := fun w (hw : hg_G num stl v w) (hne : w ≠ v) => hg_T_fin hT h0 hv hw hne
  obtain ⟨t1, t2, t3, t4, t5, t6, t7, t8, t9, t10, t11, t12, t13, t14, t15, t16, t17, t18⟩ := hT
  obtain ⟨i, hi, ei⟩ := hee u x he
  have hlow : num v ≤ low u := by
    by_cases z : u = v
    · rw [z, heq]
      exact Nat.le_refl _
    · rw [← heq]
      exact (fin u hu z).2.2
  have hlook : hc ≤ look u := by
    by_cases z : u = v
    · rw [z]
      exact hlk
    · exact t13 u hu.1 (fin u hu z).1
  obtain ⟨g1, g2⟩ := t12 u i hu.1 (by omega) hi (by rw [ei]; exact he)
  rw [ei] at g1 g2
  by_cases hs : stl x
  · exact Or.inl hs
  · refine Or.inr ⟨⟨g1, hs⟩, ?_⟩
    rcases g2 with g2 | g2 | ⟨k, g2, g3, g4⟩
    · exact absurd g2 hs
    · omega
    · exfalso
      have := hu.2
      have h3 : num u < num v := by
        rw [← g3, ← hv]
        exact t7 k (pl - 1) (by omega) (by omega)
      omega
theorem hg_T_back (hT : hg_T e hits hc num low look stl path pl opn oc last) {v : Nat} (h0 : 0 < pl) (hv : path (pl - 1) = v) (heq : low v = num v) : ∀ (n w : Nat), num w < n → hg_G num stl v w → hg_R e w v
  | 0, w, h, _ => by omega
  | n + 1, w, h, hw => by
    by_cases z : w = v
    · rw [z]
      exact hg_R_refl e v
    · obtain ⟨f1, f2, f3⟩ := hg_T_fin hT h0 hv hw z
      have hlow := hT.2.2.2.2.2.2.2.2.2.2.1 w hw.1 f1
      obtain ⟨-, w2, g2, g3, g4⟩ := hT.2.2.2.2.2.2.2.2.2.1 w hw.1
      exact hg_R_trans g4 (hg_T_back hT h0 hv heq n w2 (by omega) ⟨g2, by omega⟩)
theorem hg_T_down (hT : hg_T e hits hc num low look stl path pl opn oc last) {v w : Nat} (h0 : 0 < pl) (hv : path (pl - 1) = v) (hw : hg_G num stl v w) : hg_R e v w := by
  have t9 := hT.2.2.2.2.2.2.2.2.1
  have := t9 (pl - 1) w (by omega) hw.1 (by rw [hv]; exact hw.2)
  rw [hv] at this
  exact this
/-- the group of v is closed -/
theorem hg_T_close (hT : hg_T e hits hc num low look stl path pl opn oc last) (hee : ∀ a b, e a b → ∃ i, i < hc ∧ hits i = b) {v oc' : Nat} {stl' : Nat → Prop} (h0 : 0 < pl) (hv : path (pl - 1) = v) (hlk : hc ≤ look v) (heq : low v = num v)
    (hs : ∀ u, stl' u ↔ stl u ∨ hg_G num stl v u) (ho : oc' ≤ oc) (hlo : ∀ k, k < oc' → num (opn k) < num v) (hhi : ∀ k, oc' ≤ k → k < oc → num v ≤ num (opn k)) : hg_T e hits hc num low look stl' path (pl - 1) opn oc' last := by
  have out := fun u x (hu : hg_G num stl v u) (he : e u x) => hg_T_out hT hee h0 hv hlk heq hu he
  obtain ⟨t1, t2, t3, t4, t5, t6, t7, t8, t9, t10, t11, t12, t13, t14, t15, t16, t17, t18⟩ := hT
  have opv : hg_op num stl v := by rw [← hv]; exact t6 (pl - 1) (by omega)
  have gv : hg_G num stl v v := ⟨opv, Nat.le_refl _⟩
  have opo : ∀ u, hg_op num stl' u → hg_op num stl u ∧ num u < num v := fun u h => by
    have h1 : hg_op num stl u := ⟨h.1, fun z => h.2 ((hs u).2 (Or.inl z))⟩
    refine ⟨h1, ?_⟩
    by_cases z : num v ≤ num u
    · exact absurd ((hs u).2 (Or.inr ⟨h1, z⟩)) h.2
    · omega
  have opn' : ∀ u, hg_op num stl u → num u < num v → hg_op num stl' u := fun u h hl => ⟨h.1, fun z => ((hs u).1 z).elim h.2 (fun z2 => by have := z2.2; omega)⟩
  have vno : ∀ u, hg_op num stl' u → u ≠ v := fun u h z => by
    have := (opo u h).2
    rw [z] at this
    omega
  have onw : ∀ u, hg_on path pl u → u = v ∨ hg_on path (pl - 1) u := fun u z => by
    obtain ⟨k, h1, h2⟩ := z
    by_cases z2 : k = pl - 1
    · subst z2
      exact Or.inl (h2.symm.trans hv)
    · exact Or.inr ⟨k, by omega, h2⟩
  refine ⟨?_, t2, ?_, ?_, fun i j hij hj => t5 i j hij (by omega), ?_, fun i j hij hj => t7 i j hij (by omega), ?_, ?_, ?_, ?_, ?_, ?_, ?_, ?_, ?_, t17, t18⟩
  · intro u h
    rcases (hs u).1 h with z | z
    · exact t1 u z
    · exact z.1.1
  · intro k h
    exact opn' _ (t3 k (by omega)) (hlo k h)
  · intro u h
    obtain ⟨h1, h2⟩ := opo u h
    obtain ⟨k, h3, h4⟩ := t4 u h1
    refine ⟨k, ?_, h4⟩
    by_cases z : k < oc'
    · exact z
    · have := hhi k (by omega) h3
      rw [h4] at this
      omega
  · intro k h
    refine opn' _ (t6 k (by omega)) ?_
    rw [← hv]
    exact t7 k (pl - 1) h (by omega)
  · intro u x h he
    rcases (hs u).1 h with z | z
    · exact (hs x).2 (Or.inl (t8 u x z he))
    · exact (hs x).2 (out u x z he)
  · intro k w h hw hle
    exact t9 k w (by omega) (opo w hw).1 hle
  · intro u h
    obtain ⟨h1, h2⟩ := opo u h
    obtain ⟨g1, w, g2, g3, g4⟩ := t10 u h1
    exact ⟨g1, w, opn' w g2 (by omega), g3, g4⟩
  · intro u h hn
    exact t11 u (opo u h).1 (fun z => (onw u z).elim (vno u h) hn)
  · intro u i h hi hic he
    obtain ⟨g1, g2⟩ := t12 u i (opo u h).1 hi hic he
    refine ⟨g1, ?_⟩
    rcases g2 with g2 | g2 | ⟨k, g2, g3, g4⟩
    · exact Or.inl ((hs _).2 (Or.inl g2))
    · exact Or.inr (Or.inl g2)
    · by_cases z : k + 1 = pl - 1
      · refine Or.inl ((hs _).2 (Or.inr ?_))
        rw [← g4, z, hv]
        exact gv
      · exact Or.inr (Or.inr ⟨k, by omega, g3, g4⟩)
  · intro u h hn
    exact t13 u (opo u h).1 (fun z => (onw u z).elim (vno u h) hn)
  · intro k w h hw hn hlt hnext
    refine t14 k w (by omega) (opo w hw).1 (fun z => (onw w z).elim (vno w hw) hn) hlt (fun z => ?_)
    by_cases z2 : k + 1 = pl - 1
    · rw [z2, hv]
      exact (opo w hw).2
    · exact hnext (by omega)
  · intro u h hu
    exact t15 u h0 (opo u hu).1
  · intro h
    by_cases z : oc' = 0
    · exact z
    · exfalso
      have h1 := hlo 0 (by omega)
      have h2 := t15 (opn 0) h0 (t3 0 (by omega))
      have h3 : path 0 = v := by
        rw [← hv]
        congr 1
        omega
      rw [h3] at h2
      omega
/-- what the closing tells: rounds -/
theorem hg_T_round (hT : hg_T e hits hc num low look stl path pl opn oc last) {v : Nat} (h0 : 0 < pl) (hv : path (pl - 1) = v) (heq : low v = num v) (hbig : e v v ∨ ∃ w, hg_G num stl v w ∧ w ≠ v) {u : Nat} (hu : hg_G num stl v u) : hg_O e u := by
  have back := fun w (hw : hg_G num stl v w) => hg_T_back hT h0 hv heq (num w + 1) w (by omega) hw
  have down := fun w (hw : hg_G num stl v w) => hg_T_down hT h0 hv hw
  by_cases z : u = v
  · subst z
    rcases hbig with h | ⟨w, h1, h2⟩
    · exact ⟨u, h, hg_R_refl e u⟩
    · exact hg_O_pair (Ne.symm h2) (down w h1) (back w h1)
  · exact hg_O_pair z (back u hu) (down u hu)
/-- and none where v is alone and has no step to itself; all below it are settled -/
theorem hg_T_alone (hT : hg_T e hits hc num low look stl path pl opn oc last) (hee : ∀ a b, e a b → ∃ i, i < hc ∧ hits i = b) {v : Nat} (h0 : 0 < pl) (hv : path (pl - 1) = v) (hlk : hc ≤ look v) (heq : low v = num v) (hno : ¬ e v v) (hal : ∀ w, hg_G num stl v w → w = v) : ¬ hg_O e v ∧ ∀ x, e v x → stl x := by
  have t6 := hT.2.2.2.2.2.1
  have t8 := hT.2.2.2.2.2.2.2.1
  have opv : hg_op num stl v := by rw [← hv]; exact t6 (pl - 1) (by omega)
  have all : ∀ x, e v x → stl x := fun x he => by
    rcases hg_T_out hT hee h0 hv hlk heq ⟨opv, Nat.le_refl _⟩ he with z | z
    · exact z
    · exact absurd (by rw [hal x z] at he; exact he) hno
  refine ⟨fun z => ?_, all⟩
  obtain ⟨w, h1, h2⟩ := z
  exact opv.2 (hg_R_closed (P := stl) (fun a b h he => t8 a b h he) (all w h1) h2)
end HGT
