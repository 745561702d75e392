/-! the law's own rows and its numbers -/
theorem lw_n {p : Int32} (h : ¬ p < 0) : ∃ x, x < 2 ^ 31 ∧ p = nI x := by
  have h1 : 0 ≤ p.toInt := by
    rw [Int32.lt_iff_toInt_lt] at h
    have : (0 : Int32).toInt = 0 := by decide
    omega
  have h2 := p.toInt_lt
  refine ⟨p.toInt.toNat, by omega, Int32.toInt_inj.mp ?_⟩
  rw [nI_toInt (by omega)]
  omega
theorem lw_19 {p : Int32} (h : nI 20 ≤ p) : nI 19 < p := Int32.lt_of_lt_of_le (by decide +kernel) h
theorem lw_c0 {p q : Int32} (h : ¬ hg_bC p q) : ∃ x y, x < 20 ∧ y < 20 ∧ p = nI x ∧ q = nI y := by
  unfold hg_bC at h
  obtain ⟨x, hx, ex⟩ := lw_n (fun z => h (Or.inl z))
  obtain ⟨y, hy, ey⟩ := lw_n (fun z => h (Or.inr (Or.inr (Or.inl z))))
  refine ⟨x, y, ?_, ?_, ex, ey⟩
  · refine Nat.lt_of_not_le fun z => h (Or.inr (Or.inl ?_))
    rw [ex]
    exact nI_le z hx
  · refine Nat.lt_of_not_le fun z => h (Or.inr (Or.inr (Or.inr ?_)))
    rw [ey]
    exact nI_nlt z hy
theorem lw_c1 {p q : Int32} (h : hg_bC p q) (u v : Int32) : mo_bad p q u v := by
  rcases h with z | z | z | z
  · exact Or.inl z
  · exact Or.inr (Or.inr (Or.inl (lw_19 z)))
  · exact Or.inr (Or.inl z)
  · exact Or.inr (Or.inr (Or.inr (Or.inl (lw_19 (Int32.not_lt.mp z)))))
theorem lw_f0 {x : Nat} {q : Int32} (hx : x < 20) (h : ¬ hg_bF x q) : ∃ n, 1 ≤ n ∧ n ≤ 20 - x ∧ q = nI n := by
  unfold hg_bF at h
  have h1 : ¬ q < 0 := fun z => h (Or.inl (Int32.lt_trans z (by decide +kernel)))
  obtain ⟨n, hn, en⟩ := lw_n h1
  refine ⟨n, ?_, ?_, en⟩
  · refine Nat.le_of_not_lt fun z => h (Or.inl ?_)
    rw [en]
    exact nI_lt z (by decide)
  · refine Nat.le_of_not_lt fun z => h (Or.inr ?_)
    rw [en]
    exact nI_ge z hn
theorem lw_f1 {x : Nat} {p q h v : Int32} (hx : x < 20) (hf : hg_bF x h) (hp : p = nI x) : mo_bad p q h v := by
  rcases hf with z | z
  · exact Or.inr (Or.inr (Or.inr (Or.inr (Or.inl z))))
  · refine Or.inr (Or.inr (Or.inr (Or.inr (Or.inr (Or.inr (Or.inl ?_))))))
    rw [hp, pk_sub (by omega)]
    exact Int32.not_le.mp z
theorem lw_f2 {y : Nat} {p q h v : Int32} (hy : y < 20) (hf : hg_bF y v) (hq : q = nI y) : mo_bad p q h v := by
  rcases hf with z | z
  · exact Or.inr (Or.inr (Or.inr (Or.inr (Or.inr (Or.inl z)))))
  · refine Or.inr (Or.inr (Or.inr (Or.inr (Or.inr (Or.inr (Or.inr ?_))))))
    rw [hq, pk_sub (by omega)]
    exact z
theorem lw_s0 {p q : Int32} (h : ¬ hg_bS p q) : ∃ t b, t ≤ b ∧ b < 20 ∧ p = nI t ∧ q = nI b := by
  unfold hg_bS at h
  obtain ⟨t, ht, et⟩ := lw_n (fun z => h (Or.inl z))
  have hq : ¬ q < 0 := fun z => h (Or.inr (Or.inl (Int32.lt_of_lt_of_le z (by rw [et]; exact nI_pos' ht))))
  obtain ⟨b, hb, eb⟩ := lw_n hq
  refine ⟨t, b, ?_, ?_, et, eb⟩
  · refine Nat.le_of_not_lt fun z => h (Or.inr (Or.inl ?_))
    rw [et, eb]
    exact nI_lt z ht
  · refine Nat.lt_of_not_le fun z => h (Or.inr (Or.inr ?_))
    rw [eb]
    exact nI_nlt z hb
theorem lw_w0 {k : Int32} (h : ¬ (k < 0 ∨ ¬ k ≤ nI 2)) : ∃ q, q ≤ 2 ∧ k = nI q := by
  obtain ⟨q, hq, eq⟩ := lw_n (fun z => h (Or.inl z))
  refine ⟨q, Nat.le_of_not_lt fun z => h (Or.inr ?_), eq⟩
  rw [eq]
  exact nI_ge z hq
theorem lw_cmp (x : Int64) : lg_cmp x x = 0 := by
  unfold lg_cmp
  rw [if_neg (fun z => Int64.lt_irrefl z), if_pos rfl]
theorem lg_SW {own : String} {idx : Nat} {y : MethodName} {ws : List Cond} (h1 : Cond.methodLink own idx y ∈ lw_g) (h2 : Cond.static y ∈ lw_g) (h4 : Cond.initialized y.cls ∈ lw_g) (h5 : GoodIn lw_g ws) : GoodIn lw_g (va_wsS own idx y ws) := by
  intro w hw
  unfold va_wsS at hw
  rcases List.mem_append.mp hw with h | h
  · simp only [List.mem_cons, List.not_mem_nil, or_false] at h
    rcases h with e | e | e
    · rw [e]; exact lg_ok h1
    · rw [e]; exact lg_ok h2
    · rw [e]; exact lg_ok h4
  · exact h5 w h
section LWS
variable {p : Program} {l : Launch} {e : Env} {R : Room} {s : State} {m : MethodId} {args : Array Value} {below : List Frame} {meth : Method} {c : Code} {cells slots : Nat} {Q : State → Prop}
variable {cc : ByteArray} {pc nL : Nat} {st : List Value} {D : va_G} {cl : List vw_C} {F : Nat → Prop} {ad : Nat → Nat → Nat} {ok : Nat → Nat → Prop} {w : Nat → Nat → va_E} {L : List (Nat × Value)}
theorem tg_sld (hx : p.tables.exec = Jvm.exec) (hb : c.code = cc) {b L9 : Nat} {xs : Nat → Int32} (hX : va_X b L9 xs s s.heap) (hbl : b < s.heap.size) (hbF : ¬ F b) {x : Nat} (hin : x < L9) (hL : L9 < 2 ^ 31) (hdg : decode cc pc = .ok (.iaload, 1)) (kk : tg_W p l e R s m args below meth c Q nL D cl F ad ok w L cells slots (pc + 1) (.int (xs x) :: st)) : tg_W p l e R s m args below meth c Q nL D cl F ad ok w L cells slots pc (.int (nI x) :: .ref b :: st) := fun H locs ls hZ h => by
  refine va_sld hx hb hX hbl hbF hZ.2.2 (vp_in_nI hin hL) hdg ?_
  rw [nI_clamp (by omega)]
  exact kk H locs ls hZ h
theorem tg_slen (hx : p.tables.exec = Jvm.exec) (hb : c.code = cc) {b L9 : Nat} {xs : Nat → Int32} (hX : va_X b L9 xs s s.heap) (hbl : b < s.heap.size) (hbF : ¬ F b) (hdg : decode cc pc = .ok (.arraylength, 1)) (kk : tg_W p l e R s m args below meth c Q nL D cl F ad ok w L cells slots (pc + 1) (.int (nI L9) :: st)) : tg_W p l e R s m args below meth c Q nL D cl F ad ok w L cells slots pc (.ref b :: st) := fun H locs ls hZ h => va_slen hx hb hX hbl hbF hZ.2.2 hdg (kk H locs ls hZ h)
theorem tg_tabIn (hx : p.tables.exec = Jvm.exec) (hb : c.code = cc) {dflt lo hi : Int} {offs : Array Int} {len : Nat} {x : Int32} {off : Int} {tgt : Nat} (hdg : decode cc pc = .ok (.tableswitch dflt lo hi offs, len)) (h1 : ¬ x.toInt < lo) (h2 : ¬ hi < x.toInt) (ho : offs[(x.toInt - lo).toNat]? = some off) (ht : (pc : Int) + off = (tgt : Int)) (kk : tg_W p l e R s m args below meth c Q nL D cl F ad ok w L cells slots tgt st) : tg_W p l e R s m args below meth c Q nL D cl F ad ok w L cells slots pc (.int x :: st) := fun H locs ls hZ h => lv_tableIn hx hb hdg h1 h2 ho ht (kk H locs ls hZ h)
theorem tg_tabOut (hx : p.tables.exec = Jvm.exec) (hb : c.code = cc) {dflt lo hi : Int} {offs : Array Int} {len : Nat} {x : Int32} {tgt : Nat} (hdg : decode cc pc = .ok (.tableswitch dflt lo hi offs, len)) (h1 : x.toInt < lo ∨ hi < x.toInt) (ht : (pc : Int) + dflt = (tgt : Int)) (kk : tg_W p l e R s m args below meth c Q nL D cl F ad ok w L cells slots tgt st) : tg_W p l e R s m args below meth c Q nL D cl F ad ok w L cells slots pc (.int x :: st) := fun H locs ls hZ h => lv_tableOut hx hb hdg h1 ht (kk H locs ls hZ h)
end LWS
/-- the long array that the answers come in -/
def lw_J (cJ : ClassId) (o : Nat → Int64) : va_E := .inl (cJ, 1, .inr (.inl o))
/-- the whole world of the law -/
def lw_W (cF cI cZ cJ cA cB : ClassId) (ν : Nat → Nat → va_E) (ad : Nat → Nat → Nat) (G : Nat → Nat) (a : Nat → Nat → Option Nat) (dr : Nat → Int32) (N : Nat → Nat → Nat) (bc : Nat → Int32) (sp : Nat → Nat → Int32) (M : Nat → Nat → Nat) (B : Nat → Nat → Nat → Nat) (o : Nat → Int64) : Nat → Nat → va_E := hg_w ad cF cI G a dr N bc sp (tg_up (mo_w ad cI cZ cA cB M B ν) 10 0 (lw_J cJ o))
section LWW
variable {cF cI cZ cJ cA cB : ClassId} {ν μ : Nat → Nat → va_E} {ad : Nat → Nat → Nat} {G : Nat → Nat} {a : Nat → Nat → Option Nat} {dr : Nat → Int32} {N : Nat → Nat → Nat} {bc : Nat → Int32} {sp : Nat → Nat → Int32} {M : Nat → Nat → Nat} {B : Nat → Nat → Nat → Nat} {o : Nat → Int64}
theorem lw_up (x : va_E) : tg_up (hg_w ad cF cI G a dr N bc sp μ) 10 0 x = hg_w ad cF cI G a dr N bc sp (tg_up μ 10 0 x) := by
  funext k i
  by_cases h : k = 10 ∧ i = 0
  · obtain ⟨rfl, rfl⟩ := h
    rw [tg_up_self, hg_w_mu (Nat.le_refl _), tg_up_self]
  · rw [tg_up_ne _ _ h]
    by_cases h1 : 10 ≤ k
    · rw [hg_w_mu h1, hg_w_mu h1, tg_up_ne _ _ h]
    · have hk : k = 0 ∨ k = 1 ∨ k = 2 ∨ k = 3 ∨ k = 4 ∨ k = 5 ∨ k = 6 ∨ k = 7 ∨ k = 8 ∨ k = 9 := by omega
      rcases hk with z | z | z | z | z | z | z | z | z | z <;> subst z <;> rfl
theorem lw_sw : lw_W cF cI cZ cJ cA cB ν ad G a dr N bc sp M B o = mo_w ad cI cZ cA cB M B (hg_w ad cF cI G a dr N bc sp (tg_up ν 10 0 (lw_J cJ o))) := by
  funext k i
  unfold lw_W
  by_cases h1 : 10 ≤ k
  · rw [hg_w_mu h1]
    by_cases h : k = 10 ∧ i = 0
    · obtain ⟨rfl, rfl⟩ := h
      rw [tg_up_self, mo_w_mu (Or.inl (by decide)), hg_w_mu h1, tg_up_self]
    · rw [tg_up_ne _ _ h]
      by_cases h2 : k < 11 ∨ 26 ≤ k
      · rw [mo_w_mu h2, mo_w_mu h2, hg_w_mu h1, tg_up_ne _ _ h]
      · have hk : k = 11 ∨ k = 12 ∨ k = 13 ∨ k = 14 ∨ k = 15 ∨ k = 16 ∨ k = 17 ∨ k = 18 ∨ k = 19 ∨ k = 20 ∨ k = 21 ∨ k = 22 ∨ k = 23 ∨ k = 24 ∨ k = 25 := by omega
        rcases hk with z | z | z | z | z | z | z | z | z | z | z | z | z | z | z <;> subst z <;> rfl
  · rw [mo_w_mu (Or.inl (by omega))]
    have hk : k = 0 ∨ k = 1 ∨ k = 2 ∨ k = 3 ∨ k = 4 ∨ k = 5 ∨ k = 6 ∨ k = 7 ∨ k = 8 ∨ k = 9 := by omega
    rcases hk with z | z | z | z | z | z | z | z | z | z <;> subst z <;> rfl
theorem lw_W10 : lw_W cF cI cZ cJ cA cB ν ad G a dr N bc sp M B o 10 0 = .inl (cJ, 1, .inr (.inl o)) := by
  unfold lw_W
  rw [hg_w_mu (Nat.le_refl _), tg_up_self]
  rfl
theorem mo_w_ad {ad9 : Nat → Nat → Nat} (h : ∀ k i, 11 ≤ k → ad9 k i = ad k i) : mo_w ad cI cZ cA cB M B ν = mo_w ad9 cI cZ cA cB M B ν := by
  funext k i
  have e17 : (fun j => some (ad 17 j)) = fun j => some (ad9 17 j) := funext fun j => by rw [h 17 j (by decide)]
  have e23 : (fun j => some (ad 23 j)) = fun j => some (ad9 23 j) := funext fun j => by rw [h 23 j (by decide)]
  by_cases h2 : k < 11 ∨ 26 ≤ k
  · rw [mo_w_mu h2, mo_w_mu h2]
  · have hk : k = 11 ∨ k = 12 ∨ k = 13 ∨ k = 14 ∨ k = 15 ∨ k = 16 ∨ k = 17 ∨ k = 18 ∨ k = 19 ∨ k = 20 ∨ k = 21 ∨ k = 22 ∨ k = 23 ∨ k = 24 ∨ k = 25 := by omega
    rcases hk with z | z | z | z | z | z | z | z | z | z | z | z | z | z | z <;> subst z
    · show Sum.inr _ = Sum.inr _
      rw [h 12 0 (by decide), h 13 0 (by decide), h 14 0 (by decide), h 15 0 (by decide), h 16 0 (by decide), h 18 0 (by decide), h 19 0 (by decide), h 20 0 (by decide), h 21 0 (by decide), h 22 0 (by decide), h 24 0 (by decide), h 25 0 (by decide)]
    all_goals first | rfl | (show Sum.inl (_, _, Sum.inr (Sum.inr (Sum.inr (Sum.inr fun j => some (ad 17 j))))) = _; rw [e17]; rfl) | (show Sum.inl (_, _, Sum.inr (Sum.inr (Sum.inr (Sum.inr fun j => some (ad 23 j))))) = _; rw [e23]; rfl)
end LWW
