/-! the law's loop -/
theorem lw_and7 (z : Int32) : ∃ k, k < 8 ∧ z &&& nI 7 = nI k := by
  refine ⟨z.toBitVec.toNat % 8, Nat.mod_lt _ (by decide), Int32.toBitVec_inj.mp (BitVec.eq_of_toNat_eq ?_)⟩
  rw [Int32.toBitVec_and, BitVec.toNat_and]
  have e1 : (nI 7).toBitVec.toNat = 2 ^ 3 - 1 := by decide +kernel
  have e2 : ∀ k, k < 8 → (nI k).toBitVec.toNat = k := by decide +kernel
  rw [e1, e2 _ (Nat.mod_lt _ (by decide)), Nat.and_two_pow_sub_one_eq_mod]
theorem lw_short : ∀ k, k < 7 → nI k - nI 7 < 0 := by decide +kernel
theorem lw_gt {L i : Nat} (hL : L ≤ 3584) (hi : i < 2 ^ 31) (h : ¬ nI L - nI 7 < nI i) : i + 7 ≤ L := by
  by_cases q : 7 ≤ L
  · rw [pk_sub q] at h
    have : ¬ L - 7 < i := fun z => h (nI_lt z hi)
    omega
  · exact absurd (Int32.lt_of_lt_of_le (lw_short L (by omega)) (nI_pos' hi)) h
set_option maxRecDepth 100000 in
set_option maxHeartbeats 8000000 in
theorem lw_loop {p : Program} {l : Launch} {e : Env} {s : State} {m : MethodId} {below : List Frame} {meth : Method} {c : Code} {D : va_G} {cF cI cZ cJ cA cB : ClassId} {ν : Nat → Nat → va_E} {b L9 : Nat} {xs : Nat → Int32} {x0 x1 x2 : Nat} (hx : p.tables.exec = Jvm.exec) (hb : c.code = code) (hml : c.maxLocals = 7) (hl9 : l.stackTraces = false) (hown : s.vm.findClass "HangGraphLaw" = some m.cls) (hts : ∀ w ∈ lw_g, w.before #[Value.ref b] s = true) (hK : va_K D vwCl (hg_tys cI cF cZ cJ cA cB) s) (hN : hg_N (fun q => s.heap.size ≤ q) s s.heap) (hX : va_X b L9 xs s s.heap) (hbl : b < s.heap.size) (hbF : ¬ s.heap.size ≤ b) (hL : L9 ≤ 3584) (hlocks : meth.locks = false) (hret : meth.sig.returnType = ret) : ∀ i, i ≤ 3600 → lw_N p l e room_1 s m #[Value.ref b] below meth c (lw_Z below #[Value.ref b] s) D (fun q => s.heap.size ≤ q) cF cI cZ cJ cA cB ν b x0 x1 x2 i (822 + i) (198847 + 5 * i) 23 := by
  refine tg_loop (fun i : Nat => i ≤ 3600) (fun i => 4000 - i) (fun i => lw_N p l e room_1 s m #[Value.ref b] below meth c (lw_Z below #[Value.ref b] s) D (fun q => s.heap.size ≤ q) cF cI cZ cJ cA cB ν b x0 x1 x2 i (822 + i) (198847 + 5 * i) 23) ?_
  intro i hi ih T ad ok G a dr N bc sp M B o hO hRR e0 e1 e2
  refine tg_iload hx hb dL_law_23 rfl ?_
  refine tg_aload_n hx hb dL_law_25 rfl rfl ?_
  refine tg_slen hx hb hX hbl hbF dL_law_26 ?_
  refine tg_bipush (v := nI 7) hx hb dL_law_27 (by decide +kernel) ?_
  refine tg_isub hx hb dL_law_29 ?_
  refine tg_icmp_gt (tgt := 577) hx hb dL_law_30 (by decide) (fun q => ?_) (fun q => ?_)
  · refine tg_iconst (v := 1) hx hb dL_law_577 (by decide +kernel) ?_
    intro H locs ls hZ h
    exact va_forget (fun q hq => hZ.2.2.2.2 q hq) (W.widen (by omega) (by omega) (lw_ret hx hb hret hlocks dL_law_578))
  · have hi7 : i + 7 ≤ L9 := lw_gt hL (by omega) q
    have hnext : lw_N p l e room_1 s m #[Value.ref b] below meth c (lw_Z below #[Value.ref b] s) D (fun q => s.heap.size ≤ q) cF cI cZ cJ cA cB ν b x0 x1 x2 i (822 + i + 2) (198847 + 5 * i + 35) 571 := by
      intro T ad ok G a dr N bc sp M B o hO hRR e0 e1 e2
      refine tg_iinc (v := nI (i + 7)) (L' := [(0, .ref b), (1, .ref x0), (2, .ref x1), (3, .ref x2), (4, .int (nI (i + 7)))]) hx hb dL_law_571 rfl (nI_add _ 7) (by decide) rfl rfl ?_
      refine tg_goto (tgt := 23) hx hb dL_law_574 (by decide) ?_
      refine tg_widen (k := 822 + (i + 7)) (n := 198847 + 5 * (i + 7)) (by omega) (by omega) ?_
      exact ih (i + 7) (by omega) (by omega) T ad ok G a dr N bc sp M B o hO hRR e0 e1 e2
    refine tg_aload_n hx hb dL_law_33 rfl rfl ?_
    refine tg_iload hx hb dL_law_34 rfl ?_
    refine tg_sld hx hb hX hbl hbF (x := i) (by omega) (by omega) dL_law_36 ?_
    refine tg_bipush (v := nI 7) hx hb dL_law_37 (by decide +kernel) ?_
    refine tg_iand hx hb dL_law_39 ?_
    obtain ⟨k, hk, ek⟩ := lw_and7 (xs i)
    refine tg_top (y := nI k) ek ?_
    have hk8 : k = 0 ∨ k = 1 ∨ k = 2 ∨ k = 3 ∨ k = 4 ∨ k = 5 ∨ k = 6 ∨ k = 7 := by omega
    rcases hk8 with z | z | z | z | z | z | z | z <;> subst z
    · refine tg_tabIn (off := 44) (tgt := 84) hx hb dL_law_40 (by decide +kernel) (by decide +kernel) (by decide +kernel) (by decide) ?_
      exact s_put hx hb hml hl9 hown hts hK hN hX hbl hbF hL hi7 rfl ⟨by omega, by omega⟩ hnext T ad ok G a dr N bc sp M B o hO hRR e0 e1 e2
    · refine tg_tabIn (off := 136) (tgt := 176) hx hb dL_law_40 (by decide +kernel) (by decide +kernel) (by decide +kernel) (by decide) ?_
      exact s_out hx hb hml hl9 hown hts hK hN hX hbl hbF hL hi7 rfl ⟨by omega, by omega⟩ hnext T ad ok G a dr N bc sp M B o hO hRR e0 e1 e2
    · refine tg_tabIn (off := 204) (tgt := 244) hx hb dL_law_40 (by decide +kernel) (by decide +kernel) (by decide +kernel) (by decide) ?_
      exact s_speak hx hb hml hl9 hown hts hK hN hX hbl hbF hL hi7 rfl ⟨by omega, by omega⟩ hnext T ad ok G a dr N bc sp M B o hO hRR e0 e1 e2
    · refine tg_tabIn (off := 322) (tgt := 362) hx hb dL_law_40 (by decide +kernel) (by decide +kernel) (by decide +kernel) (by decide) ?_
      exact s_touch hx hb hml hl9 hown hts hK hN hX hbl hbF hL hi7 rfl ⟨by omega, by omega⟩ hnext T ad ok G a dr N bc sp M B o hO hRR e0 e1 e2
    · refine tg_tabIn (off := 370) (tgt := 410) hx hb dL_law_40 (by decide +kernel) (by decide +kernel) (by decide +kernel) (by decide) ?_
      exact s_spread hx hb hml hl9 hown hts hK hN hX hbl hbF hL hi7 rfl ⟨by omega, by omega⟩ hnext T ad ok G a dr N bc sp M B o hO hRR e0 e1 e2
    · refine tg_tabIn (off := 383) (tgt := 423) hx hb dL_law_40 (by decide +kernel) (by decide +kernel) (by decide +kernel) (by decide) ?_
      exact s_told hx hb hml hl9 hown hts hK hN hX hbl hbF hL hi7 rfl ⟨by omega, by omega⟩ hnext T ad ok G a dr N bc sp M B o hO hRR e0 e1 e2
    · refine tg_tabIn (off := 463) (tgt := 503) hx hb dL_law_40 (by decide +kernel) (by decide +kernel) (by decide +kernel) (by decide) ?_
      exact s_owner hx hb hml hl9 hown hts hK hN hX hbl hbF hL hi7 rfl ⟨by omega, by omega⟩ hnext T ad ok G a dr N bc sp M B o hO hRR e0 e1 e2
    · refine tg_tabOut (tgt := 571) hx hb dL_law_40 (by decide +kernel) (by decide) ?_
      refine tg_widen (k := 822 + i + 2) (n := 198847 + 5 * i + 35) (by omega) (by omega) ?_
      exact hnext T ad ok G a dr N bc sp M B o hO hRR e0 e1 e2
