/-! what the Statement gives at the start -/
theorem lw_arr1 {args : Array Value} {s : State} {ty : FieldType} (h : (Cond.arrayClass ty).before args s = true) : ∃ cA, ArrOfT s cA ty ∧ s.vm.findClass ("[" ++ ty.toString) = some cA := by
  obtain ⟨cA, kA, comp, h1, h2, h3⟩ := Cond.arrayClass_spec h
  exact ⟨cA, fun n z => ⟨(fun k q => by cases q), kA, h2, comp, h3⟩, h1⟩
theorem lw_arr2 {args : Array Value} {s : State} {ty : FieldType} (h : (Cond.arrayOver (.array ty)).before args s = true) : ∃ cA, ArrOfT s cA (.array ty) ∧ s.vm.findClass ("[" ++ (FieldType.array ty).toString) = some cA := by
  obtain ⟨comp, cA, kA, h1, -, h3, h4, h5⟩ := arrayOverA_spec h
  exact ⟨cA, fun n z => ⟨(fun k q => by cases q), kA, h3, comp, h4⟩, h5⟩
theorem lw_arr3 {args : Array Value} {s : State} {C : String} (h : (Cond.arrayOver (.object C)).before args s = true) : ∃ cA, ArrOfT s cA (.object C) ∧ va_RA s cA (.object C) := by
  obtain ⟨comp, cA, kA, h1, -, h3, h4, h5⟩ := Cond.arrayOver_spec h
  exact ⟨cA, fun n z => ⟨(fun k q => by cases q), kA, h3, comp, h4⟩, kA, comp, h3, h4, h1, h5⟩
theorem lw_K {args : Array Value} {s : State} (hts : ∀ w ∈ lw_tbl, w.before args s = true) : ∃ (D : va_G) (cI cF cZ cJ cA cB : ClassId), va_K D vwCl (hg_tys cI cF cZ cJ cA cB) s := by
  have hg : ∀ w ∈ lw_g, w.before args s = true := fun w hw => hts w (List.mem_filter.mp hw).1
  obtain ⟨c0, i0, k0⟩ := u_known hg inH (hg _ wz_H)
  obtain ⟨c1, i1, k1⟩ := u_known hg inF (hg _ wz_F)
  obtain ⟨c2, i2, k2⟩ := u_known hg inS (hg _ wz_S)
  obtain ⟨c3, i3, k3⟩ := u_known hg inM (hg _ wz_M)
  obtain ⟨cI, a1, b1⟩ := lw_arr1 (hg _ wa_int)
  obtain ⟨cF, a2, b2⟩ := lw_arr3 (hts _ wq_object_HangGraph_Formula)
  obtain ⟨cZ, a3, b3⟩ := lw_arr1 (hg _ wa_boolean)
  obtain ⟨cJ, a4, b4⟩ := lw_arr1 (hg _ wa_long)
  obtain ⟨cA, a5, b5⟩ := lw_arr2 (hts _ wq_array_int)
  obtain ⟨cB, a6, b6⟩ := lw_arr2 (hts _ wq_array_boolean)
  refine ⟨(fun k => match k with | 0 => c0 | 1 => c1 | 2 => c2 | _ => c3, fun k => match k with | 0 => i0 | 1 => i1 | 2 => i2 | _ => i3), cI, cF, cZ, cJ, cA, cB, fun c q hq => ?_, fun k q hq => ?_⟩
  · match c, hq with
    | 0, hq => cases hq; exact k0
    | 1, hq => cases hq; exact k1
    | 2, hq => cases hq; exact k2
    | 3, hq => cases hq; exact k3
    | _ + 4, hq => cases hq
  · match k, hq with
    | 0, hq => cases hq; exact ⟨a1, b1⟩
    | 1, hq => cases hq; exact ⟨a2, b2⟩
    | 2, hq => cases hq; exact ⟨a3, b3⟩
    | 3, hq => cases hq; exact ⟨a4, b4⟩
    | 4, hq => cases hq; exact ⟨a5, b5⟩
    | 5, hq => cases hq; exact ⟨a6, b6⟩
    | _ + 6, hq => cases hq
theorem lw_str {args : Array Value} {s : State} {k : Nat} {tx : String} (h1 : (Cond.stringRef "HangGraph" k tx).before args s = true) (h2 : (Cond.exactly (.string "HangGraph" k) "java/lang/String").before args s = true) : ∃ sa : Nat, vk_R "HangGraph" k tx sa s := by
  obtain ⟨a, -, -, -, h3, -⟩ := Cond.exactly_spec h2
  exact ⟨a, vk_R.of h1 h3⟩
theorem lw_N0 {args : Array Value} {s : State} (hts : ∀ w ∈ lw_tbl, w.before args s = true) (hgv : (Jvm.Cond.and given_1 narrow_1).before args s = true) : hg_N (fun q => s.heap.size ≤ q) s s.heap := by
  have hg : ∀ w ∈ lw_g, w.before args s = true := fun w hw => hts w (List.mem_filter.mp hw).1
  have hs := flat_of_before _ hgv
  refine ⟨fun w hw => ?_, ⟨va_AO.of (hts _ wq_object_HangGraph_Formula), hts _ wq_array_int, hts _ wq_array_boolean⟩, fun q hq => ?_, fun E hE => ?_, fun y hy => ?_, fun E hE E' hE' hne => ?_, ?_, ?_⟩
  · simp only [hg_nest, List.mem_cons, List.not_mem_nil, or_false] at hw
    rcases hw with z | z <;> rw [z]
    · exact va_Nw.of rfl (hts _ wq_F_9)
    · exact va_Nw.of rfl (hts _ wq_F_31)
  · simp only [hg_strs, List.mem_cons, List.not_mem_nil, or_false] at hq
    rcases hq with z | z | z | z | z | z | z <;> rw [z]
    · exact lw_str (hts _ wq_str_112) (hs _ (by decide +kernel))
    · exact lw_str (hts _ wq_str_114) (hs _ (by decide +kernel))
    · exact lw_str (hts _ wq_str_120) (hs _ (by decide +kernel))
    · exact lw_str (hts _ wq_str_125) (hs _ (by decide +kernel))
    · exact lw_str (hts _ wq_str_116) (hs _ (by decide +kernel))
    · exact lw_str (hts _ wq_str_59) (hs _ (by decide +kernel))
    · exact lw_str (hts _ wq_str_93) (hs _ (by decide +kernel))
  · simp only [hg_excs, List.mem_cons, List.not_mem_nil, or_false] at hE
    rcases hE with z | z | z | z <;> rw [z]
    · exact va_Nw.of rfl (hts _ wq_cast_java_lang_IllegalArgumentException)
    · exact va_Nw.of rfl (hts _ wq_cast_java_lang_IllegalStateException)
    · exact va_Nw.of rfl (hts _ wq_cast_java_util_NoSuchElementException)
    · exact va_Nw.of rfl (hts _ wq_cast_java_lang_IndexOutOfBoundsException)
  · simp only [hg_decl, List.mem_cons, List.not_mem_nil, or_false] at hy
    rcases hy with z | z | z | z | z | z <;> rw [z]
    · exact va_Nw.of rfl (hts _ wq_decl_java_lang_RuntimeException_init_0)
    · exact va_Nw.of rfl (hts _ wq_decl_java_lang_RuntimeException_init_s)
    · exact va_Nw.of rfl (hts _ wq_decl_java_lang_Exception_init_0)
    · exact va_Nw.of rfl (hts _ wq_decl_java_lang_Exception_init_s)
    · exact va_Nw.of rfl (hts _ wq_decl_java_lang_Throwable_init_0)
    · exact va_Nw.of rfl (hts _ wq_decl_java_lang_Throwable_init_s)
  · simp only [hg_excs, List.mem_cons, List.not_mem_nil, or_false] at hE hE'
    rcases hE with z | z | z | z <;> rcases hE' with z' | z' | z' | z' <;> rw [z, z'] at hne ⊢ <;> first | exact absurd rfl hne | exact va_Nc.of (hs _ (by decide +kernel))
  · exact vx_Zqof (hts _ (by decide +kernel)) (hts _ (by decide +kernel)) (hs _ (by decide +kernel)) (fun a ha q => absurd ha (Nat.not_lt.mpr q))
  · exact vx_Zqof (hts _ (by decide +kernel)) (hts _ (by decide +kernel)) (hs _ (by decide +kernel)) (fun a ha q => absurd ha (Nat.not_lt.mpr q))
/-- class and reference, both empty -/
theorem lw_R0 (ad : Nat → Nat → Nat) : lw_R (fun _ => False) ad (fun _ => 0) (fun _ _ => none) (fun _ => nI 0) (fun _ _ => 0) (fun _ => 0) (fun _ _ => nI 0) (fun _ _ => 0) (fun _ _ _ => 0) := by
  refine ⟨fun f => ⟨False.elim, fun z => absurd rfl z.2⟩, fun f hf => hf.elim, fun u v k _ _ z => absurd rfl z.1, fun f hf => hf.elim, fun _ => Nat.zero_le _, fun f hf => hf.elim, fun r hr => hg_row_to hg_row_0 (fun q _ => ⟨False.elim, fun z => absurd rfl z⟩), fun k hk => ⟨fun f _ z => absurd rfl z.1, fun _ => rfl⟩, ?_, fun f hf => hf.elim, ⟨fun _ _ => show (0 : Nat) < 1000000 by decide, fun _ => show (0 : Nat) < 1000000 by decide, fun _ _ => show (0 : Nat) < 1000000 by decide, fun _ _ _ => show (0 : Nat) < 1000000 by decide⟩, fun _ _ _ _ _ _ => rfl⟩
  rw [hg_cn_congr (Q := fun _ => False) 400 (fun k _ => ⟨fun z => absurd rfl z, False.elim⟩)]
  exact (hg_cn_0 400).symm
