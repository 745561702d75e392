/-! what is known besides the good words: links of nest mates, arrays of rows, texts, exceptions, two statics of Throwable; it outlives every call -/
def hg_AA (t : FieldType) (U : State) : Prop := (Cond.arrayOver (.array t)).before #[] U = true
theorem hg_AA.moved {t : FieldType} {u U : State} (hvm : u.vm.Alike U.vm) (h : hg_AA t u) : hg_AA t U := by
  obtain ⟨comp, c, k, h1, h2, h3, h4, h5⟩ := arrayOverA_spec h
  obtain ⟨k', hk', he⟩ := hvm.2.2 _ _ h3
  have hi := (hvm.findIdx?_eq _ (fun _ => rfl)).trans h2
  have hkind : k'.kind = .array comp (.array t) := by rw [he]; exact h4
  have f1 : U.vm.findClass (FieldType.array t).toString = some comp := by rw [hvm.findClass]; exact h1
  have f2 : U.vm.findClass ("[" ++ (FieldType.array t).toString) = some c := by rw [hvm.findClass]; exact h5
  unfold hg_AA Cond.before Cond.holds
  simp only [Cond.value]
  rw [f1, Option.bind_some]
  refine (congrArg (fun o : Option Nat => (o.bind (fun c => (U.vm.classes[c]?).map fun (k : Class) => match k.kind with | .array _ ty => decide (ty = FieldType.array t) && decide (U.vm.findClass ("[" ++ (FieldType.array t).toString) = some c) | _ => false) == some true)) hi).trans ?_
  simp [hk', hkind, f2]
def hg_strs : List (Nat × String) := [(112, "no such cell"), (114, "the block is empty or beyond the grid"), (120, "blocks would overlap"), (125, "no formula has this first cell"), (116, "the rectangle is empty or beyond the grid"), (59, "the formula has 20 rectangles already"), (93, "what is not 0, 1 or 2")]
def hg_excs : List String := ["java/lang/IllegalArgumentException", "java/lang/IllegalStateException", "java/util/NoSuchElementException", "java/lang/IndexOutOfBoundsException"]
def hg_decl : List MethodName := [⟨"java/lang/RuntimeException", "<init>", "()V"⟩, ⟨"java/lang/RuntimeException", "<init>", "(Ljava/lang/String;)V"⟩, ⟨"java/lang/Exception", "<init>", "()V"⟩, ⟨"java/lang/Exception", "<init>", "(Ljava/lang/String;)V"⟩, ⟨"java/lang/Throwable", "<init>", "()V"⟩, ⟨"java/lang/Throwable", "<init>", "(Ljava/lang/String;)V"⟩]
def hg_nest : List Cond := [.methodLinkNest "HangGraph$Formula" 9 yH_cellAt "HangGraph", .methodLinkNest "HangGraph$Formula" 31 yH_columnBits "HangGraph"]
def hg_N (F : Nat → Prop) (U : State) (H : Heap) : Prop :=
  (∀ w ∈ hg_nest, va_Nw w U) ∧ (va_AO "HangGraph$Formula" U ∧ hg_AA .int U ∧ hg_AA .boolean U) ∧ (∀ q ∈ hg_strs, ∃ sa : Nat, vk_R "HangGraph" q.1 q.2 sa U) ∧ (∀ E ∈ hg_excs, va_Nw (.castable E E) U) ∧ (∀ y ∈ hg_decl, va_Nw (.declares y) U) ∧ (∀ E ∈ hg_excs, ∀ E' ∈ hg_excs, E ≠ E' → va_Nc E E' U) ∧
  vx_Zq Bundle.tN "UNASSIGNED_STACK" Bundle.steD F U H ∧ vx_Zq Bundle.tN "SUPPRESSED_SENTINEL" Bundle.listD F U H
theorem hg_Mv (F : Nat → Prop) : tg_Mv F (hg_N F) := by
  have one : ∀ (u U : State) (H : Heap), u.WarmedH U.vm → hg_N F u H → hg_N F U H := by
    intro u U H hW ⟨h1, ⟨h2, h2a, h2b⟩, h3, h4, h5, h6, h7, h8⟩
    refine ⟨fun w hw => ?_, ⟨h2.moved hW.alike, h2a.moved hW.alike, h2b.moved hW.alike⟩, fun q hq => ?_, fun E hE => (h4 E hE).warmC hW, fun y hy => (h5 y hy).warmD hW, fun E hE E' hE' hne => (h6 E hE E' hE' hne).moved hW.alike, h7.moved hW.alike, h8.moved hW.alike⟩
    · have hz := h1 w hw
      simp only [hg_nest, List.mem_cons, List.not_mem_nil, or_false] at hw
      rcases hw with e | e
      · rw [e] at hz ⊢
        exact va_Nw.warmM hW hz
      · rw [e] at hz ⊢
        exact va_Nw.warmM hW hz
    · obtain ⟨sa, h⟩ := h3 q hq
      exact ⟨sa, h.warm hW⟩
  refine ⟨one, fun u U H hv h => one u U H (by rw [← hv]; exact State.WarmedH.refl u) h, fun U H H1 hz hk h => ?_⟩
  obtain ⟨h1, h2, h3, h4, h5, h6, h7, h8⟩ := h
  exact ⟨h1, h2, h3, h4, h5, h6, h7.kept hk, h8.kept hk⟩
/-- the words of a throw -/
theorem hg_at {F : Nat → Prop} {U : State} {H : Heap} {args : Array Value} (hts : ∀ w ∈ lw_g, w.before args U = true) (hN : hg_N F U H) {E : String} (hE : E ∈ hg_excs) {ic : Nat} (h1 : ∀ w ∈ (vx_atS "HangGraph" ic E ["java/lang/RuntimeException", "java/lang/Exception"]).filter goodWord, w ∈ lw_g)
    (h2 : ∀ w ∈ (vx_atS "HangGraph" ic E ["java/lang/RuntimeException", "java/lang/Exception"]).filter (fun w => !goodWord w), w ∈ Cond.castable E E :: hg_decl.map Cond.declares) : ∀ w ∈ vx_atS "HangGraph" ic E ["java/lang/RuntimeException", "java/lang/Exception"], w.before args U = true := by
  refine vx_hat (fun w hw => hts w (h1 w hw)) h2 fun w hw => ?_
  rcases List.mem_cons.mp hw with e | h
  · rw [e]
    exact va_Nw.use rfl (hN.2.2.2.1 E hE)
  · obtain ⟨y, hy, e⟩ := List.mem_map.mp h
    rw [← e]
    exact va_Nw.use rfl (hN.2.2.2.2.1 y hy)
theorem hg_at_IAE1 : ∀ w ∈ (vx_atS "HangGraph" 95 "java/lang/IllegalArgumentException" ["java/lang/RuntimeException", "java/lang/Exception"]).filter goodWord, w ∈ lw_g := by decide +kernel
theorem hg_at_IAE2 : ∀ w ∈ (vx_atS "HangGraph" 95 "java/lang/IllegalArgumentException" ["java/lang/RuntimeException", "java/lang/Exception"]).filter (fun w => !goodWord w), w ∈ Cond.castable "java/lang/IllegalArgumentException" "java/lang/IllegalArgumentException" :: hg_decl.map Cond.declares := by decide +kernel
theorem hg_at_ISE1 : ∀ w ∈ (vx_atS "HangGraph" 122 "java/lang/IllegalStateException" ["java/lang/RuntimeException", "java/lang/Exception"]).filter goodWord, w ∈ lw_g := by decide +kernel
theorem hg_at_ISE2 : ∀ w ∈ (vx_atS "HangGraph" 122 "java/lang/IllegalStateException" ["java/lang/RuntimeException", "java/lang/Exception"]).filter (fun w => !goodWord w), w ∈ Cond.castable "java/lang/IllegalStateException" "java/lang/IllegalStateException" :: hg_decl.map Cond.declares := by decide +kernel
theorem hg_at_IOE1 : ∀ w ∈ (vx_atS "HangGraph" 61 "java/lang/IndexOutOfBoundsException" ["java/lang/RuntimeException", "java/lang/Exception"]).filter goodWord, w ∈ lw_g := by decide +kernel
theorem hg_at_IOE2 : ∀ w ∈ (vx_atS "HangGraph" 61 "java/lang/IndexOutOfBoundsException" ["java/lang/RuntimeException", "java/lang/Exception"]).filter (fun w => !goodWord w), w ∈ Cond.castable "java/lang/IndexOutOfBoundsException" "java/lang/IndexOutOfBoundsException" :: hg_decl.map Cond.declares := by decide +kernel
theorem hg_ot_IAE : ∀ w ∈ Cond.classLink "HangGraph" 91 "java/lang/IllegalArgumentException" :: Cond.initialized "java/lang/IllegalArgumentException" :: vx_atS "HangGraph" 95 "java/lang/IllegalArgumentException" ["java/lang/RuntimeException", "java/lang/Exception"], vx_ot w = true := by decide +kernel
theorem hg_ot_ISE : ∀ w ∈ Cond.classLink "HangGraph" 118 "java/lang/IllegalStateException" :: Cond.initialized "java/lang/IllegalStateException" :: vx_atS "HangGraph" 122 "java/lang/IllegalStateException" ["java/lang/RuntimeException", "java/lang/Exception"], vx_ot w = true := by decide +kernel
theorem hg_ot_IOE : ∀ w ∈ Cond.classLink "HangGraph" 57 "java/lang/IndexOutOfBoundsException" :: Cond.initialized "java/lang/IndexOutOfBoundsException" :: vx_atS "HangGraph" 61 "java/lang/IndexOutOfBoundsException" ["java/lang/RuntimeException", "java/lang/Exception"], vx_ot w = true := by decide +kernel
