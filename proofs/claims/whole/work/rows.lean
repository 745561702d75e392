section
-- ===== PART A: goes FIRST, ahead of the names: the tables' words, and 'selects' of the private methods out of them =====
/-- a private method of a class that the tables say can be made, by its rows of tables_1 -/
def lw_okq (q : MethodName × Nat) : Prop := (q.1.cls ≠ "java/lang/invoke/MethodHandle" ∧ q.1.cls ≠ "java/lang/invoke/VarHandle") ∧ Cond.instantiable q.1.cls q.2 ∈ tables_1 ∧ Cond.privateMethod q.1 ∈ tables_1 ∧ Cond.instanceMethod q.1 ∈ tables_1
theorem lw_p0 : lw_okq (⟨"HangGraph$Sweep", "addHit", "(LHangGraph$Formula;)V"⟩, 9) := ⟨⟨by decide +kernel, by decide +kernel⟩, List.mem_of_getElem? (i := 25) (by decide +kernel), List.mem_of_getElem? (i := 99) (by decide +kernel), List.mem_of_getElem? (i := 100) (by decide +kernel)⟩
theorem lw_p1 : lw_okq (⟨"HangGraph$Sweep", "hitAllThatHangOn", "(LHangGraph$Formula;)V"⟩, 9) := ⟨⟨by decide +kernel, by decide +kernel⟩, List.mem_of_getElem? (i := 25) (by decide +kernel), List.mem_of_getElem? (i := 103) (by decide +kernel), List.mem_of_getElem? (i := 104) (by decide +kernel)⟩
theorem lw_p2 : lw_okq (⟨"HangGraph$Sweep", "walkFrom", "(LHangGraph$Formula;)V"⟩, 9) := ⟨⟨by decide +kernel, by decide +kernel⟩, List.mem_of_getElem? (i := 25) (by decide +kernel), List.mem_of_getElem? (i := 115) (by decide +kernel), List.mem_of_getElem? (i := 116) (by decide +kernel)⟩
theorem lw_p3 : lw_okq (⟨"HangGraph$Sweep", "enter", "(LHangGraph$Formula;)V"⟩, 9) := ⟨⟨by decide +kernel, by decide +kernel⟩, List.mem_of_getElem? (i := 25) (by decide +kernel), List.mem_of_getElem? (i := 119) (by decide +kernel), List.mem_of_getElem? (i := 120) (by decide +kernel)⟩
theorem lw_p4 : lw_okq (⟨"HangGraph$Sweep", "nextBelow", "(LHangGraph$Formula;)LHangGraph$Formula;"⟩, 9) := ⟨⟨by decide +kernel, by decide +kernel⟩, List.mem_of_getElem? (i := 25) (by decide +kernel), List.mem_of_getElem? (i := 123) (by decide +kernel), List.mem_of_getElem? (i := 124) (by decide +kernel)⟩
theorem lw_p5 : lw_okq (⟨"HangGraph$Sweep", "leave", "(LHangGraph$Formula;)V"⟩, 9) := ⟨⟨by decide +kernel, by decide +kernel⟩, List.mem_of_getElem? (i := 25) (by decide +kernel), List.mem_of_getElem? (i := 130) (by decide +kernel), List.mem_of_getElem? (i := 131) (by decide +kernel)⟩
theorem lw_p6 : lw_okq (⟨"HangGraph$Sweep", "closeGroup", "(LHangGraph$Formula;)V"⟩, 9) := ⟨⟨by decide +kernel, by decide +kernel⟩, List.mem_of_getElem? (i := 25) (by decide +kernel), List.mem_of_getElem? (i := 134) (by decide +kernel), List.mem_of_getElem? (i := 135) (by decide +kernel)⟩
theorem lw_p7 : lw_okq (⟨"HangGraph$Sweep", "greatestRankBelow", "(LHangGraph$Formula;)I"⟩, 9) := ⟨⟨by decide +kernel, by decide +kernel⟩, List.mem_of_getElem? (i := 25) (by decide +kernel), List.mem_of_getElem? (i := 138) (by decide +kernel), List.mem_of_getElem? (i := 139) (by decide +kernel)⟩
theorem lw_p8 : lw_okq (⟨"java/lang/Throwable", "fillInStackTrace", "(I)Ljava/lang/Throwable;"⟩, 6) := ⟨⟨by decide +kernel, by decide +kernel⟩, List.mem_of_getElem? (i := 199) (by decide +kernel), List.mem_of_getElem? (i := 197) (by decide +kernel), List.mem_of_getElem? (i := 198) (by decide +kernel)⟩
theorem lw_p9 : lw_okq (⟨"HangGraph", "requireFree", "(IIII)V"⟩, 4) := ⟨⟨by decide +kernel, by decide +kernel⟩, List.mem_of_getElem? (i := 15) (by decide +kernel), List.mem_of_getElem? (i := 233) (by decide +kernel), List.mem_of_getElem? (i := 234) (by decide +kernel)⟩
theorem lw_p10 : lw_okq (⟨"HangGraph", "cover", "(LHangGraph$Formula;LHangGraph$Formula;)V"⟩, 4) := ⟨⟨by decide +kernel, by decide +kernel⟩, List.mem_of_getElem? (i := 15) (by decide +kernel), List.mem_of_getElem? (i := 328) (by decide +kernel), List.mem_of_getElem? (i := 329) (by decide +kernel)⟩
theorem lw_p11 : lw_okq (⟨"HangGraph", "formulaNamed", "(II)LHangGraph$Formula;"⟩, 4) := ⟨⟨by decide +kernel, by decide +kernel⟩, List.mem_of_getElem? (i := 15) (by decide +kernel), List.mem_of_getElem? (i := 340) (by decide +kernel), List.mem_of_getElem? (i := 341) (by decide +kernel)⟩
theorem lw_p12 : lw_okq (⟨"HangGraphModel", "out", "(IIII)Z"⟩, 13) := ⟨⟨by decide +kernel, by decide +kernel⟩, List.mem_of_getElem? (i := 415) (by decide +kernel), List.mem_of_getElem? (i := 474) (by decide +kernel), List.mem_of_getElem? (i := 475) (by decide +kernel)⟩
theorem lw_p13 : lw_okq (⟨"HangGraphModel", "fail", "(I)I"⟩, 13) := ⟨⟨by decide +kernel, by decide +kernel⟩, List.mem_of_getElem? (i := 415) (by decide +kernel), List.mem_of_getElem? (i := 478) (by decide +kernel), List.mem_of_getElem? (i := 479) (by decide +kernel)⟩
theorem lw_p14 : lw_okq (⟨"HangGraphModel", "owner", "(I)I"⟩, 13) := ⟨⟨by decide +kernel, by decide +kernel⟩, List.mem_of_getElem? (i := 415) (by decide +kernel), List.mem_of_getElem? (i := 482) (by decide +kernel), List.mem_of_getElem? (i := 483) (by decide +kernel)⟩
theorem lw_p15 : lw_okq (⟨"HangGraphModel", "forget", "(I)V"⟩, 13) := ⟨⟨by decide +kernel, by decide +kernel⟩, List.mem_of_getElem? (i := 415) (by decide +kernel), List.mem_of_getElem? (i := 486) (by decide +kernel), List.mem_of_getElem? (i := 487) (by decide +kernel)⟩
def lw_privs_1 : List (MethodName × Nat) := [(⟨"HangGraph$Sweep", "addHit", "(LHangGraph$Formula;)V"⟩, 9), (⟨"HangGraph$Sweep", "hitAllThatHangOn", "(LHangGraph$Formula;)V"⟩, 9), (⟨"HangGraph$Sweep", "walkFrom", "(LHangGraph$Formula;)V"⟩, 9), (⟨"HangGraph$Sweep", "enter", "(LHangGraph$Formula;)V"⟩, 9), (⟨"HangGraph$Sweep", "nextBelow", "(LHangGraph$Formula;)LHangGraph$Formula;"⟩, 9), (⟨"HangGraph$Sweep", "leave", "(LHangGraph$Formula;)V"⟩, 9), (⟨"HangGraph$Sweep", "closeGroup", "(LHangGraph$Formula;)V"⟩, 9), (⟨"HangGraph$Sweep", "greatestRankBelow", "(LHangGraph$Formula;)I"⟩, 9), (⟨"java/lang/Throwable", "fillInStackTrace", "(I)Ljava/lang/Throwable;"⟩, 6), (⟨"HangGraph", "requireFree", "(IIII)V"⟩, 4), (⟨"HangGraph", "cover", "(LHangGraph$Formula;LHangGraph$Formula;)V"⟩, 4), (⟨"HangGraph", "formulaNamed", "(II)LHangGraph$Formula;"⟩, 4), (⟨"HangGraphModel", "out", "(IIII)Z"⟩, 13), (⟨"HangGraphModel", "fail", "(I)I"⟩, 13), (⟨"HangGraphModel", "owner", "(I)I"⟩, 13), (⟨"HangGraphModel", "forget", "(I)V"⟩, 13)]
theorem lw_r1 : ∀ q ∈ lw_privs_1, lw_okq q := List.forall_mem_cons.mpr ⟨lw_p0, List.forall_mem_cons.mpr ⟨lw_p1, List.forall_mem_cons.mpr ⟨lw_p2, List.forall_mem_cons.mpr ⟨lw_p3, List.forall_mem_cons.mpr ⟨lw_p4, List.forall_mem_cons.mpr ⟨lw_p5, List.forall_mem_cons.mpr ⟨lw_p6, List.forall_mem_cons.mpr ⟨lw_p7, List.forall_mem_cons.mpr ⟨lw_p8, List.forall_mem_cons.mpr ⟨lw_p9, List.forall_mem_cons.mpr ⟨lw_p10, List.forall_mem_cons.mpr ⟨lw_p11, List.forall_mem_cons.mpr ⟨lw_p12, List.forall_mem_cons.mpr ⟨lw_p13, List.forall_mem_cons.mpr ⟨lw_p14, List.forall_mem_cons.mpr ⟨lw_p15, fun _ h => absurd h List.not_mem_nil⟩⟩⟩⟩⟩⟩⟩⟩⟩⟩⟩⟩⟩⟩⟩⟩
theorem lw_p16 : lw_okq (⟨"HangGraphModel", "count", "()I"⟩, 13) := ⟨⟨by decide +kernel, by decide +kernel⟩, List.mem_of_getElem? (i := 415) (by decide +kernel), List.mem_of_getElem? (i := 490) (by decide +kernel), List.mem_of_getElem? (i := 491) (by decide +kernel)⟩
theorem lw_p17 : lw_okq (⟨"HangGraphModel", "survey", "()V"⟩, 13) := ⟨⟨by decide +kernel, by decide +kernel⟩, List.mem_of_getElem? (i := 415) (by decide +kernel), List.mem_of_getElem? (i := 510) (by decide +kernel), List.mem_of_getElem? (i := 511) (by decide +kernel)⟩
theorem lw_p18 : lw_okq (⟨"HangGraphModel", "speaks", "(II)Z"⟩, 13) := ⟨⟨by decide +kernel, by decide +kernel⟩, List.mem_of_getElem? (i := 415) (by decide +kernel), List.mem_of_getElem? (i := 514) (by decide +kernel), List.mem_of_getElem? (i := 515) (by decide +kernel)⟩
theorem lw_p19 : lw_okq (⟨"HangGraphModel", "comesBack", "(I)Z"⟩, 13) := ⟨⟨by decide +kernel, by decide +kernel⟩, List.mem_of_getElem? (i := 415) (by decide +kernel), List.mem_of_getElem? (i := 518) (by decide +kernel), List.mem_of_getElem? (i := 519) (by decide +kernel)⟩
def lw_privs_2 : List (MethodName × Nat) := [(⟨"HangGraphModel", "count", "()I"⟩, 13), (⟨"HangGraphModel", "survey", "()V"⟩, 13), (⟨"HangGraphModel", "speaks", "(II)Z"⟩, 13), (⟨"HangGraphModel", "comesBack", "(I)Z"⟩, 13)]
theorem lw_r2 : ∀ q ∈ lw_privs_2, lw_okq q := List.forall_mem_cons.mpr ⟨lw_p16, List.forall_mem_cons.mpr ⟨lw_p17, List.forall_mem_cons.mpr ⟨lw_p18, List.forall_mem_cons.mpr ⟨lw_p19, fun _ h => absurd h List.not_mem_nil⟩⟩⟩⟩
def lw_privs : List (MethodName × Nat) := lw_privs_1 ++ (lw_privs_2)
def lw_tbl : List Cond := k2_sels lw_privs ++ tables_1
theorem lw_privs_ok : ∀ q ∈ lw_privs, lw_okq q := by
  show ∀ q ∈ lw_privs_1 ++ (lw_privs_2), lw_okq q
  exact List.forall_mem_append.mpr ⟨lw_r1, lw_r2⟩
end
section
/-! names, laid by program: the good words of the tables, a method's words, fields, codes, decode rows -/
def lw_g : List Cond := lw_tbl.filter goodWord
theorem lg_mem {w : Cond} {i : Nat} (h : lw_tbl[i]? = some w) (hg : goodWord w = true) : w ∈ lw_g := List.mem_filter.mpr ⟨List.mem_of_getElem? h, hg⟩
theorem lg_ok {w : Cond} (h : w ∈ lw_g) : w ∈ lw_g ∧ ((w.onTables && w.keeps) = true ∨ ∃ ty, w = .arrayClass ty) := ⟨h, good_of_word (List.mem_filter.mp h).2⟩
theorem lg_tbl {w : Cond} (h : w ∈ lw_g) : w ∈ lw_tbl := (List.mem_filter.mp h).1
theorem lg_N {y : MethodName} {b : ByteArray} {n : Nat} {r : Option FieldType} (h5 : Cond.code y b n r ∈ lw_g) : GoodIn lw_g (.code y b n r :: lw_g) := by
  intro w hw
  rcases List.mem_cons.mp hw with e | h
  · rw [e]; exact lg_ok h5
  · exact lg_ok h
theorem lg_V {own C : String} {idx : Nat} {y : MethodName} {b : ByteArray} {n : Nat} {r : Option FieldType} (h1 : Cond.methodLink own idx y ∈ lw_g) (h2 : Cond.instanceMethod y ∈ lw_g) (h3 : Cond.selects C y y ∈ lw_g) (h4 : Cond.initialized C ∈ lw_g) (h5 : Cond.code y b n r ∈ lw_g) : GoodIn lw_g (wsV own idx C y (.code y b n r :: lw_g)) := by
  intro w hw
  unfold wsV at hw
  rcases List.mem_append.mp hw with h | h
  · simp only [List.mem_cons, List.not_mem_nil, or_false] at h
    rcases h with e | e | e | e
    · rw [e]; exact lg_ok h1
    · rw [e]; exact lg_ok h2
    · rw [e]; exact lg_ok h3
    · rw [e]; exact lg_ok h4
  · exact lg_N h5 w h
theorem lg_S {own : String} {idx : Nat} {y : MethodName} {b : ByteArray} {n : Nat} {r : Option FieldType} (h1 : Cond.methodLink own idx y ∈ lw_g) (h2 : Cond.static y ∈ lw_g) (h4 : Cond.initialized y.cls ∈ lw_g) (h5 : Cond.code y b n r ∈ lw_g) : GoodIn lw_g (va_wsS own idx y (.code y b n r :: lw_g)) := by
  intro w hw
  unfold va_wsS at hw
  rcases List.mem_append.mp hw with h | h
  · simp only [List.mem_cons, List.not_mem_nil, or_false] at h
    rcases h with e | e | e
    · rw [e]; exact lg_ok h1
    · rw [e]; exact lg_ok h2
    · rw [e]; exact lg_ok h4
  · exact lg_N h5 w h
abbrev yH_init : MethodName := ⟨"HangGraph", "<init>", "()V"⟩
abbrev cH_init : ByteArray := prog_1_method_1_code
def wsH_init : List Cond := .code yH_init cH_init 1 none :: lw_g
abbrev yS_init : MethodName := ⟨"HangGraph$Sweep", "<init>", "()V"⟩
abbrev cS_init : ByteArray := prog_3_method_1_code
def wsS_init : List Cond := .code yS_init cS_init 1 none :: lw_g
abbrev yH_spread : MethodName := ⟨"HangGraph", "spread", "()I"⟩
abbrev cH_spread : ByteArray := prog_1_method_6_code
def wsH_spread : List Cond := .code yH_spread cH_spread 1 (some .int) :: lw_g
abbrev yS_begin : MethodName := ⟨"HangGraph$Sweep", "begin", "([LHangGraph$Formula;)V"⟩
abbrev cS_begin : ByteArray := prog_3_method_2_code
def wsS_begin : List Cond := .code yS_begin cS_begin 4 none :: lw_g
abbrev yF_forget : MethodName := ⟨"HangGraph$Formula", "forget", "()V"⟩
abbrev cF_forget : ByteArray := prog_2_method_6_code
def wsF_forget : List Cond := .code yF_forget cF_forget 1 none :: lw_g
abbrev yS_findHit : MethodName := ⟨"HangGraph$Sweep", "findHit", "([I)V"⟩
abbrev cS_findHit : ByteArray := prog_3_method_3_code
def wsS_findHit : List Cond := .code yS_findHit cS_findHit 4 none :: lw_g
abbrev yF_holdsOneOf : MethodName := ⟨"HangGraph$Formula", "holdsOneOf", "([I)Z"⟩
abbrev cF_holdsOneOf : ByteArray := prog_2_method_5_code
def wsF_holdsOneOf : List Cond := .code yF_holdsOneOf cF_holdsOneOf 3 (some .boolean) :: lw_g
abbrev yF_hangsOnOneOf : MethodName := ⟨"HangGraph$Formula", "hangsOnOneOf", "([I)Z"⟩
abbrev cF_hangsOnOneOf : ByteArray := prog_2_method_4_code
def wsF_hangsOnOneOf : List Cond := .code yF_hangsOnOneOf cF_hangsOnOneOf 3 (some .boolean) :: lw_g
abbrev yS_addHit : MethodName := ⟨"HangGraph$Sweep", "addHit", "(LHangGraph$Formula;)V"⟩
abbrev cS_addHit : ByteArray := prog_3_method_5_code
def wsS_addHit : List Cond := .code yS_addHit cS_addHit 2 none :: lw_g
abbrev yS_hitAllThatHangOn : MethodName := ⟨"HangGraph$Sweep", "hitAllThatHangOn", "(LHangGraph$Formula;)V"⟩
abbrev cS_hitAllThatHangOn : ByteArray := prog_3_method_4_code
def wsS_hitAllThatHangOn : List Cond := .code yS_hitAllThatHangOn cS_hitAllThatHangOn 4 none :: lw_g
abbrev yF_hangsOn : MethodName := ⟨"HangGraph$Formula", "hangsOn", "(LHangGraph$Formula;)Z"⟩
abbrev cF_hangsOn : ByteArray := prog_2_method_3_code
def wsF_hangsOn : List Cond := .code yF_hangsOn cF_hangsOn 3 (some .boolean) :: lw_g
abbrev yS_rankHit : MethodName := ⟨"HangGraph$Sweep", "rankHit", "()V"⟩
abbrev cS_rankHit : ByteArray := prog_3_method_6_code
def wsS_rankHit : List Cond := .code yS_rankHit cS_rankHit 2 none :: lw_g
abbrev yS_walkFrom : MethodName := ⟨"HangGraph$Sweep", "walkFrom", "(LHangGraph$Formula;)V"⟩
abbrev cS_walkFrom : ByteArray := prog_3_method_7_code
def wsS_walkFrom : List Cond := .code yS_walkFrom cS_walkFrom 5 none :: lw_g
abbrev yS_enter : MethodName := ⟨"HangGraph$Sweep", "enter", "(LHangGraph$Formula;)V"⟩
abbrev cS_enter : ByteArray := prog_3_method_8_code
def wsS_enter : List Cond := .code yS_enter cS_enter 2 none :: lw_g
abbrev yS_nextBelow : MethodName := ⟨"HangGraph$Sweep", "nextBelow", "(LHangGraph$Formula;)LHangGraph$Formula;"⟩
abbrev cS_nextBelow : ByteArray := prog_3_method_9_code
def wsS_nextBelow : List Cond := .code yS_nextBelow cS_nextBelow 4 (some (.object "HangGraph$Formula")) :: lw_g
abbrev yS_leave : MethodName := ⟨"HangGraph$Sweep", "leave", "(LHangGraph$Formula;)V"⟩
abbrev cS_leave : ByteArray := prog_3_method_10_code
def wsS_leave : List Cond := .code yS_leave cS_leave 3 none :: lw_g
abbrev yS_closeGroup : MethodName := ⟨"HangGraph$Sweep", "closeGroup", "(LHangGraph$Formula;)V"⟩
abbrev cS_closeGroup : ByteArray := prog_3_method_11_code
def wsS_closeGroup : List Cond := .code yS_closeGroup cS_closeGroup 3 none :: lw_g
abbrev yS_greatestRankBelow : MethodName := ⟨"HangGraph$Sweep", "greatestRankBelow", "(LHangGraph$Formula;)I"⟩
abbrev cS_greatestRankBelow : ByteArray := prog_3_method_12_code
def wsS_greatestRankBelow : List Cond := .code yS_greatestRankBelow cS_greatestRankBelow 4 (some .int) :: lw_g
abbrev yA_fill : MethodName := ⟨"java/util/Arrays", "fill", "([II)V"⟩
abbrev cA_fill : ByteArray := prog_14_method_103_code
def wsA_fill : List Cond := .code yA_fill cA_fill 4 none :: lw_g
abbrev yL_put : MethodName := ⟨"HangGraphLaw", "put", "(LHangGraph;IIII[J)I"⟩
abbrev cL_put : ByteArray := method_3_code
abbrev yH_put : MethodName := ⟨"HangGraph", "put", "(IIII)I"⟩
abbrev cH_put : ByteArray := prog_1_method_2_code
def wsH_put : List Cond := .code yH_put cH_put 8 (some .int) :: lw_g
abbrev yH_requireCell : MethodName := ⟨"HangGraph", "requireCell", "(II)V"⟩
abbrev cH_requireCell : ByteArray := prog_1_method_11_code
def wsH_requireCell : List Cond := .code yH_requireCell cH_requireCell 2 none :: lw_g
abbrev yH_requireFits : MethodName := ⟨"HangGraph", "requireFits", "(II)V"⟩
abbrev cH_requireFits : ByteArray := prog_1_method_12_code
def wsH_requireFits : List Cond := .code yH_requireFits cH_requireFits 2 none :: lw_g
abbrev yH_requireFree : MethodName := ⟨"HangGraph", "requireFree", "(IIII)V"⟩
abbrev cH_requireFree : ByteArray := prog_1_method_14_code
def wsH_requireFree : List Cond := .code yH_requireFree cH_requireFree 7 none :: lw_g
abbrev yH_cellAt : MethodName := ⟨"HangGraph", "cellAt", "(II)I"⟩
abbrev cH_cellAt : ByteArray := prog_1_method_9_code
def wsH_cellAt : List Cond := .code yH_cellAt cH_cellAt 2 (some .int) :: lw_g
abbrev yF_init : MethodName := ⟨"HangGraph$Formula", "<init>", "(IIII)V"⟩
abbrev cF_init : ByteArray := prog_2_method_1_code
def wsF_init : List Cond := .code yF_init cF_init 5 none :: lw_g
abbrev yH_columnBits : MethodName := ⟨"HangGraph", "columnBits", "(II)I"⟩
abbrev cH_columnBits : ByteArray := prog_1_method_10_code
def wsH_columnBits : List Cond := .code yH_columnBits cH_columnBits 2 (some .int) :: lw_g
abbrev yH_cover : MethodName := ⟨"HangGraph", "cover", "(LHangGraph$Formula;LHangGraph$Formula;)V"⟩
abbrev cH_cover : ByteArray := prog_1_method_16_code
def wsH_cover : List Cond := .code yH_cover cH_cover 5 none :: lw_g
abbrev yL_out : MethodName := ⟨"HangGraphLaw", "out", "(LHangGraph;II[J)I"⟩
abbrev cL_out : ByteArray := method_4_code
abbrev yH_out : MethodName := ⟨"HangGraph", "out", "(II)I"⟩
abbrev cH_out : ByteArray := prog_1_method_3_code
def wsH_out : List Cond := .code yH_out cH_out 4 (some .int) :: lw_g
abbrev yH_formulaNamed : MethodName := ⟨"HangGraph", "formulaNamed", "(II)LHangGraph$Formula;"⟩
abbrev cH_formulaNamed : ByteArray := prog_1_method_15_code
def wsH_formulaNamed : List Cond := .code yH_formulaNamed cH_formulaNamed 5 (some (.object "HangGraph$Formula")) :: lw_g
abbrev yL_speak : MethodName := ⟨"HangGraphLaw", "speak", "(LHangGraph;IIIIII[J)I"⟩
abbrev cL_speak : ByteArray := method_5_code
abbrev yH_speak : MethodName := ⟨"HangGraph", "speak", "(IIIIII)I"⟩
abbrev cH_speak : ByteArray := prog_1_method_4_code
def wsH_speak : List Cond := .code yH_speak cH_speak 8 (some .int) :: lw_g
abbrev yH_requireSpan : MethodName := ⟨"HangGraph", "requireSpan", "(II)V"⟩
abbrev cH_requireSpan : ByteArray := prog_1_method_13_code
def wsH_requireSpan : List Cond := .code yH_requireSpan cH_requireSpan 2 none :: lw_g
abbrev yF_addRectangle : MethodName := ⟨"HangGraph$Formula", "addRectangle", "(IIII)V"⟩
abbrev cF_addRectangle : ByteArray := prog_2_method_2_code
def wsF_addRectangle : List Cond := .code yF_addRectangle cF_addRectangle 7 none :: lw_g
abbrev yL_touch : MethodName := ⟨"HangGraphLaw", "touch", "(LHangGraph;II)I"⟩
abbrev cL_touch : ByteArray := method_6_code
abbrev yH_touch : MethodName := ⟨"HangGraph", "touch", "(II)V"⟩
abbrev cH_touch : ByteArray := prog_1_method_5_code
def wsH_touch : List Cond := .code yH_touch cH_touch 3 none :: lw_g
abbrev yL_told : MethodName := ⟨"HangGraphLaw", "told", "(LHangGraph;III[J)I"⟩
abbrev cL_told : ByteArray := method_7_code
abbrev yH_told : MethodName := ⟨"HangGraph", "told", "(III)I"⟩
abbrev cH_told : ByteArray := prog_1_method_7_code
def wsH_told : List Cond := .code yH_told cH_told 5 (some .int) :: lw_g
abbrev yL_owner : MethodName := ⟨"HangGraphLaw", "owner", "(LHangGraph;II[J)I"⟩
abbrev cL_owner : ByteArray := method_8_code
abbrev yH_owner : MethodName := ⟨"HangGraph", "owner", "(II)I"⟩
abbrev cH_owner : ByteArray := prog_1_method_8_code
def wsH_owner : List Cond := .code yH_owner cH_owner 4 (some .int) :: lw_g
abbrev yM_init : MethodName := ⟨"HangGraphModel", "<init>", "()V"⟩
abbrev cM_init : ByteArray := prog_5_method_1_code
def wsM_init : List Cond := .code yM_init cM_init 1 none :: lw_g
abbrev yM_thrown : MethodName := ⟨"HangGraphModel", "thrown", "()I"⟩
abbrev cM_thrown : ByteArray := prog_5_method_2_code
def wsM_thrown : List Cond := .code yM_thrown cM_thrown 1 (some .int) :: lw_g
abbrev yM_put : MethodName := ⟨"HangGraphModel", "put", "(IIII)I"⟩
abbrev cM_put : ByteArray := prog_5_method_8_code
def wsM_put : List Cond := .code yM_put cM_put 7 (some .int) :: lw_g
abbrev yM_out4 : MethodName := ⟨"HangGraphModel", "out", "(IIII)Z"⟩
abbrev cM_out4 : ByteArray := prog_5_method_4_code
def wsM_out4 : List Cond := .code yM_out4 cM_out4 5 (some .boolean) :: lw_g
abbrev yM_fail : MethodName := ⟨"HangGraphModel", "fail", "(I)I"⟩
abbrev cM_fail : ByteArray := prog_5_method_3_code
def wsM_fail : List Cond := .code yM_fail cM_fail 2 (some .int) :: lw_g
abbrev yM_owner1 : MethodName := ⟨"HangGraphModel", "owner", "(I)I"⟩
abbrev cM_owner1 : ByteArray := prog_5_method_5_code
def wsM_owner1 : List Cond := .code yM_owner1 cM_owner1 5 (some .int) :: lw_g
abbrev yM_forget : MethodName := ⟨"HangGraphModel", "forget", "(I)V"⟩
abbrev cM_forget : ByteArray := prog_5_method_7_code
def wsM_forget : List Cond := .code yM_forget cM_forget 2 none :: lw_g
abbrev yM_count : MethodName := ⟨"HangGraphModel", "count", "()I"⟩
abbrev cM_count : ByteArray := prog_5_method_6_code
def wsM_count : List Cond := .code yM_count cM_count 3 (some .int) :: lw_g
abbrev yM_out2 : MethodName := ⟨"HangGraphModel", "out", "(II)I"⟩
abbrev cM_out2 : ByteArray := prog_5_method_9_code
def wsM_out2 : List Cond := .code yM_out2 cM_out2 3 (some .int) :: lw_g
abbrev yM_speak : MethodName := ⟨"HangGraphModel", "speak", "(IIIIII)I"⟩
abbrev cM_speak : ByteArray := prog_5_method_10_code
def wsM_speak : List Cond := .code yM_speak cM_speak 8 (some .int) :: lw_g
abbrev yM_touch : MethodName := ⟨"HangGraphModel", "touch", "(II)V"⟩
abbrev cM_touch : ByteArray := prog_5_method_11_code
def wsM_touch : List Cond := .code yM_touch cM_touch 3 none :: lw_g
abbrev yM_spread : MethodName := ⟨"HangGraphModel", "spread", "()I"⟩
abbrev cM_spread : ByteArray := prog_5_method_15_code
def wsM_spread : List Cond := .code yM_spread cM_spread 6 (some .int) :: lw_g
abbrev yM_survey : MethodName := ⟨"HangGraphModel", "survey", "()V"⟩
abbrev cM_survey : ByteArray := prog_5_method_13_code
def wsM_survey : List Cond := .code yM_survey cM_survey 4 none :: lw_g
abbrev yM_speaks : MethodName := ⟨"HangGraphModel", "speaks", "(II)Z"⟩
abbrev cM_speaks : ByteArray := prog_5_method_12_code
def wsM_speaks : List Cond := .code yM_speaks cM_speaks 5 (some .boolean) :: lw_g
abbrev yM_comesBack : MethodName := ⟨"HangGraphModel", "comesBack", "(I)Z"⟩
abbrev cM_comesBack : ByteArray := prog_5_method_14_code
def wsM_comesBack : List Cond := .code yM_comesBack cM_comesBack 5 (some .boolean) :: lw_g
abbrev yM_told : MethodName := ⟨"HangGraphModel", "told", "(III)I"⟩
abbrev cM_told : ByteArray := prog_5_method_16_code
def wsM_told : List Cond := .code yM_told cM_told 5 (some .int) :: lw_g
abbrev yM_owner2 : MethodName := ⟨"HangGraphModel", "owner", "(II)I"⟩
abbrev cM_owner2 : ByteArray := prog_5_method_17_code
def wsM_owner2 : List Cond := .code yM_owner2 cM_owner2 3 (some .int) :: lw_g
theorem we_S_addHit : (.selects "HangGraph$Sweep" yS_addHit yS_addHit : Cond) ∈ lw_g := lg_mem (i := 0) (by decide +kernel) (by decide +kernel)
theorem we_S_hitAllThatHangOn : (.selects "HangGraph$Sweep" yS_hitAllThatHangOn yS_hitAllThatHangOn : Cond) ∈ lw_g := lg_mem (i := 1) (by decide +kernel) (by decide +kernel)
theorem we_S_walkFrom : (.selects "HangGraph$Sweep" yS_walkFrom yS_walkFrom : Cond) ∈ lw_g := lg_mem (i := 2) (by decide +kernel) (by decide +kernel)
theorem we_S_enter : (.selects "HangGraph$Sweep" yS_enter yS_enter : Cond) ∈ lw_g := lg_mem (i := 3) (by decide +kernel) (by decide +kernel)
theorem we_S_nextBelow : (.selects "HangGraph$Sweep" yS_nextBelow yS_nextBelow : Cond) ∈ lw_g := lg_mem (i := 4) (by decide +kernel) (by decide +kernel)
theorem we_S_leave : (.selects "HangGraph$Sweep" yS_leave yS_leave : Cond) ∈ lw_g := lg_mem (i := 5) (by decide +kernel) (by decide +kernel)
theorem we_S_closeGroup : (.selects "HangGraph$Sweep" yS_closeGroup yS_closeGroup : Cond) ∈ lw_g := lg_mem (i := 6) (by decide +kernel) (by decide +kernel)
theorem we_S_greatestRankBelow : (.selects "HangGraph$Sweep" yS_greatestRankBelow yS_greatestRankBelow : Cond) ∈ lw_g := lg_mem (i := 7) (by decide +kernel) (by decide +kernel)
theorem we_java_lang_Throwable_fillInStackTrace : (.selects "java/lang/Throwable" ⟨"java/lang/Throwable", "fillInStackTrace", "(I)Ljava/lang/Throwable;"⟩ ⟨"java/lang/Throwable", "fillInStackTrace", "(I)Ljava/lang/Throwable;"⟩ : Cond) ∈ lw_g := lg_mem (i := 8) (by decide +kernel) (by decide +kernel)
theorem we_H_requireFree : (.selects "HangGraph" yH_requireFree yH_requireFree : Cond) ∈ lw_g := lg_mem (i := 9) (by decide +kernel) (by decide +kernel)
theorem we_H_cover : (.selects "HangGraph" yH_cover yH_cover : Cond) ∈ lw_g := lg_mem (i := 10) (by decide +kernel) (by decide +kernel)
theorem we_H_formulaNamed : (.selects "HangGraph" yH_formulaNamed yH_formulaNamed : Cond) ∈ lw_g := lg_mem (i := 11) (by decide +kernel) (by decide +kernel)
theorem we_M_out4 : (.selects "HangGraphModel" yM_out4 yM_out4 : Cond) ∈ lw_g := lg_mem (i := 12) (by decide +kernel) (by decide +kernel)
theorem we_M_fail : (.selects "HangGraphModel" yM_fail yM_fail : Cond) ∈ lw_g := lg_mem (i := 13) (by decide +kernel) (by decide +kernel)
theorem we_M_owner1 : (.selects "HangGraphModel" yM_owner1 yM_owner1 : Cond) ∈ lw_g := lg_mem (i := 14) (by decide +kernel) (by decide +kernel)
theorem we_M_forget : (.selects "HangGraphModel" yM_forget yM_forget : Cond) ∈ lw_g := lg_mem (i := 15) (by decide +kernel) (by decide +kernel)
theorem we_M_count : (.selects "HangGraphModel" yM_count yM_count : Cond) ∈ lw_g := lg_mem (i := 16) (by decide +kernel) (by decide +kernel)
theorem we_M_survey : (.selects "HangGraphModel" yM_survey yM_survey : Cond) ∈ lw_g := lg_mem (i := 17) (by decide +kernel) (by decide +kernel)
theorem we_M_speaks : (.selects "HangGraphModel" yM_speaks yM_speaks : Cond) ∈ lw_g := lg_mem (i := 18) (by decide +kernel) (by decide +kernel)
theorem we_M_comesBack : (.selects "HangGraphModel" yM_comesBack yM_comesBack : Cond) ∈ lw_g := lg_mem (i := 19) (by decide +kernel) (by decide +kernel)
theorem wn_L : (.initialized "HangGraphLaw" : Cond) ∈ lw_g := lg_mem (i := 20) (by decide +kernel) (by decide +kernel)
theorem wn_H : (.initialized "HangGraph" : Cond) ∈ lw_g := lg_mem (i := 21) (by decide +kernel) (by decide +kernel)
theorem wn_S : (.initialized "HangGraph$Sweep" : Cond) ∈ lw_g := lg_mem (i := 22) (by decide +kernel) (by decide +kernel)
theorem wn_M : (.initialized "HangGraphModel" : Cond) ∈ lw_g := lg_mem (i := 23) (by decide +kernel) (by decide +kernel)
theorem wn_java_lang_Throwable : (.initialized "java/lang/Throwable" : Cond) ∈ lw_g := lg_mem (i := 24) (by decide +kernel) (by decide +kernel)
theorem wn_java_lang_Exception : (.initialized "java/lang/Exception" : Cond) ∈ lw_g := lg_mem (i := 25) (by decide +kernel) (by decide +kernel)
theorem wn_java_lang_RuntimeException : (.initialized "java/lang/RuntimeException" : Cond) ∈ lw_g := lg_mem (i := 26) (by decide +kernel) (by decide +kernel)
theorem wn_java_lang_IllegalArgumentException : (.initialized "java/lang/IllegalArgumentException" : Cond) ∈ lw_g := lg_mem (i := 27) (by decide +kernel) (by decide +kernel)
theorem wn_java_lang_IllegalStateException : (.initialized "java/lang/IllegalStateException" : Cond) ∈ lw_g := lg_mem (i := 28) (by decide +kernel) (by decide +kernel)
theorem wn_F : (.initialized "HangGraph$Formula" : Cond) ∈ lw_g := lg_mem (i := 29) (by decide +kernel) (by decide +kernel)
theorem wn_java_util_NoSuchElementException : (.initialized "java/util/NoSuchElementException" : Cond) ∈ lw_g := lg_mem (i := 30) (by decide +kernel) (by decide +kernel)
theorem wn_java_lang_IndexOutOfBoundsException : (.initialized "java/lang/IndexOutOfBoundsException" : Cond) ∈ lw_g := lg_mem (i := 31) (by decide +kernel) (by decide +kernel)
theorem wn_java_lang_Math : (.initialized "java/lang/Math" : Cond) ∈ lw_g := lg_mem (i := 32) (by decide +kernel) (by decide +kernel)
theorem wn_A : (.initialized "java/util/Arrays" : Cond) ∈ lw_g := lg_mem (i := 33) (by decide +kernel) (by decide +kernel)
theorem wk_L_8 : (.classLink "HangGraphLaw" 8 "HangGraph" : Cond) ∈ lw_g := lg_mem (i := 34) (by decide +kernel) (by decide +kernel)
theorem wz_H : (.instantiable "HangGraph" 4 : Cond) ∈ lw_g := lg_mem (i := 35) (by decide +kernel) (by decide +kernel)
theorem wm_L_40 : (.methodLink "HangGraphLaw" 40 yH_init : Cond) ∈ lw_g := lg_mem (i := 36) (by decide +kernel) (by decide +kernel)
theorem wi_H_init : (.instanceMethod yH_init : Cond) ∈ lw_g := lg_mem (i := 37) (by decide +kernel) (by decide +kernel)
theorem wc_H_init : (.code yH_init cH_init 1 none : Cond) ∈ lw_g := lg_mem (i := 38) (by decide +kernel) (by decide +kernel)
theorem wm_H_3 : (.methodLink "HangGraph" 3 ⟨"java/lang/Object", "<init>", "()V"⟩ : Cond) ∈ lw_g := lg_mem (i := 39) (by decide +kernel) (by decide +kernel)
theorem wi_java_lang_Object_init_0 : (.instanceMethod ⟨"java/lang/Object", "<init>", "()V"⟩ : Cond) ∈ lw_g := lg_mem (i := 40) (by decide +kernel) (by decide +kernel)
theorem wc_java_lang_Object_init_0 : ((Jvm.Cond.code ({ cls := "java/lang/Object", name := "<init>", desc := "()V" } : Jvm.MethodName) object_method_1_code (1 : Nat) (Option.none : Option Jvm.ClassFile.FieldType)) : Cond) ∈ lw_g := lg_mem (i := 41) (by decide +kernel) (by decide +kernel)
theorem wk_H_9 : (.classLink "HangGraph" 9 "HangGraph$Formula" : Cond) ∈ lw_g := lg_mem (i := 42) (by decide +kernel) (by decide +kernel)
theorem wq_object_HangGraph_Formula : ((Jvm.Cond.arrayOver (Jvm.ClassFile.FieldType.object "HangGraph$Formula")) : Cond) ∈ lw_tbl := List.mem_of_getElem? (i := 43) (by decide +kernel)
theorem wk_H_19 : (.classLink "HangGraph" 19 "HangGraph$Sweep" : Cond) ∈ lw_g := lg_mem (i := 44) (by decide +kernel) (by decide +kernel)
theorem wz_S : (.instantiable "HangGraph$Sweep" 9 : Cond) ∈ lw_g := lg_mem (i := 45) (by decide +kernel) (by decide +kernel)
theorem wm_H_21 : (.methodLink "HangGraph" 21 yS_init : Cond) ∈ lw_g := lg_mem (i := 46) (by decide +kernel) (by decide +kernel)
theorem wi_S_init : (.instanceMethod yS_init : Cond) ∈ lw_g := lg_mem (i := 47) (by decide +kernel) (by decide +kernel)
theorem wc_S_init : (.code yS_init cS_init 1 none : Cond) ∈ lw_g := lg_mem (i := 48) (by decide +kernel) (by decide +kernel)
theorem wm_S_3 : (.methodLink "HangGraph$Sweep" 3 ⟨"java/lang/Object", "<init>", "()V"⟩ : Cond) ∈ lw_g := lg_mem (i := 49) (by decide +kernel) (by decide +kernel)
theorem wk_S_9 : (.classLink "HangGraph$Sweep" 9 "HangGraph$Formula" : Cond) ∈ lw_g := lg_mem (i := 50) (by decide +kernel) (by decide +kernel)
theorem wf_S_11 : (.fieldLink "HangGraph$Sweep" 11 "HangGraph$Sweep" "live" "[LHangGraph$Formula;" : Cond) ∈ lw_g := lg_mem (i := 51) (by decide +kernel) (by decide +kernel)
theorem wf_S_26 : (.fieldLink "HangGraph$Sweep" 26 "HangGraph$Sweep" "liveCount" "I" : Cond) ∈ lw_g := lg_mem (i := 52) (by decide +kernel) (by decide +kernel)
theorem wf_S_17 : (.fieldLink "HangGraph$Sweep" 17 "HangGraph$Sweep" "hits" "[LHangGraph$Formula;" : Cond) ∈ lw_g := lg_mem (i := 53) (by decide +kernel) (by decide +kernel)
theorem wf_S_30 : (.fieldLink "HangGraph$Sweep" 30 "HangGraph$Sweep" "hitCount" "I" : Cond) ∈ lw_g := lg_mem (i := 54) (by decide +kernel) (by decide +kernel)
theorem wf_H_88 : (.fieldLink "HangGraph" 88 "HangGraph$Sweep" "hitCount" "I" : Cond) ∈ lw_g := lg_mem (i := 55) (by decide +kernel) (by decide +kernel)
theorem wf_S_20 : (.fieldLink "HangGraph$Sweep" 20 "HangGraph$Sweep" "path" "[LHangGraph$Formula;" : Cond) ∈ lw_g := lg_mem (i := 56) (by decide +kernel) (by decide +kernel)
theorem wf_S_33 : (.fieldLink "HangGraph$Sweep" 33 "HangGraph$Sweep" "pathLength" "I" : Cond) ∈ lw_g := lg_mem (i := 57) (by decide +kernel) (by decide +kernel)
theorem wf_S_23 : (.fieldLink "HangGraph$Sweep" 23 "HangGraph$Sweep" "open" "[LHangGraph$Formula;" : Cond) ∈ lw_g := lg_mem (i := 58) (by decide +kernel) (by decide +kernel)
theorem wf_S_36 : (.fieldLink "HangGraph$Sweep" 36 "HangGraph$Sweep" "openCount" "I" : Cond) ∈ lw_g := lg_mem (i := 59) (by decide +kernel) (by decide +kernel)
theorem wf_S_39 : (.fieldLink "HangGraph$Sweep" 39 "HangGraph$Sweep" "lastNumber" "I" : Cond) ∈ lw_g := lg_mem (i := 60) (by decide +kernel) (by decide +kernel)
theorem wa_int : ((Jvm.Cond.arrayClass Jvm.ClassFile.FieldType.int) : Cond) ∈ lw_g := lg_mem (i := 80) (by decide +kernel) (by decide +kernel)
theorem wf_H_11 : (.fieldLink "HangGraph" 11 "HangGraph" "over" "[LHangGraph$Formula;" : Cond) ∈ lw_g := lg_mem (i := 81) (by decide +kernel) (by decide +kernel)
theorem wf_H_15 : (.fieldLink "HangGraph" 15 "HangGraph" "dirtyRows" "[I" : Cond) ∈ lw_g := lg_mem (i := 82) (by decide +kernel) (by decide +kernel)
theorem wf_H_22 : (.fieldLink "HangGraph" 22 "HangGraph" "sweep" "LHangGraph$Sweep;" : Cond) ∈ lw_g := lg_mem (i := 83) (by decide +kernel) (by decide +kernel)
theorem wf_H_26 : (.fieldLink "HangGraph" 26 "HangGraph" "formulaCount" "I" : Cond) ∈ lw_g := lg_mem (i := 84) (by decide +kernel) (by decide +kernel)
theorem wm_L_66 : (.methodLink "HangGraphLaw" 66 yH_spread : Cond) ∈ lw_g := lg_mem (i := 94) (by decide +kernel) (by decide +kernel)
theorem wi_H_spread : (.instanceMethod yH_spread : Cond) ∈ lw_g := lg_mem (i := 95) (by decide +kernel) (by decide +kernel)
theorem we_H_spread : (.selects "HangGraph" yH_spread yH_spread : Cond) ∈ lw_g := lg_mem (i := 96) (by decide +kernel) (by decide +kernel)
theorem wc_H_spread : (.code yH_spread cH_spread 1 (some .int) : Cond) ∈ lw_g := lg_mem (i := 97) (by decide +kernel) (by decide +kernel)
theorem wm_H_71 : (.methodLink "HangGraph" 71 yS_begin : Cond) ∈ lw_g := lg_mem (i := 98) (by decide +kernel) (by decide +kernel)
theorem wi_S_begin : (.instanceMethod yS_begin : Cond) ∈ lw_g := lg_mem (i := 99) (by decide +kernel) (by decide +kernel)
theorem we_S_begin : (.selects "HangGraph$Sweep" yS_begin yS_begin : Cond) ∈ lw_g := lg_mem (i := 100) (by decide +kernel) (by decide +kernel)
theorem wc_S_begin : (.code yS_begin cS_begin 4 none : Cond) ∈ lw_g := lg_mem (i := 101) (by decide +kernel) (by decide +kernel)
theorem wm_S_45 : (.methodLink "HangGraph$Sweep" 45 yF_forget : Cond) ∈ lw_g := lg_mem (i := 102) (by decide +kernel) (by decide +kernel)
theorem wi_F_forget : (.instanceMethod yF_forget : Cond) ∈ lw_g := lg_mem (i := 103) (by decide +kernel) (by decide +kernel)
theorem we_F_forget : (.selects "HangGraph$Formula" yF_forget yF_forget : Cond) ∈ lw_g := lg_mem (i := 104) (by decide +kernel) (by decide +kernel)
theorem wc_F_forget : (.code yF_forget cF_forget 1 none : Cond) ∈ lw_g := lg_mem (i := 105) (by decide +kernel) (by decide +kernel)
theorem wm_H_75 : (.methodLink "HangGraph" 75 yS_findHit : Cond) ∈ lw_g := lg_mem (i := 106) (by decide +kernel) (by decide +kernel)
theorem wi_S_findHit : (.instanceMethod yS_findHit : Cond) ∈ lw_g := lg_mem (i := 107) (by decide +kernel) (by decide +kernel)
theorem we_S_findHit : (.selects "HangGraph$Sweep" yS_findHit yS_findHit : Cond) ∈ lw_g := lg_mem (i := 108) (by decide +kernel) (by decide +kernel)
theorem wc_S_findHit : (.code yS_findHit cS_findHit 4 none : Cond) ∈ lw_g := lg_mem (i := 109) (by decide +kernel) (by decide +kernel)
theorem wm_S_48 : (.methodLink "HangGraph$Sweep" 48 yF_holdsOneOf : Cond) ∈ lw_g := lg_mem (i := 110) (by decide +kernel) (by decide +kernel)
theorem wi_F_holdsOneOf : (.instanceMethod yF_holdsOneOf : Cond) ∈ lw_g := lg_mem (i := 111) (by decide +kernel) (by decide +kernel)
theorem we_F_holdsOneOf : (.selects "HangGraph$Formula" yF_holdsOneOf yF_holdsOneOf : Cond) ∈ lw_g := lg_mem (i := 112) (by decide +kernel) (by decide +kernel)
theorem wc_F_holdsOneOf : (.code yF_holdsOneOf cF_holdsOneOf 3 (some .boolean) : Cond) ∈ lw_g := lg_mem (i := 113) (by decide +kernel) (by decide +kernel)
theorem wm_S_52 : (.methodLink "HangGraph$Sweep" 52 yF_hangsOnOneOf : Cond) ∈ lw_g := lg_mem (i := 114) (by decide +kernel) (by decide +kernel)
theorem wi_F_hangsOnOneOf : (.instanceMethod yF_hangsOnOneOf : Cond) ∈ lw_g := lg_mem (i := 115) (by decide +kernel) (by decide +kernel)
theorem we_F_hangsOnOneOf : (.selects "HangGraph$Formula" yF_hangsOnOneOf yF_hangsOnOneOf : Cond) ∈ lw_g := lg_mem (i := 116) (by decide +kernel) (by decide +kernel)
theorem wc_F_hangsOnOneOf : (.code yF_hangsOnOneOf cF_hangsOnOneOf 3 (some .boolean) : Cond) ∈ lw_g := lg_mem (i := 117) (by decide +kernel) (by decide +kernel)
theorem wm_S_55 : (.methodLink "HangGraph$Sweep" 55 yS_addHit : Cond) ∈ lw_g := lg_mem (i := 118) (by decide +kernel) (by decide +kernel)
theorem wi_S_addHit : (.instanceMethod yS_addHit : Cond) ∈ lw_g := lg_mem (i := 120) (by decide +kernel) (by decide +kernel)
theorem wc_S_addHit : (.code yS_addHit cS_addHit 2 none : Cond) ∈ lw_g := lg_mem (i := 121) (by decide +kernel) (by decide +kernel)
theorem wm_S_59 : (.methodLink "HangGraph$Sweep" 59 yS_hitAllThatHangOn : Cond) ∈ lw_g := lg_mem (i := 122) (by decide +kernel) (by decide +kernel)
theorem wi_S_hitAllThatHangOn : (.instanceMethod yS_hitAllThatHangOn : Cond) ∈ lw_g := lg_mem (i := 124) (by decide +kernel) (by decide +kernel)
theorem wc_S_hitAllThatHangOn : (.code yS_hitAllThatHangOn cS_hitAllThatHangOn 4 none : Cond) ∈ lw_g := lg_mem (i := 125) (by decide +kernel) (by decide +kernel)
theorem wm_S_66 : (.methodLink "HangGraph$Sweep" 66 yF_hangsOn : Cond) ∈ lw_g := lg_mem (i := 126) (by decide +kernel) (by decide +kernel)
theorem wi_F_hangsOn : (.instanceMethod yF_hangsOn : Cond) ∈ lw_g := lg_mem (i := 127) (by decide +kernel) (by decide +kernel)
theorem we_F_hangsOn : (.selects "HangGraph$Formula" yF_hangsOn yF_hangsOn : Cond) ∈ lw_g := lg_mem (i := 128) (by decide +kernel) (by decide +kernel)
theorem wc_F_hangsOn : (.code yF_hangsOn cF_hangsOn 3 (some .boolean) : Cond) ∈ lw_g := lg_mem (i := 129) (by decide +kernel) (by decide +kernel)
theorem wm_H_79 : (.methodLink "HangGraph" 79 yS_rankHit : Cond) ∈ lw_g := lg_mem (i := 130) (by decide +kernel) (by decide +kernel)
theorem wi_S_rankHit : (.instanceMethod yS_rankHit : Cond) ∈ lw_g := lg_mem (i := 131) (by decide +kernel) (by decide +kernel)
theorem we_S_rankHit : (.selects "HangGraph$Sweep" yS_rankHit yS_rankHit : Cond) ∈ lw_g := lg_mem (i := 132) (by decide +kernel) (by decide +kernel)
theorem wc_S_rankHit : (.code yS_rankHit cS_rankHit 2 none : Cond) ∈ lw_g := lg_mem (i := 133) (by decide +kernel) (by decide +kernel)
theorem wm_S_73 : (.methodLink "HangGraph$Sweep" 73 yS_walkFrom : Cond) ∈ lw_g := lg_mem (i := 134) (by decide +kernel) (by decide +kernel)
theorem wi_S_walkFrom : (.instanceMethod yS_walkFrom : Cond) ∈ lw_g := lg_mem (i := 136) (by decide +kernel) (by decide +kernel)
theorem wc_S_walkFrom : (.code yS_walkFrom cS_walkFrom 5 none : Cond) ∈ lw_g := lg_mem (i := 137) (by decide +kernel) (by decide +kernel)
theorem wm_S_76 : (.methodLink "HangGraph$Sweep" 76 yS_enter : Cond) ∈ lw_g := lg_mem (i := 138) (by decide +kernel) (by decide +kernel)
theorem wi_S_enter : (.instanceMethod yS_enter : Cond) ∈ lw_g := lg_mem (i := 140) (by decide +kernel) (by decide +kernel)
theorem wc_S_enter : (.code yS_enter cS_enter 2 none : Cond) ∈ lw_g := lg_mem (i := 141) (by decide +kernel) (by decide +kernel)
theorem wm_S_79 : (.methodLink "HangGraph$Sweep" 79 yS_nextBelow : Cond) ∈ lw_g := lg_mem (i := 142) (by decide +kernel) (by decide +kernel)
theorem wi_S_nextBelow : (.instanceMethod yS_nextBelow : Cond) ∈ lw_g := lg_mem (i := 144) (by decide +kernel) (by decide +kernel)
theorem wc_S_nextBelow : (.code yS_nextBelow cS_nextBelow 4 (some (.object "HangGraph$Formula")) : Cond) ∈ lw_g := lg_mem (i := 145) (by decide +kernel) (by decide +kernel)
theorem wm_S_95 : (.methodLink "HangGraph$Sweep" 95 ⟨"java/lang/Math", "min", "(II)I"⟩ : Cond) ∈ lw_g := lg_mem (i := 146) (by decide +kernel) (by decide +kernel)
theorem wt_java_lang_Math_min : (.static ⟨"java/lang/Math", "min", "(II)I"⟩ : Cond) ∈ lw_g := lg_mem (i := 147) (by decide +kernel) (by decide +kernel)
theorem wc_java_lang_Math_min : ((Jvm.Cond.code ({ cls := "java/lang/Math", name := "min", desc := "(II)I" } : Jvm.MethodName) prog_10_method_69_code (2 : Nat) (Option.some Jvm.ClassFile.FieldType.int)) : Cond) ∈ lw_g := lg_mem (i := 148) (by decide +kernel) (by decide +kernel)
theorem wm_S_83 : (.methodLink "HangGraph$Sweep" 83 yS_leave : Cond) ∈ lw_g := lg_mem (i := 149) (by decide +kernel) (by decide +kernel)
theorem wi_S_leave : (.instanceMethod yS_leave : Cond) ∈ lw_g := lg_mem (i := 151) (by decide +kernel) (by decide +kernel)
theorem wc_S_leave : (.code yS_leave cS_leave 3 none : Cond) ∈ lw_g := lg_mem (i := 152) (by decide +kernel) (by decide +kernel)
theorem wm_S_101 : (.methodLink "HangGraph$Sweep" 101 yS_closeGroup : Cond) ∈ lw_g := lg_mem (i := 153) (by decide +kernel) (by decide +kernel)
theorem wi_S_closeGroup : (.instanceMethod yS_closeGroup : Cond) ∈ lw_g := lg_mem (i := 155) (by decide +kernel) (by decide +kernel)
theorem wc_S_closeGroup : (.code yS_closeGroup cS_closeGroup 3 none : Cond) ∈ lw_g := lg_mem (i := 156) (by decide +kernel) (by decide +kernel)
theorem wm_S_104 : (.methodLink "HangGraph$Sweep" 104 yS_greatestRankBelow : Cond) ∈ lw_g := lg_mem (i := 157) (by decide +kernel) (by decide +kernel)
theorem wi_S_greatestRankBelow : (.instanceMethod yS_greatestRankBelow : Cond) ∈ lw_g := lg_mem (i := 159) (by decide +kernel) (by decide +kernel)
theorem wc_S_greatestRankBelow : (.code yS_greatestRankBelow cS_greatestRankBelow 4 (some .int) : Cond) ∈ lw_g := lg_mem (i := 160) (by decide +kernel) (by decide +kernel)
theorem wm_S_114 : (.methodLink "HangGraph$Sweep" 114 ⟨"java/lang/Math", "max", "(II)I"⟩ : Cond) ∈ lw_g := lg_mem (i := 161) (by decide +kernel) (by decide +kernel)
theorem wt_java_lang_Math_max : (.static ⟨"java/lang/Math", "max", "(II)I"⟩ : Cond) ∈ lw_g := lg_mem (i := 162) (by decide +kernel) (by decide +kernel)
theorem wc_java_lang_Math_max : ((Jvm.Cond.code ({ cls := "java/lang/Math", name := "max", desc := "(II)I" } : Jvm.MethodName) prog_10_method_65_code (2 : Nat) (Option.some Jvm.ClassFile.FieldType.int)) : Cond) ∈ lw_g := lg_mem (i := 163) (by decide +kernel) (by decide +kernel)
theorem wm_H_82 : (.methodLink "HangGraph" 82 yA_fill : Cond) ∈ lw_g := lg_mem (i := 164) (by decide +kernel) (by decide +kernel)
theorem wt_A_fill : (.static yA_fill : Cond) ∈ lw_g := lg_mem (i := 165) (by decide +kernel) (by decide +kernel)
theorem wc_A_fill : (.code yA_fill cA_fill 4 none : Cond) ∈ lw_g := lg_mem (i := 166) (by decide +kernel) (by decide +kernel)
theorem wm_L_44 : (.methodLink "HangGraphLaw" 44 yL_put : Cond) ∈ lw_g := lg_mem (i := 167) (by decide +kernel) (by decide +kernel)
theorem wt_L_put : (.static yL_put : Cond) ∈ lw_g := lg_mem (i := 168) (by decide +kernel) (by decide +kernel)
theorem wk_L_13 : (.classLink "HangGraphLaw" 13 "java/lang/IllegalArgumentException" : Cond) ∈ lw_g := lg_mem (i := 170) (by decide +kernel) (by decide +kernel)
theorem wk_L_15 : (.classLink "HangGraphLaw" 15 "java/lang/IllegalStateException" : Cond) ∈ lw_g := lg_mem (i := 171) (by decide +kernel) (by decide +kernel)
theorem wm_L_7 : (.methodLink "HangGraphLaw" 7 yH_put : Cond) ∈ lw_g := lg_mem (i := 172) (by decide +kernel) (by decide +kernel)
theorem wi_H_put : (.instanceMethod yH_put : Cond) ∈ lw_g := lg_mem (i := 173) (by decide +kernel) (by decide +kernel)
theorem we_H_put : (.selects "HangGraph" yH_put yH_put : Cond) ∈ lw_g := lg_mem (i := 174) (by decide +kernel) (by decide +kernel)
theorem wc_H_put : (.code yH_put cH_put 8 (some .int) : Cond) ∈ lw_g := lg_mem (i := 175) (by decide +kernel) (by decide +kernel)
theorem wm_H_30 : (.methodLink "HangGraph" 30 yH_requireCell : Cond) ∈ lw_g := lg_mem (i := 176) (by decide +kernel) (by decide +kernel)
theorem wt_H_requireCell : (.static yH_requireCell : Cond) ∈ lw_g := lg_mem (i := 177) (by decide +kernel) (by decide +kernel)
theorem wc_H_requireCell : (.code yH_requireCell cH_requireCell 2 none : Cond) ∈ lw_g := lg_mem (i := 178) (by decide +kernel) (by decide +kernel)
theorem wk_H_91 : (.classLink "HangGraph" 91 "java/lang/IllegalArgumentException" : Cond) ∈ lw_g := lg_mem (i := 179) (by decide +kernel) (by decide +kernel)
theorem wz_java_lang_IllegalArgumentException : (.instantiable "java/lang/IllegalArgumentException" 6 : Cond) ∈ lw_g := lg_mem (i := 180) (by decide +kernel) (by decide +kernel)
theorem wq_cast_java_lang_IllegalArgumentException : ((Jvm.Cond.castable "java/lang/IllegalArgumentException" "java/lang/IllegalArgumentException") : Cond) ∈ lw_tbl := List.mem_of_getElem? (i := 181) (by decide +kernel)
theorem wq_decl_java_lang_RuntimeException_init_0 : ((Jvm.Cond.declares ({ cls := "java/lang/RuntimeException", name := "<init>", desc := "()V" } : Jvm.MethodName)) : Cond) ∈ lw_tbl := List.mem_of_getElem? (i := 182) (by decide +kernel)
theorem wq_decl_java_lang_RuntimeException_init_s : ((Jvm.Cond.declares ({ cls := "java/lang/RuntimeException", name := "<init>", desc := "(Ljava/lang/String;)V" } : Jvm.MethodName)) : Cond) ∈ lw_tbl := List.mem_of_getElem? (i := 183) (by decide +kernel)
theorem wq_decl_java_lang_Exception_init_0 : ((Jvm.Cond.declares ({ cls := "java/lang/Exception", name := "<init>", desc := "()V" } : Jvm.MethodName)) : Cond) ∈ lw_tbl := List.mem_of_getElem? (i := 184) (by decide +kernel)
theorem wq_decl_java_lang_Exception_init_s : ((Jvm.Cond.declares ({ cls := "java/lang/Exception", name := "<init>", desc := "(Ljava/lang/String;)V" } : Jvm.MethodName)) : Cond) ∈ lw_tbl := List.mem_of_getElem? (i := 185) (by decide +kernel)
theorem wq_decl_java_lang_Throwable_init_0 : ((Jvm.Cond.declares ({ cls := "java/lang/Throwable", name := "<init>", desc := "()V" } : Jvm.MethodName)) : Cond) ∈ lw_tbl := List.mem_of_getElem? (i := 186) (by decide +kernel)
theorem wq_decl_java_lang_Throwable_init_s : ((Jvm.Cond.declares ({ cls := "java/lang/Throwable", name := "<init>", desc := "(Ljava/lang/String;)V" } : Jvm.MethodName)) : Cond) ∈ lw_tbl := List.mem_of_getElem? (i := 187) (by decide +kernel)
theorem wi_java_lang_Throwable_init_0 : (.instanceMethod ⟨"java/lang/Throwable", "<init>", "()V"⟩ : Cond) ∈ lw_g := lg_mem (i := 202) (by decide +kernel) (by decide +kernel)
theorem wi_java_lang_Throwable_fillInStackTrace : (.instanceMethod ⟨"java/lang/Throwable", "fillInStackTrace", "()Ljava/lang/Throwable;"⟩ : Cond) ∈ lw_g := lg_mem (i := 210) (by decide +kernel) (by decide +kernel)
theorem wz_java_lang_Throwable : (.instantiable "java/lang/Throwable" 6 : Cond) ∈ lw_g := lg_mem (i := 219) (by decide +kernel) (by decide +kernel)
theorem wq_str_112 : ((Jvm.Cond.stringRef "HangGraph" (112 : Nat) "no such cell") : Cond) ∈ lw_tbl := List.mem_of_getElem? (i := 221) (by decide +kernel)
theorem wm_H_95 : (.methodLink "HangGraph" 95 ⟨"java/lang/IllegalArgumentException", "<init>", "(Ljava/lang/String;)V"⟩ : Cond) ∈ lw_g := lg_mem (i := 222) (by decide +kernel) (by decide +kernel)
theorem wi_java_lang_IllegalArgumentException_init_s : (.instanceMethod ⟨"java/lang/IllegalArgumentException", "<init>", "(Ljava/lang/String;)V"⟩ : Cond) ∈ lw_g := lg_mem (i := 223) (by decide +kernel) (by decide +kernel)
theorem wi_java_lang_RuntimeException_init_s : (.instanceMethod ⟨"java/lang/RuntimeException", "<init>", "(Ljava/lang/String;)V"⟩ : Cond) ∈ lw_g := lg_mem (i := 226) (by decide +kernel) (by decide +kernel)
theorem wi_java_lang_Exception_init_s : (.instanceMethod ⟨"java/lang/Exception", "<init>", "(Ljava/lang/String;)V"⟩ : Cond) ∈ lw_g := lg_mem (i := 229) (by decide +kernel) (by decide +kernel)
theorem wi_java_lang_Throwable_init_s : (.instanceMethod ⟨"java/lang/Throwable", "<init>", "(Ljava/lang/String;)V"⟩ : Cond) ∈ lw_g := lg_mem (i := 232) (by decide +kernel) (by decide +kernel)
theorem wa_byte : ((Jvm.Cond.arrayClass Jvm.ClassFile.FieldType.byte) : Cond) ∈ lw_g := lg_mem (i := 247) (by decide +kernel) (by decide +kernel)
theorem wm_H_34 : (.methodLink "HangGraph" 34 yH_requireFits : Cond) ∈ lw_g := lg_mem (i := 248) (by decide +kernel) (by decide +kernel)
theorem wt_H_requireFits : (.static yH_requireFits : Cond) ∈ lw_g := lg_mem (i := 249) (by decide +kernel) (by decide +kernel)
theorem wc_H_requireFits : (.code yH_requireFits cH_requireFits 2 none : Cond) ∈ lw_g := lg_mem (i := 250) (by decide +kernel) (by decide +kernel)
theorem wq_str_114 : ((Jvm.Cond.stringRef "HangGraph" (114 : Nat) "the block is empty or beyond the grid") : Cond) ∈ lw_tbl := List.mem_of_getElem? (i := 251) (by decide +kernel)
theorem wm_H_37 : (.methodLink "HangGraph" 37 yH_requireFree : Cond) ∈ lw_g := lg_mem (i := 252) (by decide +kernel) (by decide +kernel)
theorem wi_H_requireFree : (.instanceMethod yH_requireFree : Cond) ∈ lw_g := lg_mem (i := 254) (by decide +kernel) (by decide +kernel)
theorem wc_H_requireFree : (.code yH_requireFree cH_requireFree 7 none : Cond) ∈ lw_g := lg_mem (i := 255) (by decide +kernel) (by decide +kernel)
theorem wm_H_106 : (.methodLink "HangGraph" 106 yH_cellAt : Cond) ∈ lw_g := lg_mem (i := 256) (by decide +kernel) (by decide +kernel)
theorem wt_H_cellAt : (.static yH_cellAt : Cond) ∈ lw_g := lg_mem (i := 257) (by decide +kernel) (by decide +kernel)
theorem wc_H_cellAt : (.code yH_cellAt cH_cellAt 2 (some .int) : Cond) ∈ lw_g := lg_mem (i := 258) (by decide +kernel) (by decide +kernel)
theorem wk_H_118 : (.classLink "HangGraph" 118 "java/lang/IllegalStateException" : Cond) ∈ lw_g := lg_mem (i := 259) (by decide +kernel) (by decide +kernel)
theorem wz_java_lang_IllegalStateException : (.instantiable "java/lang/IllegalStateException" 6 : Cond) ∈ lw_g := lg_mem (i := 260) (by decide +kernel) (by decide +kernel)
theorem wq_cast_java_lang_IllegalStateException : ((Jvm.Cond.castable "java/lang/IllegalStateException" "java/lang/IllegalStateException") : Cond) ∈ lw_tbl := List.mem_of_getElem? (i := 261) (by decide +kernel)
theorem wq_str_120 : ((Jvm.Cond.stringRef "HangGraph" (120 : Nat) "blocks would overlap") : Cond) ∈ lw_tbl := List.mem_of_getElem? (i := 268) (by decide +kernel)
theorem wm_H_122 : (.methodLink "HangGraph" 122 ⟨"java/lang/IllegalStateException", "<init>", "(Ljava/lang/String;)V"⟩ : Cond) ∈ lw_g := lg_mem (i := 269) (by decide +kernel) (by decide +kernel)
theorem wi_java_lang_IllegalStateException_init_s : (.instanceMethod ⟨"java/lang/IllegalStateException", "<init>", "(Ljava/lang/String;)V"⟩ : Cond) ∈ lw_g := lg_mem (i := 270) (by decide +kernel) (by decide +kernel)
theorem wz_F : (.instantiable "HangGraph$Formula" 15 : Cond) ∈ lw_g := lg_mem (i := 275) (by decide +kernel) (by decide +kernel)
theorem wm_H_41 : (.methodLink "HangGraph" 41 yF_init : Cond) ∈ lw_g := lg_mem (i := 276) (by decide +kernel) (by decide +kernel)
theorem wi_F_init : (.instanceMethod yF_init : Cond) ∈ lw_g := lg_mem (i := 277) (by decide +kernel) (by decide +kernel)
theorem wc_F_init : (.code yF_init cF_init 5 none : Cond) ∈ lw_g := lg_mem (i := 278) (by decide +kernel) (by decide +kernel)
theorem wm_F_3 : (.methodLink "HangGraph$Formula" 3 ⟨"java/lang/Object", "<init>", "()V"⟩ : Cond) ∈ lw_g := lg_mem (i := 279) (by decide +kernel) (by decide +kernel)
theorem wq_F_9 : (.methodLinkNest "HangGraph$Formula" 9 yH_cellAt "HangGraph" : Cond) ∈ lw_tbl := List.mem_of_getElem? (i := 280) (by decide +kernel)
theorem wq_F_31 : (.methodLinkNest "HangGraph$Formula" 31 yH_columnBits "HangGraph" : Cond) ∈ lw_tbl := List.mem_of_getElem? (i := 281) (by decide +kernel)
theorem wt_H_columnBits : (.static yH_columnBits : Cond) ∈ lw_g := lg_mem (i := 282) (by decide +kernel) (by decide +kernel)
theorem wc_H_columnBits : (.code yH_columnBits cH_columnBits 2 (some .int) : Cond) ∈ lw_g := lg_mem (i := 283) (by decide +kernel) (by decide +kernel)
theorem wf_F_13 : (.fieldLink "HangGraph$Formula" 13 "HangGraph$Formula" "first" "I" : Cond) ∈ lw_g := lg_mem (i := 284) (by decide +kernel) (by decide +kernel)
theorem wf_S_42 : (.fieldLink "HangGraph$Sweep" 42 "HangGraph$Formula" "first" "I" : Cond) ∈ lw_g := lg_mem (i := 285) (by decide +kernel) (by decide +kernel)
theorem wf_H_109 : (.fieldLink "HangGraph" 109 "HangGraph$Formula" "first" "I" : Cond) ∈ lw_g := lg_mem (i := 286) (by decide +kernel) (by decide +kernel)
theorem wf_F_19 : (.fieldLink "HangGraph$Formula" 19 "HangGraph$Formula" "top" "I" : Cond) ∈ lw_g := lg_mem (i := 287) (by decide +kernel) (by decide +kernel)
theorem wf_H_128 : (.fieldLink "HangGraph" 128 "HangGraph$Formula" "top" "I" : Cond) ∈ lw_g := lg_mem (i := 288) (by decide +kernel) (by decide +kernel)
theorem wf_F_22 : (.fieldLink "HangGraph$Formula" 22 "HangGraph$Formula" "left" "I" : Cond) ∈ lw_g := lg_mem (i := 289) (by decide +kernel) (by decide +kernel)
theorem wf_H_134 : (.fieldLink "HangGraph" 134 "HangGraph$Formula" "left" "I" : Cond) ∈ lw_g := lg_mem (i := 290) (by decide +kernel) (by decide +kernel)
theorem wf_F_25 : (.fieldLink "HangGraph$Formula" 25 "HangGraph$Formula" "bottom" "I" : Cond) ∈ lw_g := lg_mem (i := 291) (by decide +kernel) (by decide +kernel)
theorem wf_H_131 : (.fieldLink "HangGraph" 131 "HangGraph$Formula" "bottom" "I" : Cond) ∈ lw_g := lg_mem (i := 292) (by decide +kernel) (by decide +kernel)
theorem wf_F_28 : (.fieldLink "HangGraph$Formula" 28 "HangGraph$Formula" "right" "I" : Cond) ∈ lw_g := lg_mem (i := 293) (by decide +kernel) (by decide +kernel)
theorem wf_H_137 : (.fieldLink "HangGraph" 137 "HangGraph$Formula" "right" "I" : Cond) ∈ lw_g := lg_mem (i := 294) (by decide +kernel) (by decide +kernel)
theorem wf_F_34 : (.fieldLink "HangGraph$Formula" 34 "HangGraph$Formula" "blockColumns" "I" : Cond) ∈ lw_g := lg_mem (i := 295) (by decide +kernel) (by decide +kernel)
theorem wf_F_37 : (.fieldLink "HangGraph$Formula" 37 "HangGraph$Formula" "spokenRows" "[I" : Cond) ∈ lw_g := lg_mem (i := 296) (by decide +kernel) (by decide +kernel)
theorem wf_F_41 : (.fieldLink "HangGraph$Formula" 41 "HangGraph$Formula" "rectangleCount" "I" : Cond) ∈ lw_g := lg_mem (i := 297) (by decide +kernel) (by decide +kernel)
theorem wf_H_54 : (.fieldLink "HangGraph" 54 "HangGraph$Formula" "rectangleCount" "I" : Cond) ∈ lw_g := lg_mem (i := 298) (by decide +kernel) (by decide +kernel)
theorem wf_S_62 : (.fieldLink "HangGraph$Sweep" 62 "HangGraph$Formula" "hit" "Z" : Cond) ∈ lw_g := lg_mem (i := 299) (by decide +kernel) (by decide +kernel)
theorem wf_F_44 : (.fieldLink "HangGraph$Formula" 44 "HangGraph$Formula" "hit" "Z" : Cond) ∈ lw_g := lg_mem (i := 300) (by decide +kernel) (by decide +kernel)
theorem wf_H_96 : (.fieldLink "HangGraph" 96 "HangGraph$Formula" "hit" "Z" : Cond) ∈ lw_g := lg_mem (i := 301) (by decide +kernel) (by decide +kernel)
theorem wf_F_48 : (.fieldLink "HangGraph$Formula" 48 "HangGraph$Formula" "round" "Z" : Cond) ∈ lw_g := lg_mem (i := 302) (by decide +kernel) (by decide +kernel)
theorem wf_H_100 : (.fieldLink "HangGraph" 100 "HangGraph$Formula" "round" "Z" : Cond) ∈ lw_g := lg_mem (i := 303) (by decide +kernel) (by decide +kernel)
theorem wf_S_111 : (.fieldLink "HangGraph$Sweep" 111 "HangGraph$Formula" "round" "Z" : Cond) ∈ lw_g := lg_mem (i := 304) (by decide +kernel) (by decide +kernel)
theorem wf_F_51 : (.fieldLink "HangGraph$Formula" 51 "HangGraph$Formula" "rank" "I" : Cond) ∈ lw_g := lg_mem (i := 305) (by decide +kernel) (by decide +kernel)
theorem wf_H_103 : (.fieldLink "HangGraph" 103 "HangGraph$Formula" "rank" "I" : Cond) ∈ lw_g := lg_mem (i := 306) (by decide +kernel) (by decide +kernel)
theorem wf_S_108 : (.fieldLink "HangGraph$Sweep" 108 "HangGraph$Formula" "rank" "I" : Cond) ∈ lw_g := lg_mem (i := 307) (by decide +kernel) (by decide +kernel)
theorem wf_F_54 : (.fieldLink "HangGraph$Formula" 54 "HangGraph$Formula" "number" "I" : Cond) ∈ lw_g := lg_mem (i := 308) (by decide +kernel) (by decide +kernel)
theorem wf_S_86 : (.fieldLink "HangGraph$Sweep" 86 "HangGraph$Formula" "number" "I" : Cond) ∈ lw_g := lg_mem (i := 309) (by decide +kernel) (by decide +kernel)
theorem wf_F_57 : (.fieldLink "HangGraph$Formula" 57 "HangGraph$Formula" "lowest" "I" : Cond) ∈ lw_g := lg_mem (i := 310) (by decide +kernel) (by decide +kernel)
theorem wf_S_89 : (.fieldLink "HangGraph$Sweep" 89 "HangGraph$Formula" "lowest" "I" : Cond) ∈ lw_g := lg_mem (i := 311) (by decide +kernel) (by decide +kernel)
theorem wf_F_60 : (.fieldLink "HangGraph$Formula" 60 "HangGraph$Formula" "looked" "I" : Cond) ∈ lw_g := lg_mem (i := 312) (by decide +kernel) (by decide +kernel)
theorem wf_S_92 : (.fieldLink "HangGraph$Sweep" 92 "HangGraph$Formula" "looked" "I" : Cond) ∈ lw_g := lg_mem (i := 313) (by decide +kernel) (by decide +kernel)
theorem wf_S_70 : (.fieldLink "HangGraph$Sweep" 70 "HangGraph$Formula" "settled" "Z" : Cond) ∈ lw_g := lg_mem (i := 314) (by decide +kernel) (by decide +kernel)
theorem wf_F_63 : (.fieldLink "HangGraph$Formula" 63 "HangGraph$Formula" "settled" "Z" : Cond) ∈ lw_g := lg_mem (i := 315) (by decide +kernel) (by decide +kernel)
theorem wm_H_43 : (.methodLink "HangGraph" 43 yH_cover : Cond) ∈ lw_g := lg_mem (i := 347) (by decide +kernel) (by decide +kernel)
theorem wi_H_cover : (.instanceMethod yH_cover : Cond) ∈ lw_g := lg_mem (i := 349) (by decide +kernel) (by decide +kernel)
theorem wc_H_cover : (.code yH_cover cH_cover 5 none : Cond) ∈ lw_g := lg_mem (i := 350) (by decide +kernel) (by decide +kernel)
theorem wm_L_54 : (.methodLink "HangGraphLaw" 54 yL_out : Cond) ∈ lw_g := lg_mem (i := 351) (by decide +kernel) (by decide +kernel)
theorem wt_L_out : (.static yL_out : Cond) ∈ lw_g := lg_mem (i := 352) (by decide +kernel) (by decide +kernel)
theorem wk_L_21 : (.classLink "HangGraphLaw" 21 "java/util/NoSuchElementException" : Cond) ∈ lw_g := lg_mem (i := 354) (by decide +kernel) (by decide +kernel)
theorem wm_L_17 : (.methodLink "HangGraphLaw" 17 yH_out : Cond) ∈ lw_g := lg_mem (i := 355) (by decide +kernel) (by decide +kernel)
theorem wi_H_out : (.instanceMethod yH_out : Cond) ∈ lw_g := lg_mem (i := 356) (by decide +kernel) (by decide +kernel)
theorem we_H_out : (.selects "HangGraph" yH_out yH_out : Cond) ∈ lw_g := lg_mem (i := 357) (by decide +kernel) (by decide +kernel)
theorem wc_H_out : (.code yH_out cH_out 4 (some .int) : Cond) ∈ lw_g := lg_mem (i := 358) (by decide +kernel) (by decide +kernel)
theorem wm_H_47 : (.methodLink "HangGraph" 47 yH_formulaNamed : Cond) ∈ lw_g := lg_mem (i := 359) (by decide +kernel) (by decide +kernel)
theorem wi_H_formulaNamed : (.instanceMethod yH_formulaNamed : Cond) ∈ lw_g := lg_mem (i := 361) (by decide +kernel) (by decide +kernel)
theorem wc_H_formulaNamed : (.code yH_formulaNamed cH_formulaNamed 5 (some (.object "HangGraph$Formula")) : Cond) ∈ lw_g := lg_mem (i := 362) (by decide +kernel) (by decide +kernel)
theorem wk_H_123 : (.classLink "HangGraph" 123 "java/util/NoSuchElementException" : Cond) ∈ lw_g := lg_mem (i := 363) (by decide +kernel) (by decide +kernel)
theorem wz_java_util_NoSuchElementException : (.instantiable "java/util/NoSuchElementException" 6 : Cond) ∈ lw_g := lg_mem (i := 364) (by decide +kernel) (by decide +kernel)
theorem wq_cast_java_util_NoSuchElementException : ((Jvm.Cond.castable "java/util/NoSuchElementException" "java/util/NoSuchElementException") : Cond) ∈ lw_tbl := List.mem_of_getElem? (i := 365) (by decide +kernel)
theorem wq_str_125 : ((Jvm.Cond.stringRef "HangGraph" (125 : Nat) "no formula has this first cell") : Cond) ∈ lw_tbl := List.mem_of_getElem? (i := 372) (by decide +kernel)
theorem wm_H_127 : (.methodLink "HangGraph" 127 ⟨"java/util/NoSuchElementException", "<init>", "(Ljava/lang/String;)V"⟩ : Cond) ∈ lw_g := lg_mem (i := 373) (by decide +kernel) (by decide +kernel)
theorem wi_java_util_NoSuchElementException_init_s : (.instanceMethod ⟨"java/util/NoSuchElementException", "<init>", "(Ljava/lang/String;)V"⟩ : Cond) ∈ lw_g := lg_mem (i := 374) (by decide +kernel) (by decide +kernel)
theorem wm_L_58 : (.methodLink "HangGraphLaw" 58 yL_speak : Cond) ∈ lw_g := lg_mem (i := 379) (by decide +kernel) (by decide +kernel)
theorem wt_L_speak : (.static yL_speak : Cond) ∈ lw_g := lg_mem (i := 380) (by decide +kernel) (by decide +kernel)
theorem wk_L_27 : (.classLink "HangGraphLaw" 27 "java/lang/IndexOutOfBoundsException" : Cond) ∈ lw_g := lg_mem (i := 382) (by decide +kernel) (by decide +kernel)
theorem wm_L_23 : (.methodLink "HangGraphLaw" 23 yH_speak : Cond) ∈ lw_g := lg_mem (i := 383) (by decide +kernel) (by decide +kernel)
theorem wi_H_speak : (.instanceMethod yH_speak : Cond) ∈ lw_g := lg_mem (i := 384) (by decide +kernel) (by decide +kernel)
theorem we_H_speak : (.selects "HangGraph" yH_speak yH_speak : Cond) ∈ lw_g := lg_mem (i := 385) (by decide +kernel) (by decide +kernel)
theorem wc_H_speak : (.code yH_speak cH_speak 8 (some .int) : Cond) ∈ lw_g := lg_mem (i := 386) (by decide +kernel) (by decide +kernel)
theorem wm_H_51 : (.methodLink "HangGraph" 51 yH_requireSpan : Cond) ∈ lw_g := lg_mem (i := 387) (by decide +kernel) (by decide +kernel)
theorem wt_H_requireSpan : (.static yH_requireSpan : Cond) ∈ lw_g := lg_mem (i := 388) (by decide +kernel) (by decide +kernel)
theorem wc_H_requireSpan : (.code yH_requireSpan cH_requireSpan 2 none : Cond) ∈ lw_g := lg_mem (i := 389) (by decide +kernel) (by decide +kernel)
theorem wq_str_116 : ((Jvm.Cond.stringRef "HangGraph" (116 : Nat) "the rectangle is empty or beyond the grid") : Cond) ∈ lw_tbl := List.mem_of_getElem? (i := 390) (by decide +kernel)
theorem wk_H_57 : (.classLink "HangGraph" 57 "java/lang/IndexOutOfBoundsException" : Cond) ∈ lw_g := lg_mem (i := 391) (by decide +kernel) (by decide +kernel)
theorem wz_java_lang_IndexOutOfBoundsException : (.instantiable "java/lang/IndexOutOfBoundsException" 6 : Cond) ∈ lw_g := lg_mem (i := 392) (by decide +kernel) (by decide +kernel)
theorem wq_cast_java_lang_IndexOutOfBoundsException : ((Jvm.Cond.castable "java/lang/IndexOutOfBoundsException" "java/lang/IndexOutOfBoundsException") : Cond) ∈ lw_tbl := List.mem_of_getElem? (i := 393) (by decide +kernel)
theorem wq_str_59 : ((Jvm.Cond.stringRef "HangGraph" (59 : Nat) "the formula has 20 rectangles already") : Cond) ∈ lw_tbl := List.mem_of_getElem? (i := 400) (by decide +kernel)
theorem wm_H_61 : (.methodLink "HangGraph" 61 ⟨"java/lang/IndexOutOfBoundsException", "<init>", "(Ljava/lang/String;)V"⟩ : Cond) ∈ lw_g := lg_mem (i := 401) (by decide +kernel) (by decide +kernel)
theorem wi_java_lang_IndexOutOfBoundsException_init_s : (.instanceMethod ⟨"java/lang/IndexOutOfBoundsException", "<init>", "(Ljava/lang/String;)V"⟩ : Cond) ∈ lw_g := lg_mem (i := 402) (by decide +kernel) (by decide +kernel)
theorem wm_H_64 : (.methodLink "HangGraph" 64 yF_addRectangle : Cond) ∈ lw_g := lg_mem (i := 407) (by decide +kernel) (by decide +kernel)
theorem wi_F_addRectangle : (.instanceMethod yF_addRectangle : Cond) ∈ lw_g := lg_mem (i := 408) (by decide +kernel) (by decide +kernel)
theorem we_F_addRectangle : (.selects "HangGraph$Formula" yF_addRectangle yF_addRectangle : Cond) ∈ lw_g := lg_mem (i := 409) (by decide +kernel) (by decide +kernel)
theorem wc_F_addRectangle : (.code yF_addRectangle cF_addRectangle 7 none : Cond) ∈ lw_g := lg_mem (i := 410) (by decide +kernel) (by decide +kernel)
theorem wm_L_62 : (.methodLink "HangGraphLaw" 62 yL_touch : Cond) ∈ lw_g := lg_mem (i := 411) (by decide +kernel) (by decide +kernel)
theorem wt_L_touch : (.static yL_touch : Cond) ∈ lw_g := lg_mem (i := 412) (by decide +kernel) (by decide +kernel)
theorem wm_L_29 : (.methodLink "HangGraphLaw" 29 yH_touch : Cond) ∈ lw_g := lg_mem (i := 414) (by decide +kernel) (by decide +kernel)
theorem wi_H_touch : (.instanceMethod yH_touch : Cond) ∈ lw_g := lg_mem (i := 415) (by decide +kernel) (by decide +kernel)
theorem we_H_touch : (.selects "HangGraph" yH_touch yH_touch : Cond) ∈ lw_g := lg_mem (i := 416) (by decide +kernel) (by decide +kernel)
theorem wc_H_touch : (.code yH_touch cH_touch 3 none : Cond) ∈ lw_g := lg_mem (i := 417) (by decide +kernel) (by decide +kernel)
theorem wm_H_67 : (.methodLink "HangGraph" 67 yH_columnBits : Cond) ∈ lw_g := lg_mem (i := 418) (by decide +kernel) (by decide +kernel)
theorem wm_L_70 : (.methodLink "HangGraphLaw" 70 yL_told : Cond) ∈ lw_g := lg_mem (i := 419) (by decide +kernel) (by decide +kernel)
theorem wt_L_told : (.static yL_told : Cond) ∈ lw_g := lg_mem (i := 420) (by decide +kernel) (by decide +kernel)
theorem wm_L_33 : (.methodLink "HangGraphLaw" 33 yH_told : Cond) ∈ lw_g := lg_mem (i := 422) (by decide +kernel) (by decide +kernel)
theorem wi_H_told : (.instanceMethod yH_told : Cond) ∈ lw_g := lg_mem (i := 423) (by decide +kernel) (by decide +kernel)
theorem we_H_told : (.selects "HangGraph" yH_told yH_told : Cond) ∈ lw_g := lg_mem (i := 424) (by decide +kernel) (by decide +kernel)
theorem wc_H_told : (.code yH_told cH_told 5 (some .int) : Cond) ∈ lw_g := lg_mem (i := 425) (by decide +kernel) (by decide +kernel)
theorem wq_str_93 : ((Jvm.Cond.stringRef "HangGraph" (93 : Nat) "what is not 0, 1 or 2") : Cond) ∈ lw_tbl := List.mem_of_getElem? (i := 426) (by decide +kernel)
theorem wm_L_74 : (.methodLink "HangGraphLaw" 74 yL_owner : Cond) ∈ lw_g := lg_mem (i := 427) (by decide +kernel) (by decide +kernel)
theorem wt_L_owner : (.static yL_owner : Cond) ∈ lw_g := lg_mem (i := 428) (by decide +kernel) (by decide +kernel)
theorem wm_L_37 : (.methodLink "HangGraphLaw" 37 yH_owner : Cond) ∈ lw_g := lg_mem (i := 430) (by decide +kernel) (by decide +kernel)
theorem wi_H_owner : (.instanceMethod yH_owner : Cond) ∈ lw_g := lg_mem (i := 431) (by decide +kernel) (by decide +kernel)
theorem we_H_owner : (.selects "HangGraph" yH_owner yH_owner : Cond) ∈ lw_g := lg_mem (i := 432) (by decide +kernel) (by decide +kernel)
theorem wc_H_owner : (.code yH_owner cH_owner 4 (some .int) : Cond) ∈ lw_g := lg_mem (i := 433) (by decide +kernel) (by decide +kernel)
theorem wk_L_41 : (.classLink "HangGraphLaw" 41 "HangGraphModel" : Cond) ∈ lw_g := lg_mem (i := 434) (by decide +kernel) (by decide +kernel)
theorem wz_M : (.instantiable "HangGraphModel" 13 : Cond) ∈ lw_g := lg_mem (i := 435) (by decide +kernel) (by decide +kernel)
theorem wm_L_43 : (.methodLink "HangGraphLaw" 43 yM_init : Cond) ∈ lw_g := lg_mem (i := 436) (by decide +kernel) (by decide +kernel)
theorem wi_M_init : (.instanceMethod yM_init : Cond) ∈ lw_g := lg_mem (i := 437) (by decide +kernel) (by decide +kernel)
theorem wc_M_init : (.code yM_init cM_init 1 none : Cond) ∈ lw_g := lg_mem (i := 438) (by decide +kernel) (by decide +kernel)
theorem wm_M_1 : (.methodLink "HangGraphModel" 1 ⟨"java/lang/Object", "<init>", "()V"⟩ : Cond) ∈ lw_g := lg_mem (i := 439) (by decide +kernel) (by decide +kernel)
theorem wk_M_23 : (.classLink "HangGraphModel" 23 "[[I" : Cond) ∈ lw_g := lg_mem (i := 440) (by decide +kernel) (by decide +kernel)
theorem wq_array_int : ((Jvm.Cond.arrayOver (Jvm.ClassFile.FieldType.array Jvm.ClassFile.FieldType.int)) : Cond) ∈ lw_tbl := List.mem_of_getElem? (i := 441) (by decide +kernel)
theorem wk_M_40 : (.classLink "HangGraphModel" 40 "[[Z" : Cond) ∈ lw_g := lg_mem (i := 442) (by decide +kernel) (by decide +kernel)
theorem wq_array_boolean : ((Jvm.Cond.arrayOver (Jvm.ClassFile.FieldType.array Jvm.ClassFile.FieldType.boolean)) : Cond) ∈ lw_tbl := List.mem_of_getElem? (i := 443) (by decide +kernel)
theorem wf_M_51 : (.fieldLink "HangGraphModel" 51 "HangGraphModel" "failed" "I" : Cond) ∈ lw_g := lg_mem (i := 444) (by decide +kernel) (by decide +kernel)
theorem wf_M_7 : (.fieldLink "HangGraphModel" 7 "HangGraphModel" "there" "[Z" : Cond) ∈ lw_g := lg_mem (i := 445) (by decide +kernel) (by decide +kernel)
theorem wf_M_13 : (.fieldLink "HangGraphModel" 13 "HangGraphModel" "heights" "[I" : Cond) ∈ lw_g := lg_mem (i := 446) (by decide +kernel) (by decide +kernel)
theorem wf_M_17 : (.fieldLink "HangGraphModel" 17 "HangGraphModel" "widths" "[I" : Cond) ∈ lw_g := lg_mem (i := 447) (by decide +kernel) (by decide +kernel)
theorem wf_M_20 : (.fieldLink "HangGraphModel" 20 "HangGraphModel" "counts" "[I" : Cond) ∈ lw_g := lg_mem (i := 448) (by decide +kernel) (by decide +kernel)
theorem wf_M_25 : (.fieldLink "HangGraphModel" 25 "HangGraphModel" "rectangles" "[[I" : Cond) ∈ lw_g := lg_mem (i := 449) (by decide +kernel) (by decide +kernel)
theorem wf_M_28 : (.fieldLink "HangGraphModel" 28 "HangGraphModel" "dirty" "[Z" : Cond) ∈ lw_g := lg_mem (i := 450) (by decide +kernel) (by decide +kernel)
theorem wf_M_31 : (.fieldLink "HangGraphModel" 31 "HangGraphModel" "hit" "[Z" : Cond) ∈ lw_g := lg_mem (i := 451) (by decide +kernel) (by decide +kernel)
theorem wf_M_34 : (.fieldLink "HangGraphModel" 34 "HangGraphModel" "round" "[Z" : Cond) ∈ lw_g := lg_mem (i := 452) (by decide +kernel) (by decide +kernel)
theorem wf_M_37 : (.fieldLink "HangGraphModel" 37 "HangGraphModel" "rank" "[I" : Cond) ∈ lw_g := lg_mem (i := 453) (by decide +kernel) (by decide +kernel)
theorem wf_M_42 : (.fieldLink "HangGraphModel" 42 "HangGraphModel" "hangs" "[[Z" : Cond) ∈ lw_g := lg_mem (i := 454) (by decide +kernel) (by decide +kernel)
theorem wf_M_45 : (.fieldLink "HangGraphModel" 45 "HangGraphModel" "met" "[Z" : Cond) ∈ lw_g := lg_mem (i := 455) (by decide +kernel) (by decide +kernel)
theorem wf_M_48 : (.fieldLink "HangGraphModel" 48 "HangGraphModel" "queue" "[I" : Cond) ∈ lw_g := lg_mem (i := 456) (by decide +kernel) (by decide +kernel)
theorem wa_boolean : ((Jvm.Cond.arrayClass Jvm.ClassFile.FieldType.boolean) : Cond) ∈ lw_g := lg_mem (i := 484) (by decide +kernel) (by decide +kernel)
theorem wm_L_50 : (.methodLink "HangGraphLaw" 50 yM_thrown : Cond) ∈ lw_g := lg_mem (i := 485) (by decide +kernel) (by decide +kernel)
theorem wi_M_thrown : (.instanceMethod yM_thrown : Cond) ∈ lw_g := lg_mem (i := 486) (by decide +kernel) (by decide +kernel)
theorem we_M_thrown : (.selects "HangGraphModel" yM_thrown yM_thrown : Cond) ∈ lw_g := lg_mem (i := 487) (by decide +kernel) (by decide +kernel)
theorem wc_M_thrown : (.code yM_thrown cM_thrown 1 (some .int) : Cond) ∈ lw_g := lg_mem (i := 488) (by decide +kernel) (by decide +kernel)
theorem wm_L_49 : (.methodLink "HangGraphLaw" 49 yM_put : Cond) ∈ lw_g := lg_mem (i := 489) (by decide +kernel) (by decide +kernel)
theorem wi_M_put : (.instanceMethod yM_put : Cond) ∈ lw_g := lg_mem (i := 490) (by decide +kernel) (by decide +kernel)
theorem we_M_put : (.selects "HangGraphModel" yM_put yM_put : Cond) ∈ lw_g := lg_mem (i := 491) (by decide +kernel) (by decide +kernel)
theorem wc_M_put : (.code yM_put cM_put 7 (some .int) : Cond) ∈ lw_g := lg_mem (i := 492) (by decide +kernel) (by decide +kernel)
theorem wm_M_55 : (.methodLink "HangGraphModel" 55 yM_out4 : Cond) ∈ lw_g := lg_mem (i := 493) (by decide +kernel) (by decide +kernel)
theorem wi_M_out4 : (.instanceMethod yM_out4 : Cond) ∈ lw_g := lg_mem (i := 495) (by decide +kernel) (by decide +kernel)
theorem wc_M_out4 : (.code yM_out4 cM_out4 5 (some .boolean) : Cond) ∈ lw_g := lg_mem (i := 496) (by decide +kernel) (by decide +kernel)
theorem wm_M_59 : (.methodLink "HangGraphModel" 59 yM_fail : Cond) ∈ lw_g := lg_mem (i := 497) (by decide +kernel) (by decide +kernel)
theorem wi_M_fail : (.instanceMethod yM_fail : Cond) ∈ lw_g := lg_mem (i := 499) (by decide +kernel) (by decide +kernel)
theorem wc_M_fail : (.code yM_fail cM_fail 2 (some .int) : Cond) ∈ lw_g := lg_mem (i := 500) (by decide +kernel) (by decide +kernel)
theorem wm_M_63 : (.methodLink "HangGraphModel" 63 yM_owner1 : Cond) ∈ lw_g := lg_mem (i := 501) (by decide +kernel) (by decide +kernel)
theorem wi_M_owner1 : (.instanceMethod yM_owner1 : Cond) ∈ lw_g := lg_mem (i := 503) (by decide +kernel) (by decide +kernel)
theorem wc_M_owner1 : (.code yM_owner1 cM_owner1 5 (some .int) : Cond) ∈ lw_g := lg_mem (i := 504) (by decide +kernel) (by decide +kernel)
theorem wm_M_66 : (.methodLink "HangGraphModel" 66 yM_forget : Cond) ∈ lw_g := lg_mem (i := 505) (by decide +kernel) (by decide +kernel)
theorem wi_M_forget : (.instanceMethod yM_forget : Cond) ∈ lw_g := lg_mem (i := 507) (by decide +kernel) (by decide +kernel)
theorem wc_M_forget : (.code yM_forget cM_forget 2 none : Cond) ∈ lw_g := lg_mem (i := 508) (by decide +kernel) (by decide +kernel)
theorem wm_M_70 : (.methodLink "HangGraphModel" 70 yM_count : Cond) ∈ lw_g := lg_mem (i := 509) (by decide +kernel) (by decide +kernel)
theorem wi_M_count : (.instanceMethod yM_count : Cond) ∈ lw_g := lg_mem (i := 511) (by decide +kernel) (by decide +kernel)
theorem wc_M_count : (.code yM_count cM_count 3 (some .int) : Cond) ∈ lw_g := lg_mem (i := 512) (by decide +kernel) (by decide +kernel)
theorem wm_L_57 : (.methodLink "HangGraphLaw" 57 yM_out2 : Cond) ∈ lw_g := lg_mem (i := 513) (by decide +kernel) (by decide +kernel)
theorem wi_M_out2 : (.instanceMethod yM_out2 : Cond) ∈ lw_g := lg_mem (i := 514) (by decide +kernel) (by decide +kernel)
theorem we_M_out2 : (.selects "HangGraphModel" yM_out2 yM_out2 : Cond) ∈ lw_g := lg_mem (i := 515) (by decide +kernel) (by decide +kernel)
theorem wc_M_out2 : (.code yM_out2 cM_out2 3 (some .int) : Cond) ∈ lw_g := lg_mem (i := 516) (by decide +kernel) (by decide +kernel)
theorem wm_L_61 : (.methodLink "HangGraphLaw" 61 yM_speak : Cond) ∈ lw_g := lg_mem (i := 517) (by decide +kernel) (by decide +kernel)
theorem wi_M_speak : (.instanceMethod yM_speak : Cond) ∈ lw_g := lg_mem (i := 518) (by decide +kernel) (by decide +kernel)
theorem we_M_speak : (.selects "HangGraphModel" yM_speak yM_speak : Cond) ∈ lw_g := lg_mem (i := 519) (by decide +kernel) (by decide +kernel)
theorem wc_M_speak : (.code yM_speak cM_speak 8 (some .int) : Cond) ∈ lw_g := lg_mem (i := 520) (by decide +kernel) (by decide +kernel)
theorem wm_L_65 : (.methodLink "HangGraphLaw" 65 yM_touch : Cond) ∈ lw_g := lg_mem (i := 521) (by decide +kernel) (by decide +kernel)
theorem wi_M_touch : (.instanceMethod yM_touch : Cond) ∈ lw_g := lg_mem (i := 522) (by decide +kernel) (by decide +kernel)
theorem we_M_touch : (.selects "HangGraphModel" yM_touch yM_touch : Cond) ∈ lw_g := lg_mem (i := 523) (by decide +kernel) (by decide +kernel)
theorem wc_M_touch : (.code yM_touch cM_touch 3 none : Cond) ∈ lw_g := lg_mem (i := 524) (by decide +kernel) (by decide +kernel)
theorem wm_L_69 : (.methodLink "HangGraphLaw" 69 yM_spread : Cond) ∈ lw_g := lg_mem (i := 525) (by decide +kernel) (by decide +kernel)
theorem wi_M_spread : (.instanceMethod yM_spread : Cond) ∈ lw_g := lg_mem (i := 526) (by decide +kernel) (by decide +kernel)
theorem we_M_spread : (.selects "HangGraphModel" yM_spread yM_spread : Cond) ∈ lw_g := lg_mem (i := 527) (by decide +kernel) (by decide +kernel)
theorem wc_M_spread : (.code yM_spread cM_spread 6 (some .int) : Cond) ∈ lw_g := lg_mem (i := 528) (by decide +kernel) (by decide +kernel)
theorem wm_M_78 : (.methodLink "HangGraphModel" 78 yM_survey : Cond) ∈ lw_g := lg_mem (i := 529) (by decide +kernel) (by decide +kernel)
theorem wi_M_survey : (.instanceMethod yM_survey : Cond) ∈ lw_g := lg_mem (i := 531) (by decide +kernel) (by decide +kernel)
theorem wc_M_survey : (.code yM_survey cM_survey 4 none : Cond) ∈ lw_g := lg_mem (i := 532) (by decide +kernel) (by decide +kernel)
theorem wm_M_74 : (.methodLink "HangGraphModel" 74 yM_speaks : Cond) ∈ lw_g := lg_mem (i := 533) (by decide +kernel) (by decide +kernel)
theorem wi_M_speaks : (.instanceMethod yM_speaks : Cond) ∈ lw_g := lg_mem (i := 535) (by decide +kernel) (by decide +kernel)
theorem wc_M_speaks : (.code yM_speaks cM_speaks 5 (some .boolean) : Cond) ∈ lw_g := lg_mem (i := 536) (by decide +kernel) (by decide +kernel)
theorem wm_M_81 : (.methodLink "HangGraphModel" 81 yM_comesBack : Cond) ∈ lw_g := lg_mem (i := 537) (by decide +kernel) (by decide +kernel)
theorem wi_M_comesBack : (.instanceMethod yM_comesBack : Cond) ∈ lw_g := lg_mem (i := 539) (by decide +kernel) (by decide +kernel)
theorem wc_M_comesBack : (.code yM_comesBack cM_comesBack 5 (some .boolean) : Cond) ∈ lw_g := lg_mem (i := 540) (by decide +kernel) (by decide +kernel)
theorem wm_M_85 : (.methodLink "HangGraphModel" 85 ⟨"java/lang/Math", "max", "(II)I"⟩ : Cond) ∈ lw_g := lg_mem (i := 541) (by decide +kernel) (by decide +kernel)
theorem wm_L_73 : (.methodLink "HangGraphLaw" 73 yM_told : Cond) ∈ lw_g := lg_mem (i := 542) (by decide +kernel) (by decide +kernel)
theorem wi_M_told : (.instanceMethod yM_told : Cond) ∈ lw_g := lg_mem (i := 543) (by decide +kernel) (by decide +kernel)
theorem we_M_told : (.selects "HangGraphModel" yM_told yM_told : Cond) ∈ lw_g := lg_mem (i := 544) (by decide +kernel) (by decide +kernel)
theorem wc_M_told : (.code yM_told cM_told 5 (some .int) : Cond) ∈ lw_g := lg_mem (i := 545) (by decide +kernel) (by decide +kernel)
theorem wm_L_76 : (.methodLink "HangGraphLaw" 76 yM_owner2 : Cond) ∈ lw_g := lg_mem (i := 546) (by decide +kernel) (by decide +kernel)
theorem wi_M_owner2 : (.instanceMethod yM_owner2 : Cond) ∈ lw_g := lg_mem (i := 547) (by decide +kernel) (by decide +kernel)
theorem we_M_owner2 : (.selects "HangGraphModel" yM_owner2 yM_owner2 : Cond) ∈ lw_g := lg_mem (i := 548) (by decide +kernel) (by decide +kernel)
theorem wc_M_owner2 : (.code yM_owner2 cM_owner2 3 (some .int) : Cond) ∈ lw_g := lg_mem (i := 549) (by decide +kernel) (by decide +kernel)
theorem wa_long : ((Jvm.Cond.arrayClass Jvm.ClassFile.FieldType.long) : Cond) ∈ lw_g := lg_mem (i := 550) (by decide +kernel) (by decide +kernel)
def TH : u_T := fun k => match k with
  | 0 => ("HangGraph", "over", "[LHangGraph$Formula;", true)
  | 1 => ("HangGraph", "dirtyRows", "[I", true)
  | 2 => ("HangGraph", "sweep", "LHangGraph$Sweep;", true)
  | _ => ("HangGraph", "formulaCount", "I", false)
def tyH : Nat → FieldType := fun k => match k with
  | 0 => .array (.object "HangGraph$Formula")
  | 1 => .array (.int)
  | 2 => .object "HangGraph$Sweep"
  | _ => .int
theorem nmH : ∀ a, a < 4 → ∀ b, b < 4 → a ≠ b → (TH a).2.1 ≠ (TH b).2.1 := by decide +kernel
theorem tyH_ok : ∀ k, k < 4 → parseFieldDescriptor (TH k).2.2.1 = some (tyH k) := by decide +kernel
theorem inH : ∀ w ∈ u_ws "HangGraph" TH 4, w ∈ lw_g := by decide +kernel
def TF : u_T := fun k => match k with
  | 0 => ("HangGraph$Formula", "first", "I", true)
  | 1 => ("HangGraph$Formula", "top", "I", true)
  | 2 => ("HangGraph$Formula", "left", "I", true)
  | 3 => ("HangGraph$Formula", "bottom", "I", true)
  | 4 => ("HangGraph$Formula", "right", "I", true)
  | 5 => ("HangGraph$Formula", "blockColumns", "I", true)
  | 6 => ("HangGraph$Formula", "spokenRows", "[I", true)
  | 7 => ("HangGraph$Formula", "rectangleCount", "I", false)
  | 8 => ("HangGraph$Formula", "hit", "Z", false)
  | 9 => ("HangGraph$Formula", "round", "Z", false)
  | 10 => ("HangGraph$Formula", "rank", "I", false)
  | 11 => ("HangGraph$Formula", "number", "I", false)
  | 12 => ("HangGraph$Formula", "lowest", "I", false)
  | 13 => ("HangGraph$Formula", "looked", "I", false)
  | _ => ("HangGraph$Formula", "settled", "Z", false)
def tyF : Nat → FieldType := fun k => match k with
  | 0 => .int
  | 1 => .int
  | 2 => .int
  | 3 => .int
  | 4 => .int
  | 5 => .int
  | 6 => .array (.int)
  | 7 => .int
  | 8 => .boolean
  | 9 => .boolean
  | 10 => .int
  | 11 => .int
  | 12 => .int
  | 13 => .int
  | _ => .boolean
theorem nmF : ∀ a, a < 15 → ∀ b, b < 15 → a ≠ b → (TF a).2.1 ≠ (TF b).2.1 := by decide +kernel
theorem tyF_ok : ∀ k, k < 15 → parseFieldDescriptor (TF k).2.2.1 = some (tyF k) := by decide +kernel
theorem inF : ∀ w ∈ u_ws "HangGraph$Formula" TF 15, w ∈ lw_g := by decide +kernel
def TS : u_T := fun k => match k with
  | 0 => ("HangGraph$Sweep", "live", "[LHangGraph$Formula;", true)
  | 1 => ("HangGraph$Sweep", "liveCount", "I", false)
  | 2 => ("HangGraph$Sweep", "hits", "[LHangGraph$Formula;", true)
  | 3 => ("HangGraph$Sweep", "hitCount", "I", false)
  | 4 => ("HangGraph$Sweep", "path", "[LHangGraph$Formula;", true)
  | 5 => ("HangGraph$Sweep", "pathLength", "I", false)
  | 6 => ("HangGraph$Sweep", "open", "[LHangGraph$Formula;", true)
  | 7 => ("HangGraph$Sweep", "openCount", "I", false)
  | _ => ("HangGraph$Sweep", "lastNumber", "I", false)
def tyS : Nat → FieldType := fun k => match k with
  | 0 => .array (.object "HangGraph$Formula")
  | 1 => .int
  | 2 => .array (.object "HangGraph$Formula")
  | 3 => .int
  | 4 => .array (.object "HangGraph$Formula")
  | 5 => .int
  | 6 => .array (.object "HangGraph$Formula")
  | 7 => .int
  | _ => .int
theorem nmS : ∀ a, a < 9 → ∀ b, b < 9 → a ≠ b → (TS a).2.1 ≠ (TS b).2.1 := by decide +kernel
theorem tyS_ok : ∀ k, k < 9 → parseFieldDescriptor (TS k).2.2.1 = some (tyS k) := by decide +kernel
theorem inS : ∀ w ∈ u_ws "HangGraph$Sweep" TS 9, w ∈ lw_g := by decide +kernel
def TM : u_T := fun k => match k with
  | 0 => ("HangGraphModel", "failed", "I", false)
  | 1 => ("HangGraphModel", "there", "[Z", true)
  | 2 => ("HangGraphModel", "heights", "[I", true)
  | 3 => ("HangGraphModel", "widths", "[I", true)
  | 4 => ("HangGraphModel", "counts", "[I", true)
  | 5 => ("HangGraphModel", "rectangles", "[[I", true)
  | 6 => ("HangGraphModel", "dirty", "[Z", true)
  | 7 => ("HangGraphModel", "hit", "[Z", true)
  | 8 => ("HangGraphModel", "round", "[Z", true)
  | 9 => ("HangGraphModel", "rank", "[I", true)
  | 10 => ("HangGraphModel", "hangs", "[[Z", true)
  | 11 => ("HangGraphModel", "met", "[Z", true)
  | _ => ("HangGraphModel", "queue", "[I", true)
def tyM : Nat → FieldType := fun k => match k with
  | 0 => .int
  | 1 => .array (.boolean)
  | 2 => .array (.int)
  | 3 => .array (.int)
  | 4 => .array (.int)
  | 5 => .array (.array (.int))
  | 6 => .array (.boolean)
  | 7 => .array (.boolean)
  | 8 => .array (.boolean)
  | 9 => .array (.int)
  | 10 => .array (.array (.boolean))
  | 11 => .array (.boolean)
  | _ => .array (.int)
theorem nmM : ∀ a, a < 13 → ∀ b, b < 13 → a ≠ b → (TM a).2.1 ≠ (TM b).2.1 := by decide +kernel
theorem tyM_ok : ∀ k, k < 13 → parseFieldDescriptor (TM k).2.2.1 = some (tyM k) := by decide +kernel
theorem inM : ∀ w ∈ u_ws "HangGraphModel" TM 13, w ∈ lw_g := by decide +kernel
abbrev vwCl : List vw_C := [("HangGraph", TH, 4), ("HangGraph$Formula", TF, 15), ("HangGraph$Sweep", TS, 9), ("HangGraphModel", TM, 13)]
end
section
/-! decode rows of the class -/
theorem dH_init_0 : decode cH_init 0 = .ok (.aload_n 0, 1) := by decide +kernel
theorem dH_init_1 : decode cH_init 1 = .ok (.invokespecial 3, 3) := by decide +kernel
theorem dH_init_4 : decode cH_init 4 = .ok (.aload_n 0, 1) := by decide +kernel
theorem dH_init_5 : decode cH_init 5 = .ok (.sipush 400, 3) := by decide +kernel
theorem dH_init_8 : decode cH_init 8 = .ok (.anewarray 9, 3) := by decide +kernel
theorem dH_init_11 : decode cH_init 11 = .ok (.putfield 11, 3) := by decide +kernel
theorem dH_init_14 : decode cH_init 14 = .ok (.aload_n 0, 1) := by decide +kernel
theorem dH_init_15 : decode cH_init 15 = .ok (.bipush 20, 2) := by decide +kernel
theorem dH_init_17 : decode cH_init 17 = .ok (.newarray .int, 2) := by decide +kernel
theorem dH_init_19 : decode cH_init 19 = .ok (.putfield 15, 3) := by decide +kernel
theorem dH_init_22 : decode cH_init 22 = .ok (.aload_n 0, 1) := by decide +kernel
theorem dH_init_23 : decode cH_init 23 = .ok (.new 19, 3) := by decide +kernel
theorem dH_init_26 : decode cH_init 26 = .ok (.dup, 1) := by decide +kernel
theorem dH_init_27 : decode cH_init 27 = .ok (.invokespecial 21, 3) := by decide +kernel
theorem dH_init_30 : decode cH_init 30 = .ok (.putfield 22, 3) := by decide +kernel
theorem dH_init_33 : decode cH_init 33 = .ok (.aload_n 0, 1) := by decide +kernel
theorem dH_init_34 : decode cH_init 34 = .ok (.iconst 0, 1) := by decide +kernel
theorem dH_init_35 : decode cH_init 35 = .ok (.putfield 26, 3) := by decide +kernel
theorem dH_init_38 : decode cH_init 38 = .ok (.return_, 1) := by decide +kernel
theorem dH_put_0 : decode cH_put 0 = .ok (.iload_n 1, 1) := by decide +kernel
theorem dH_put_1 : decode cH_put 1 = .ok (.iload_n 2, 1) := by decide +kernel
theorem dH_put_2 : decode cH_put 2 = .ok (.invokestatic 30, 3) := by decide +kernel
theorem dH_put_5 : decode cH_put 5 = .ok (.iload_n 1, 1) := by decide +kernel
theorem dH_put_6 : decode cH_put 6 = .ok (.iload_n 3, 1) := by decide +kernel
theorem dH_put_7 : decode cH_put 7 = .ok (.invokestatic 34, 3) := by decide +kernel
theorem dH_put_10 : decode cH_put 10 = .ok (.iload_n 2, 1) := by decide +kernel
theorem dH_put_11 : decode cH_put 11 = .ok (.iload 4, 2) := by decide +kernel
theorem dH_put_13 : decode cH_put 13 = .ok (.invokestatic 34, 3) := by decide +kernel
theorem dH_put_16 : decode cH_put 16 = .ok (.iload_n 1, 1) := by decide +kernel
theorem dH_put_17 : decode cH_put 17 = .ok (.iload_n 3, 1) := by decide +kernel
theorem dH_put_18 : decode cH_put 18 = .ok (.iadd, 1) := by decide +kernel
theorem dH_put_19 : decode cH_put 19 = .ok (.iconst 1, 1) := by decide +kernel
theorem dH_put_20 : decode cH_put 20 = .ok (.isub, 1) := by decide +kernel
theorem dH_put_21 : decode cH_put 21 = .ok (.istore 5, 2) := by decide +kernel
theorem dH_put_23 : decode cH_put 23 = .ok (.iload_n 2, 1) := by decide +kernel
theorem dH_put_24 : decode cH_put 24 = .ok (.iload 4, 2) := by decide +kernel
theorem dH_put_26 : decode cH_put 26 = .ok (.iadd, 1) := by decide +kernel
theorem dH_put_27 : decode cH_put 27 = .ok (.iconst 1, 1) := by decide +kernel
theorem dH_put_28 : decode cH_put 28 = .ok (.isub, 1) := by decide +kernel
theorem dH_put_29 : decode cH_put 29 = .ok (.istore 6, 2) := by decide +kernel
theorem dH_put_31 : decode cH_put 31 = .ok (.aload_n 0, 1) := by decide +kernel
theorem dH_put_32 : decode cH_put 32 = .ok (.iload_n 1, 1) := by decide +kernel
theorem dH_put_33 : decode cH_put 33 = .ok (.iload_n 2, 1) := by decide +kernel
theorem dH_put_34 : decode cH_put 34 = .ok (.iload 5, 2) := by decide +kernel
theorem dH_put_36 : decode cH_put 36 = .ok (.iload 6, 2) := by decide +kernel
theorem dH_put_38 : decode cH_put 38 = .ok (.invokevirtual 37, 3) := by decide +kernel
theorem dH_put_41 : decode cH_put 41 = .ok (.new 9, 3) := by decide +kernel
theorem dH_put_44 : decode cH_put 44 = .ok (.dup, 1) := by decide +kernel
theorem dH_put_45 : decode cH_put 45 = .ok (.iload_n 1, 1) := by decide +kernel
theorem dH_put_46 : decode cH_put 46 = .ok (.iload_n 2, 1) := by decide +kernel
theorem dH_put_47 : decode cH_put 47 = .ok (.iload 5, 2) := by decide +kernel
theorem dH_put_49 : decode cH_put 49 = .ok (.iload 6, 2) := by decide +kernel
theorem dH_put_51 : decode cH_put 51 = .ok (.invokespecial 41, 3) := by decide +kernel
theorem dH_put_54 : decode cH_put 54 = .ok (.astore 7, 2) := by decide +kernel
theorem dH_put_56 : decode cH_put 56 = .ok (.aload_n 0, 1) := by decide +kernel
theorem dH_put_57 : decode cH_put 57 = .ok (.aload 7, 2) := by decide +kernel
theorem dH_put_59 : decode cH_put 59 = .ok (.aload 7, 2) := by decide +kernel
theorem dH_put_61 : decode cH_put 61 = .ok (.invokevirtual 43, 3) := by decide +kernel
theorem dH_put_64 : decode cH_put 64 = .ok (.aload_n 0, 1) := by decide +kernel
theorem dH_put_65 : decode cH_put 65 = .ok (.dup, 1) := by decide +kernel
theorem dH_put_66 : decode cH_put 66 = .ok (.getfield 26, 3) := by decide +kernel
theorem dH_put_69 : decode cH_put 69 = .ok (.iconst 1, 1) := by decide +kernel
theorem dH_put_70 : decode cH_put 70 = .ok (.iadd, 1) := by decide +kernel
theorem dH_put_71 : decode cH_put 71 = .ok (.putfield 26, 3) := by decide +kernel
theorem dH_put_74 : decode cH_put 74 = .ok (.aload_n 0, 1) := by decide +kernel
theorem dH_put_75 : decode cH_put 75 = .ok (.getfield 26, 3) := by decide +kernel
theorem dH_put_78 : decode cH_put 78 = .ok (.ireturn, 1) := by decide +kernel
theorem dH_out_0 : decode cH_out 0 = .ok (.iload_n 1, 1) := by decide +kernel
theorem dH_out_1 : decode cH_out 1 = .ok (.iload_n 2, 1) := by decide +kernel
theorem dH_out_2 : decode cH_out 2 = .ok (.invokestatic 30, 3) := by decide +kernel
theorem dH_out_5 : decode cH_out 5 = .ok (.aload_n 0, 1) := by decide +kernel
theorem dH_out_6 : decode cH_out 6 = .ok (.iload_n 1, 1) := by decide +kernel
theorem dH_out_7 : decode cH_out 7 = .ok (.iload_n 2, 1) := by decide +kernel
theorem dH_out_8 : decode cH_out 8 = .ok (.invokevirtual 47, 3) := by decide +kernel
theorem dH_out_11 : decode cH_out 11 = .ok (.astore_n 3, 1) := by decide +kernel
theorem dH_out_12 : decode cH_out 12 = .ok (.aload_n 0, 1) := by decide +kernel
theorem dH_out_13 : decode cH_out 13 = .ok (.aload_n 3, 1) := by decide +kernel
theorem dH_out_14 : decode cH_out 14 = .ok (.aconst_null, 1) := by decide +kernel
theorem dH_out_15 : decode cH_out 15 = .ok (.invokevirtual 43, 3) := by decide +kernel
theorem dH_out_18 : decode cH_out 18 = .ok (.aload_n 0, 1) := by decide +kernel
theorem dH_out_19 : decode cH_out 19 = .ok (.dup, 1) := by decide +kernel
theorem dH_out_20 : decode cH_out 20 = .ok (.getfield 26, 3) := by decide +kernel
theorem dH_out_23 : decode cH_out 23 = .ok (.iconst 1, 1) := by decide +kernel
theorem dH_out_24 : decode cH_out 24 = .ok (.isub, 1) := by decide +kernel
theorem dH_out_25 : decode cH_out 25 = .ok (.putfield 26, 3) := by decide +kernel
theorem dH_out_28 : decode cH_out 28 = .ok (.aload_n 0, 1) := by decide +kernel
theorem dH_out_29 : decode cH_out 29 = .ok (.getfield 26, 3) := by decide +kernel
theorem dH_out_32 : decode cH_out 32 = .ok (.ireturn, 1) := by decide +kernel
theorem dH_speak_0 : decode cH_speak 0 = .ok (.iload_n 1, 1) := by decide +kernel
theorem dH_speak_1 : decode cH_speak 1 = .ok (.iload_n 2, 1) := by decide +kernel
theorem dH_speak_2 : decode cH_speak 2 = .ok (.invokestatic 30, 3) := by decide +kernel
theorem dH_speak_5 : decode cH_speak 5 = .ok (.iload_n 3, 1) := by decide +kernel
theorem dH_speak_6 : decode cH_speak 6 = .ok (.iload 5, 2) := by decide +kernel
theorem dH_speak_8 : decode cH_speak 8 = .ok (.invokestatic 51, 3) := by decide +kernel
theorem dH_speak_11 : decode cH_speak 11 = .ok (.iload 4, 2) := by decide +kernel
theorem dH_speak_13 : decode cH_speak 13 = .ok (.iload 6, 2) := by decide +kernel
theorem dH_speak_15 : decode cH_speak 15 = .ok (.invokestatic 51, 3) := by decide +kernel
theorem dH_speak_18 : decode cH_speak 18 = .ok (.aload_n 0, 1) := by decide +kernel
theorem dH_speak_19 : decode cH_speak 19 = .ok (.iload_n 1, 1) := by decide +kernel
theorem dH_speak_20 : decode cH_speak 20 = .ok (.iload_n 2, 1) := by decide +kernel
theorem dH_speak_21 : decode cH_speak 21 = .ok (.invokevirtual 47, 3) := by decide +kernel
theorem dH_speak_24 : decode cH_speak 24 = .ok (.astore 7, 2) := by decide +kernel
theorem dH_speak_26 : decode cH_speak 26 = .ok (.aload 7, 2) := by decide +kernel
theorem dH_speak_28 : decode cH_speak 28 = .ok (.getfield 54, 3) := by decide +kernel
theorem dH_speak_31 : decode cH_speak 31 = .ok (.bipush 20, 2) := by decide +kernel
theorem dH_speak_33 : decode cH_speak 33 = .ok (.if_icmp .lt 13, 3) := by decide +kernel
theorem dH_speak_36 : decode cH_speak 36 = .ok (.new 57, 3) := by decide +kernel
theorem dH_speak_39 : decode cH_speak 39 = .ok (.dup, 1) := by decide +kernel
theorem dH_speak_40 : decode cH_speak 40 = .ok (.ldc 59, 2) := by decide +kernel
theorem dH_speak_42 : decode cH_speak 42 = .ok (.invokespecial 61, 3) := by decide +kernel
theorem dH_speak_45 : decode cH_speak 45 = .ok (.athrow, 1) := by decide +kernel
theorem dH_speak_46 : decode cH_speak 46 = .ok (.aload 7, 2) := by decide +kernel
theorem dH_speak_48 : decode cH_speak 48 = .ok (.iload_n 3, 1) := by decide +kernel
theorem dH_speak_49 : decode cH_speak 49 = .ok (.iload 4, 2) := by decide +kernel
theorem dH_speak_51 : decode cH_speak 51 = .ok (.iload 5, 2) := by decide +kernel
theorem dH_speak_53 : decode cH_speak 53 = .ok (.iload 6, 2) := by decide +kernel
theorem dH_speak_55 : decode cH_speak 55 = .ok (.invokevirtual 64, 3) := by decide +kernel
theorem dH_speak_58 : decode cH_speak 58 = .ok (.aload 7, 2) := by decide +kernel
theorem dH_speak_60 : decode cH_speak 60 = .ok (.getfield 54, 3) := by decide +kernel
theorem dH_speak_63 : decode cH_speak 63 = .ok (.ireturn, 1) := by decide +kernel
theorem dH_touch_0 : decode cH_touch 0 = .ok (.iload_n 1, 1) := by decide +kernel
theorem dH_touch_1 : decode cH_touch 1 = .ok (.iload_n 2, 1) := by decide +kernel
theorem dH_touch_2 : decode cH_touch 2 = .ok (.invokestatic 30, 3) := by decide +kernel
theorem dH_touch_5 : decode cH_touch 5 = .ok (.aload_n 0, 1) := by decide +kernel
theorem dH_touch_6 : decode cH_touch 6 = .ok (.getfield 15, 3) := by decide +kernel
theorem dH_touch_9 : decode cH_touch 9 = .ok (.iload_n 1, 1) := by decide +kernel
theorem dH_touch_10 : decode cH_touch 10 = .ok (.dup2, 1) := by decide +kernel
theorem dH_touch_11 : decode cH_touch 11 = .ok (.iaload, 1) := by decide +kernel
theorem dH_touch_12 : decode cH_touch 12 = .ok (.iload_n 2, 1) := by decide +kernel
theorem dH_touch_13 : decode cH_touch 13 = .ok (.iload_n 2, 1) := by decide +kernel
theorem dH_touch_14 : decode cH_touch 14 = .ok (.invokestatic 67, 3) := by decide +kernel
theorem dH_touch_17 : decode cH_touch 17 = .ok (.ior, 1) := by decide +kernel
theorem dH_touch_18 : decode cH_touch 18 = .ok (.iastore, 1) := by decide +kernel
theorem dH_touch_19 : decode cH_touch 19 = .ok (.return_, 1) := by decide +kernel
theorem dH_spread_0 : decode cH_spread 0 = .ok (.aload_n 0, 1) := by decide +kernel
theorem dH_spread_1 : decode cH_spread 1 = .ok (.getfield 22, 3) := by decide +kernel
theorem dH_spread_4 : decode cH_spread 4 = .ok (.aload_n 0, 1) := by decide +kernel
theorem dH_spread_5 : decode cH_spread 5 = .ok (.getfield 11, 3) := by decide +kernel
theorem dH_spread_8 : decode cH_spread 8 = .ok (.invokevirtual 71, 3) := by decide +kernel
theorem dH_spread_11 : decode cH_spread 11 = .ok (.aload_n 0, 1) := by decide +kernel
theorem dH_spread_12 : decode cH_spread 12 = .ok (.getfield 22, 3) := by decide +kernel
theorem dH_spread_15 : decode cH_spread 15 = .ok (.aload_n 0, 1) := by decide +kernel
theorem dH_spread_16 : decode cH_spread 16 = .ok (.getfield 15, 3) := by decide +kernel
theorem dH_spread_19 : decode cH_spread 19 = .ok (.invokevirtual 75, 3) := by decide +kernel
theorem dH_spread_22 : decode cH_spread 22 = .ok (.aload_n 0, 1) := by decide +kernel
theorem dH_spread_23 : decode cH_spread 23 = .ok (.getfield 22, 3) := by decide +kernel
theorem dH_spread_26 : decode cH_spread 26 = .ok (.invokevirtual 79, 3) := by decide +kernel
theorem dH_spread_29 : decode cH_spread 29 = .ok (.aload_n 0, 1) := by decide +kernel
theorem dH_spread_30 : decode cH_spread 30 = .ok (.getfield 15, 3) := by decide +kernel
theorem dH_spread_33 : decode cH_spread 33 = .ok (.iconst 0, 1) := by decide +kernel
theorem dH_spread_34 : decode cH_spread 34 = .ok (.invokestatic 82, 3) := by decide +kernel
theorem dH_spread_37 : decode cH_spread 37 = .ok (.aload_n 0, 1) := by decide +kernel
theorem dH_spread_38 : decode cH_spread 38 = .ok (.getfield 22, 3) := by decide +kernel
theorem dH_spread_41 : decode cH_spread 41 = .ok (.getfield 88, 3) := by decide +kernel
theorem dH_spread_44 : decode cH_spread 44 = .ok (.ireturn, 1) := by decide +kernel
theorem dH_told_0 : decode cH_told 0 = .ok (.iload_n 1, 1) := by decide +kernel
theorem dH_told_1 : decode cH_told 1 = .ok (.iload_n 2, 1) := by decide +kernel
theorem dH_told_2 : decode cH_told 2 = .ok (.invokestatic 30, 3) := by decide +kernel
theorem dH_told_5 : decode cH_told 5 = .ok (.iload_n 3, 1) := by decide +kernel
theorem dH_told_6 : decode cH_told 6 = .ok (.ifCond .lt 8, 3) := by decide +kernel
theorem dH_told_9 : decode cH_told 9 = .ok (.iload_n 3, 1) := by decide +kernel
theorem dH_told_10 : decode cH_told 10 = .ok (.iconst 2, 1) := by decide +kernel
theorem dH_told_11 : decode cH_told 11 = .ok (.if_icmp .le 13, 3) := by decide +kernel
theorem dH_told_14 : decode cH_told 14 = .ok (.new 91, 3) := by decide +kernel
theorem dH_told_17 : decode cH_told 17 = .ok (.dup, 1) := by decide +kernel
theorem dH_told_18 : decode cH_told 18 = .ok (.ldc 93, 2) := by decide +kernel
theorem dH_told_20 : decode cH_told 20 = .ok (.invokespecial 95, 3) := by decide +kernel
theorem dH_told_23 : decode cH_told 23 = .ok (.athrow, 1) := by decide +kernel
theorem dH_told_24 : decode cH_told 24 = .ok (.aload_n 0, 1) := by decide +kernel
theorem dH_told_25 : decode cH_told 25 = .ok (.iload_n 1, 1) := by decide +kernel
theorem dH_told_26 : decode cH_told 26 = .ok (.iload_n 2, 1) := by decide +kernel
theorem dH_told_27 : decode cH_told 27 = .ok (.invokevirtual 47, 3) := by decide +kernel
theorem dH_told_30 : decode cH_told 30 = .ok (.astore 4, 2) := by decide +kernel
theorem dH_told_32 : decode cH_told 32 = .ok (.iload_n 3, 1) := by decide +kernel
theorem dH_told_33 : decode cH_told 33 = .ok (.ifCond .ne 17, 3) := by decide +kernel
theorem dH_told_36 : decode cH_told 36 = .ok (.aload 4, 2) := by decide +kernel
theorem dH_told_38 : decode cH_told 38 = .ok (.getfield 96, 3) := by decide +kernel
theorem dH_told_41 : decode cH_told 41 = .ok (.ifCond .eq 7, 3) := by decide +kernel
theorem dH_told_44 : decode cH_told 44 = .ok (.iconst 1, 1) := by decide +kernel
theorem dH_told_45 : decode cH_told 45 = .ok (.goto 4, 3) := by decide +kernel
theorem dH_told_48 : decode cH_told 48 = .ok (.iconst 0, 1) := by decide +kernel
theorem dH_told_49 : decode cH_told 49 = .ok (.ireturn, 1) := by decide +kernel
theorem dH_told_50 : decode cH_told 50 = .ok (.iload_n 3, 1) := by decide +kernel
theorem dH_told_51 : decode cH_told 51 = .ok (.iconst 1, 1) := by decide +kernel
theorem dH_told_52 : decode cH_told 52 = .ok (.if_icmp .ne 17, 3) := by decide +kernel
theorem dH_told_55 : decode cH_told 55 = .ok (.aload 4, 2) := by decide +kernel
theorem dH_told_57 : decode cH_told 57 = .ok (.getfield 100, 3) := by decide +kernel
theorem dH_told_60 : decode cH_told 60 = .ok (.ifCond .eq 7, 3) := by decide +kernel
theorem dH_told_63 : decode cH_told 63 = .ok (.iconst 1, 1) := by decide +kernel
theorem dH_told_64 : decode cH_told 64 = .ok (.goto 4, 3) := by decide +kernel
theorem dH_told_67 : decode cH_told 67 = .ok (.iconst 0, 1) := by decide +kernel
theorem dH_told_68 : decode cH_told 68 = .ok (.ireturn, 1) := by decide +kernel
theorem dH_told_69 : decode cH_told 69 = .ok (.aload 4, 2) := by decide +kernel
theorem dH_told_71 : decode cH_told 71 = .ok (.getfield 103, 3) := by decide +kernel
theorem dH_told_74 : decode cH_told 74 = .ok (.ireturn, 1) := by decide +kernel
theorem dH_owner_0 : decode cH_owner 0 = .ok (.iload_n 1, 1) := by decide +kernel
theorem dH_owner_1 : decode cH_owner 1 = .ok (.iload_n 2, 1) := by decide +kernel
theorem dH_owner_2 : decode cH_owner 2 = .ok (.invokestatic 30, 3) := by decide +kernel
theorem dH_owner_5 : decode cH_owner 5 = .ok (.aload_n 0, 1) := by decide +kernel
theorem dH_owner_6 : decode cH_owner 6 = .ok (.getfield 11, 3) := by decide +kernel
theorem dH_owner_9 : decode cH_owner 9 = .ok (.iload_n 1, 1) := by decide +kernel
theorem dH_owner_10 : decode cH_owner 10 = .ok (.iload_n 2, 1) := by decide +kernel
theorem dH_owner_11 : decode cH_owner 11 = .ok (.invokestatic 106, 3) := by decide +kernel
theorem dH_owner_14 : decode cH_owner 14 = .ok (.aaload, 1) := by decide +kernel
theorem dH_owner_15 : decode cH_owner 15 = .ok (.astore_n 3, 1) := by decide +kernel
theorem dH_owner_16 : decode cH_owner 16 = .ok (.aload_n 3, 1) := by decide +kernel
theorem dH_owner_17 : decode cH_owner 17 = .ok (.ifnonnull 7, 3) := by decide +kernel
theorem dH_owner_20 : decode cH_owner 20 = .ok (.iconst (-1), 1) := by decide +kernel
theorem dH_owner_21 : decode cH_owner 21 = .ok (.goto 7, 3) := by decide +kernel
theorem dH_owner_24 : decode cH_owner 24 = .ok (.aload_n 3, 1) := by decide +kernel
theorem dH_owner_25 : decode cH_owner 25 = .ok (.getfield 109, 3) := by decide +kernel
theorem dH_owner_28 : decode cH_owner 28 = .ok (.ireturn, 1) := by decide +kernel
theorem dH_cellAt_0 : decode cH_cellAt 0 = .ok (.bipush 20, 2) := by decide +kernel
theorem dH_cellAt_2 : decode cH_cellAt 2 = .ok (.iload_n 0, 1) := by decide +kernel
theorem dH_cellAt_3 : decode cH_cellAt 3 = .ok (.imul, 1) := by decide +kernel
theorem dH_cellAt_4 : decode cH_cellAt 4 = .ok (.iload_n 1, 1) := by decide +kernel
theorem dH_cellAt_5 : decode cH_cellAt 5 = .ok (.iadd, 1) := by decide +kernel
theorem dH_cellAt_6 : decode cH_cellAt 6 = .ok (.ireturn, 1) := by decide +kernel
theorem dH_columnBits_0 : decode cH_columnBits 0 = .ok (.iconst 1, 1) := by decide +kernel
theorem dH_columnBits_1 : decode cH_columnBits 1 = .ok (.iload_n 1, 1) := by decide +kernel
theorem dH_columnBits_2 : decode cH_columnBits 2 = .ok (.iload_n 0, 1) := by decide +kernel
theorem dH_columnBits_3 : decode cH_columnBits 3 = .ok (.isub, 1) := by decide +kernel
theorem dH_columnBits_4 : decode cH_columnBits 4 = .ok (.iconst 1, 1) := by decide +kernel
theorem dH_columnBits_5 : decode cH_columnBits 5 = .ok (.iadd, 1) := by decide +kernel
theorem dH_columnBits_6 : decode cH_columnBits 6 = .ok (.ishl, 1) := by decide +kernel
theorem dH_columnBits_7 : decode cH_columnBits 7 = .ok (.iconst 1, 1) := by decide +kernel
theorem dH_columnBits_8 : decode cH_columnBits 8 = .ok (.isub, 1) := by decide +kernel
theorem dH_columnBits_9 : decode cH_columnBits 9 = .ok (.iload_n 0, 1) := by decide +kernel
theorem dH_columnBits_10 : decode cH_columnBits 10 = .ok (.ishl, 1) := by decide +kernel
theorem dH_columnBits_11 : decode cH_columnBits 11 = .ok (.ireturn, 1) := by decide +kernel
theorem dH_requireCell_0 : decode cH_requireCell 0 = .ok (.iload_n 0, 1) := by decide +kernel
theorem dH_requireCell_1 : decode cH_requireCell 1 = .ok (.ifCond .lt 19, 3) := by decide +kernel
theorem dH_requireCell_4 : decode cH_requireCell 4 = .ok (.iload_n 0, 1) := by decide +kernel
theorem dH_requireCell_5 : decode cH_requireCell 5 = .ok (.bipush 20, 2) := by decide +kernel
theorem dH_requireCell_7 : decode cH_requireCell 7 = .ok (.if_icmp .ge 13, 3) := by decide +kernel
theorem dH_requireCell_10 : decode cH_requireCell 10 = .ok (.iload_n 1, 1) := by decide +kernel
theorem dH_requireCell_11 : decode cH_requireCell 11 = .ok (.ifCond .lt 9, 3) := by decide +kernel
theorem dH_requireCell_14 : decode cH_requireCell 14 = .ok (.iload_n 1, 1) := by decide +kernel
theorem dH_requireCell_15 : decode cH_requireCell 15 = .ok (.bipush 20, 2) := by decide +kernel
theorem dH_requireCell_17 : decode cH_requireCell 17 = .ok (.if_icmp .lt 13, 3) := by decide +kernel
theorem dH_requireCell_20 : decode cH_requireCell 20 = .ok (.new 91, 3) := by decide +kernel
theorem dH_requireCell_23 : decode cH_requireCell 23 = .ok (.dup, 1) := by decide +kernel
theorem dH_requireCell_24 : decode cH_requireCell 24 = .ok (.ldc 112, 2) := by decide +kernel
theorem dH_requireCell_26 : decode cH_requireCell 26 = .ok (.invokespecial 95, 3) := by decide +kernel
theorem dH_requireCell_29 : decode cH_requireCell 29 = .ok (.athrow, 1) := by decide +kernel
theorem dH_requireCell_30 : decode cH_requireCell 30 = .ok (.return_, 1) := by decide +kernel
theorem dH_requireFits_0 : decode cH_requireFits 0 = .ok (.iload_n 1, 1) := by decide +kernel
theorem dH_requireFits_1 : decode cH_requireFits 1 = .ok (.iconst 1, 1) := by decide +kernel
theorem dH_requireFits_2 : decode cH_requireFits 2 = .ok (.if_icmp .lt 11, 3) := by decide +kernel
theorem dH_requireFits_5 : decode cH_requireFits 5 = .ok (.iload_n 1, 1) := by decide +kernel
theorem dH_requireFits_6 : decode cH_requireFits 6 = .ok (.bipush 20, 2) := by decide +kernel
theorem dH_requireFits_8 : decode cH_requireFits 8 = .ok (.iload_n 0, 1) := by decide +kernel
theorem dH_requireFits_9 : decode cH_requireFits 9 = .ok (.isub, 1) := by decide +kernel
theorem dH_requireFits_10 : decode cH_requireFits 10 = .ok (.if_icmp .le 13, 3) := by decide +kernel
theorem dH_requireFits_13 : decode cH_requireFits 13 = .ok (.new 91, 3) := by decide +kernel
theorem dH_requireFits_16 : decode cH_requireFits 16 = .ok (.dup, 1) := by decide +kernel
theorem dH_requireFits_17 : decode cH_requireFits 17 = .ok (.ldc 114, 2) := by decide +kernel
theorem dH_requireFits_19 : decode cH_requireFits 19 = .ok (.invokespecial 95, 3) := by decide +kernel
theorem dH_requireFits_22 : decode cH_requireFits 22 = .ok (.athrow, 1) := by decide +kernel
theorem dH_requireFits_23 : decode cH_requireFits 23 = .ok (.return_, 1) := by decide +kernel
theorem dH_requireSpan_0 : decode cH_requireSpan 0 = .ok (.iload_n 0, 1) := by decide +kernel
theorem dH_requireSpan_1 : decode cH_requireSpan 1 = .ok (.ifCond .lt 14, 3) := by decide +kernel
theorem dH_requireSpan_4 : decode cH_requireSpan 4 = .ok (.iload_n 0, 1) := by decide +kernel
theorem dH_requireSpan_5 : decode cH_requireSpan 5 = .ok (.iload_n 1, 1) := by decide +kernel
theorem dH_requireSpan_6 : decode cH_requireSpan 6 = .ok (.if_icmp .gt 9, 3) := by decide +kernel
theorem dH_requireSpan_9 : decode cH_requireSpan 9 = .ok (.iload_n 1, 1) := by decide +kernel
theorem dH_requireSpan_10 : decode cH_requireSpan 10 = .ok (.bipush 20, 2) := by decide +kernel
theorem dH_requireSpan_12 : decode cH_requireSpan 12 = .ok (.if_icmp .lt 13, 3) := by decide +kernel
theorem dH_requireSpan_15 : decode cH_requireSpan 15 = .ok (.new 91, 3) := by decide +kernel
theorem dH_requireSpan_18 : decode cH_requireSpan 18 = .ok (.dup, 1) := by decide +kernel
theorem dH_requireSpan_19 : decode cH_requireSpan 19 = .ok (.ldc 116, 2) := by decide +kernel
theorem dH_requireSpan_21 : decode cH_requireSpan 21 = .ok (.invokespecial 95, 3) := by decide +kernel
theorem dH_requireSpan_24 : decode cH_requireSpan 24 = .ok (.athrow, 1) := by decide +kernel
theorem dH_requireSpan_25 : decode cH_requireSpan 25 = .ok (.return_, 1) := by decide +kernel
theorem dH_requireFree_0 : decode cH_requireFree 0 = .ok (.iload_n 1, 1) := by decide +kernel
theorem dH_requireFree_1 : decode cH_requireFree 1 = .ok (.istore 5, 2) := by decide +kernel
theorem dH_requireFree_3 : decode cH_requireFree 3 = .ok (.iload 5, 2) := by decide +kernel
theorem dH_requireFree_5 : decode cH_requireFree 5 = .ok (.iload_n 3, 1) := by decide +kernel
theorem dH_requireFree_6 : decode cH_requireFree 6 = .ok (.if_icmp .gt 50, 3) := by decide +kernel
theorem dH_requireFree_9 : decode cH_requireFree 9 = .ok (.iload_n 2, 1) := by decide +kernel
theorem dH_requireFree_10 : decode cH_requireFree 10 = .ok (.istore 6, 2) := by decide +kernel
theorem dH_requireFree_12 : decode cH_requireFree 12 = .ok (.iload 6, 2) := by decide +kernel
theorem dH_requireFree_14 : decode cH_requireFree 14 = .ok (.iload 4, 2) := by decide +kernel
theorem dH_requireFree_16 : decode cH_requireFree 16 = .ok (.if_icmp .gt 34, 3) := by decide +kernel
theorem dH_requireFree_19 : decode cH_requireFree 19 = .ok (.aload_n 0, 1) := by decide +kernel
theorem dH_requireFree_20 : decode cH_requireFree 20 = .ok (.getfield 11, 3) := by decide +kernel
theorem dH_requireFree_23 : decode cH_requireFree 23 = .ok (.iload 5, 2) := by decide +kernel
theorem dH_requireFree_25 : decode cH_requireFree 25 = .ok (.iload 6, 2) := by decide +kernel
theorem dH_requireFree_27 : decode cH_requireFree 27 = .ok (.invokestatic 106, 3) := by decide +kernel
theorem dH_requireFree_30 : decode cH_requireFree 30 = .ok (.aaload, 1) := by decide +kernel
theorem dH_requireFree_31 : decode cH_requireFree 31 = .ok (.ifnull 13, 3) := by decide +kernel
theorem dH_requireFree_34 : decode cH_requireFree 34 = .ok (.new 118, 3) := by decide +kernel
theorem dH_requireFree_37 : decode cH_requireFree 37 = .ok (.dup, 1) := by decide +kernel
theorem dH_requireFree_38 : decode cH_requireFree 38 = .ok (.ldc 120, 2) := by decide +kernel
theorem dH_requireFree_40 : decode cH_requireFree 40 = .ok (.invokespecial 122, 3) := by decide +kernel
theorem dH_requireFree_43 : decode cH_requireFree 43 = .ok (.athrow, 1) := by decide +kernel
theorem dH_requireFree_44 : decode cH_requireFree 44 = .ok (.iinc 6 1, 3) := by decide +kernel
theorem dH_requireFree_47 : decode cH_requireFree 47 = .ok (.goto (-35), 3) := by decide +kernel
theorem dH_requireFree_50 : decode cH_requireFree 50 = .ok (.iinc 5 1, 3) := by decide +kernel
theorem dH_requireFree_53 : decode cH_requireFree 53 = .ok (.goto (-50), 3) := by decide +kernel
theorem dH_requireFree_56 : decode cH_requireFree 56 = .ok (.return_, 1) := by decide +kernel
theorem dH_formulaNamed_0 : decode cH_formulaNamed 0 = .ok (.iload_n 1, 1) := by decide +kernel
theorem dH_formulaNamed_1 : decode cH_formulaNamed 1 = .ok (.iload_n 2, 1) := by decide +kernel
theorem dH_formulaNamed_2 : decode cH_formulaNamed 2 = .ok (.invokestatic 106, 3) := by decide +kernel
theorem dH_formulaNamed_5 : decode cH_formulaNamed 5 = .ok (.istore_n 3, 1) := by decide +kernel
theorem dH_formulaNamed_6 : decode cH_formulaNamed 6 = .ok (.aload_n 0, 1) := by decide +kernel
theorem dH_formulaNamed_7 : decode cH_formulaNamed 7 = .ok (.getfield 11, 3) := by decide +kernel
theorem dH_formulaNamed_10 : decode cH_formulaNamed 10 = .ok (.iload_n 3, 1) := by decide +kernel
theorem dH_formulaNamed_11 : decode cH_formulaNamed 11 = .ok (.aaload, 1) := by decide +kernel
theorem dH_formulaNamed_12 : decode cH_formulaNamed 12 = .ok (.astore 4, 2) := by decide +kernel
theorem dH_formulaNamed_14 : decode cH_formulaNamed 14 = .ok (.aload 4, 2) := by decide +kernel
theorem dH_formulaNamed_16 : decode cH_formulaNamed 16 = .ok (.ifnull 12, 3) := by decide +kernel
theorem dH_formulaNamed_19 : decode cH_formulaNamed 19 = .ok (.aload 4, 2) := by decide +kernel
theorem dH_formulaNamed_21 : decode cH_formulaNamed 21 = .ok (.getfield 109, 3) := by decide +kernel
theorem dH_formulaNamed_24 : decode cH_formulaNamed 24 = .ok (.iload_n 3, 1) := by decide +kernel
theorem dH_formulaNamed_25 : decode cH_formulaNamed 25 = .ok (.if_icmp .eq 13, 3) := by decide +kernel
theorem dH_formulaNamed_28 : decode cH_formulaNamed 28 = .ok (.new 123, 3) := by decide +kernel
theorem dH_formulaNamed_31 : decode cH_formulaNamed 31 = .ok (.dup, 1) := by decide +kernel
theorem dH_formulaNamed_32 : decode cH_formulaNamed 32 = .ok (.ldc 125, 2) := by decide +kernel
theorem dH_formulaNamed_34 : decode cH_formulaNamed 34 = .ok (.invokespecial 127, 3) := by decide +kernel
theorem dH_formulaNamed_37 : decode cH_formulaNamed 37 = .ok (.athrow, 1) := by decide +kernel
theorem dH_formulaNamed_38 : decode cH_formulaNamed 38 = .ok (.aload 4, 2) := by decide +kernel
theorem dH_formulaNamed_40 : decode cH_formulaNamed 40 = .ok (.areturn, 1) := by decide +kernel
theorem dH_cover_0 : decode cH_cover 0 = .ok (.aload_n 1, 1) := by decide +kernel
theorem dH_cover_1 : decode cH_cover 1 = .ok (.getfield 128, 3) := by decide +kernel
theorem dH_cover_4 : decode cH_cover 4 = .ok (.istore_n 3, 1) := by decide +kernel
theorem dH_cover_5 : decode cH_cover 5 = .ok (.iload_n 3, 1) := by decide +kernel
theorem dH_cover_6 : decode cH_cover 6 = .ok (.aload_n 1, 1) := by decide +kernel
theorem dH_cover_7 : decode cH_cover 7 = .ok (.getfield 131, 3) := by decide +kernel
theorem dH_cover_10 : decode cH_cover 10 = .ok (.if_icmp .gt 42, 3) := by decide +kernel
theorem dH_cover_13 : decode cH_cover 13 = .ok (.aload_n 1, 1) := by decide +kernel
theorem dH_cover_14 : decode cH_cover 14 = .ok (.getfield 134, 3) := by decide +kernel
theorem dH_cover_17 : decode cH_cover 17 = .ok (.istore 4, 2) := by decide +kernel
theorem dH_cover_19 : decode cH_cover 19 = .ok (.iload 4, 2) := by decide +kernel
theorem dH_cover_21 : decode cH_cover 21 = .ok (.aload_n 1, 1) := by decide +kernel
theorem dH_cover_22 : decode cH_cover 22 = .ok (.getfield 137, 3) := by decide +kernel
theorem dH_cover_25 : decode cH_cover 25 = .ok (.if_icmp .gt 21, 3) := by decide +kernel
theorem dH_cover_28 : decode cH_cover 28 = .ok (.aload_n 0, 1) := by decide +kernel
theorem dH_cover_29 : decode cH_cover 29 = .ok (.getfield 11, 3) := by decide +kernel
theorem dH_cover_32 : decode cH_cover 32 = .ok (.iload_n 3, 1) := by decide +kernel
theorem dH_cover_33 : decode cH_cover 33 = .ok (.iload 4, 2) := by decide +kernel
theorem dH_cover_35 : decode cH_cover 35 = .ok (.invokestatic 106, 3) := by decide +kernel
theorem dH_cover_38 : decode cH_cover 38 = .ok (.aload_n 2, 1) := by decide +kernel
theorem dH_cover_39 : decode cH_cover 39 = .ok (.aastore, 1) := by decide +kernel
theorem dH_cover_40 : decode cH_cover 40 = .ok (.iinc 4 1, 3) := by decide +kernel
theorem dH_cover_43 : decode cH_cover 43 = .ok (.goto (-24), 3) := by decide +kernel
theorem dH_cover_46 : decode cH_cover 46 = .ok (.iinc 3 1, 3) := by decide +kernel
theorem dH_cover_49 : decode cH_cover 49 = .ok (.goto (-44), 3) := by decide +kernel
theorem dH_cover_52 : decode cH_cover 52 = .ok (.return_, 1) := by decide +kernel
theorem dF_init_0 : decode cF_init 0 = .ok (.aload_n 0, 1) := by decide +kernel
theorem dF_init_1 : decode cF_init 1 = .ok (.invokespecial 3, 3) := by decide +kernel
theorem dF_init_4 : decode cF_init 4 = .ok (.aload_n 0, 1) := by decide +kernel
theorem dF_init_5 : decode cF_init 5 = .ok (.iload_n 1, 1) := by decide +kernel
theorem dF_init_6 : decode cF_init 6 = .ok (.iload_n 2, 1) := by decide +kernel
theorem dF_init_7 : decode cF_init 7 = .ok (.invokestatic 9, 3) := by decide +kernel
theorem dF_init_10 : decode cF_init 10 = .ok (.putfield 13, 3) := by decide +kernel
theorem dF_init_13 : decode cF_init 13 = .ok (.aload_n 0, 1) := by decide +kernel
theorem dF_init_14 : decode cF_init 14 = .ok (.iload_n 1, 1) := by decide +kernel
theorem dF_init_15 : decode cF_init 15 = .ok (.putfield 19, 3) := by decide +kernel
theorem dF_init_18 : decode cF_init 18 = .ok (.aload_n 0, 1) := by decide +kernel
theorem dF_init_19 : decode cF_init 19 = .ok (.iload_n 2, 1) := by decide +kernel
theorem dF_init_20 : decode cF_init 20 = .ok (.putfield 22, 3) := by decide +kernel
theorem dF_init_23 : decode cF_init 23 = .ok (.aload_n 0, 1) := by decide +kernel
theorem dF_init_24 : decode cF_init 24 = .ok (.iload_n 3, 1) := by decide +kernel
theorem dF_init_25 : decode cF_init 25 = .ok (.putfield 25, 3) := by decide +kernel
theorem dF_init_28 : decode cF_init 28 = .ok (.aload_n 0, 1) := by decide +kernel
theorem dF_init_29 : decode cF_init 29 = .ok (.iload 4, 2) := by decide +kernel
theorem dF_init_31 : decode cF_init 31 = .ok (.putfield 28, 3) := by decide +kernel
theorem dF_init_34 : decode cF_init 34 = .ok (.aload_n 0, 1) := by decide +kernel
theorem dF_init_35 : decode cF_init 35 = .ok (.iload_n 2, 1) := by decide +kernel
theorem dF_init_36 : decode cF_init 36 = .ok (.iload 4, 2) := by decide +kernel
theorem dF_init_38 : decode cF_init 38 = .ok (.invokestatic 31, 3) := by decide +kernel
theorem dF_init_41 : decode cF_init 41 = .ok (.putfield 34, 3) := by decide +kernel
theorem dF_init_44 : decode cF_init 44 = .ok (.aload_n 0, 1) := by decide +kernel
theorem dF_init_45 : decode cF_init 45 = .ok (.bipush 20, 2) := by decide +kernel
theorem dF_init_47 : decode cF_init 47 = .ok (.newarray .int, 2) := by decide +kernel
theorem dF_init_49 : decode cF_init 49 = .ok (.putfield 37, 3) := by decide +kernel
theorem dF_init_52 : decode cF_init 52 = .ok (.return_, 1) := by decide +kernel
theorem dF_addRectangle_0 : decode cF_addRectangle 0 = .ok (.iload_n 2, 1) := by decide +kernel
theorem dF_addRectangle_1 : decode cF_addRectangle 1 = .ok (.iload 4, 2) := by decide +kernel
theorem dF_addRectangle_3 : decode cF_addRectangle 3 = .ok (.invokestatic 31, 3) := by decide +kernel
theorem dF_addRectangle_6 : decode cF_addRectangle 6 = .ok (.istore 5, 2) := by decide +kernel
theorem dF_addRectangle_8 : decode cF_addRectangle 8 = .ok (.iload_n 1, 1) := by decide +kernel
theorem dF_addRectangle_9 : decode cF_addRectangle 9 = .ok (.istore 6, 2) := by decide +kernel
theorem dF_addRectangle_11 : decode cF_addRectangle 11 = .ok (.iload 6, 2) := by decide +kernel
theorem dF_addRectangle_13 : decode cF_addRectangle 13 = .ok (.iload_n 3, 1) := by decide +kernel
theorem dF_addRectangle_14 : decode cF_addRectangle 14 = .ok (.if_icmp .gt 21, 3) := by decide +kernel
theorem dF_addRectangle_17 : decode cF_addRectangle 17 = .ok (.aload_n 0, 1) := by decide +kernel
theorem dF_addRectangle_18 : decode cF_addRectangle 18 = .ok (.getfield 37, 3) := by decide +kernel
theorem dF_addRectangle_21 : decode cF_addRectangle 21 = .ok (.iload 6, 2) := by decide +kernel
theorem dF_addRectangle_23 : decode cF_addRectangle 23 = .ok (.dup2, 1) := by decide +kernel
theorem dF_addRectangle_24 : decode cF_addRectangle 24 = .ok (.iaload, 1) := by decide +kernel
theorem dF_addRectangle_25 : decode cF_addRectangle 25 = .ok (.iload 5, 2) := by decide +kernel
theorem dF_addRectangle_27 : decode cF_addRectangle 27 = .ok (.ior, 1) := by decide +kernel
theorem dF_addRectangle_28 : decode cF_addRectangle 28 = .ok (.iastore, 1) := by decide +kernel
theorem dF_addRectangle_29 : decode cF_addRectangle 29 = .ok (.iinc 6 1, 3) := by decide +kernel
theorem dF_addRectangle_32 : decode cF_addRectangle 32 = .ok (.goto (-21), 3) := by decide +kernel
theorem dF_addRectangle_35 : decode cF_addRectangle 35 = .ok (.aload_n 0, 1) := by decide +kernel
theorem dF_addRectangle_36 : decode cF_addRectangle 36 = .ok (.dup, 1) := by decide +kernel
theorem dF_addRectangle_37 : decode cF_addRectangle 37 = .ok (.getfield 41, 3) := by decide +kernel
theorem dF_addRectangle_40 : decode cF_addRectangle 40 = .ok (.iconst 1, 1) := by decide +kernel
theorem dF_addRectangle_41 : decode cF_addRectangle 41 = .ok (.iadd, 1) := by decide +kernel
theorem dF_addRectangle_42 : decode cF_addRectangle 42 = .ok (.putfield 41, 3) := by decide +kernel
theorem dF_addRectangle_45 : decode cF_addRectangle 45 = .ok (.return_, 1) := by decide +kernel
theorem dF_hangsOn_0 : decode cF_hangsOn 0 = .ok (.aload_n 1, 1) := by decide +kernel
theorem dF_hangsOn_1 : decode cF_hangsOn 1 = .ok (.getfield 19, 3) := by decide +kernel
theorem dF_hangsOn_4 : decode cF_hangsOn 4 = .ok (.istore_n 2, 1) := by decide +kernel
theorem dF_hangsOn_5 : decode cF_hangsOn 5 = .ok (.iload_n 2, 1) := by decide +kernel
theorem dF_hangsOn_6 : decode cF_hangsOn 6 = .ok (.aload_n 1, 1) := by decide +kernel
theorem dF_hangsOn_7 : decode cF_hangsOn 7 = .ok (.getfield 25, 3) := by decide +kernel
theorem dF_hangsOn_10 : decode cF_hangsOn 10 = .ok (.if_icmp .gt 25, 3) := by decide +kernel
theorem dF_hangsOn_13 : decode cF_hangsOn 13 = .ok (.aload_n 0, 1) := by decide +kernel
theorem dF_hangsOn_14 : decode cF_hangsOn 14 = .ok (.getfield 37, 3) := by decide +kernel
theorem dF_hangsOn_17 : decode cF_hangsOn 17 = .ok (.iload_n 2, 1) := by decide +kernel
theorem dF_hangsOn_18 : decode cF_hangsOn 18 = .ok (.iaload, 1) := by decide +kernel
theorem dF_hangsOn_19 : decode cF_hangsOn 19 = .ok (.aload_n 1, 1) := by decide +kernel
theorem dF_hangsOn_20 : decode cF_hangsOn 20 = .ok (.getfield 34, 3) := by decide +kernel
theorem dF_hangsOn_23 : decode cF_hangsOn 23 = .ok (.iand, 1) := by decide +kernel
theorem dF_hangsOn_24 : decode cF_hangsOn 24 = .ok (.ifCond .eq 5, 3) := by decide +kernel
theorem dF_hangsOn_27 : decode cF_hangsOn 27 = .ok (.iconst 1, 1) := by decide +kernel
theorem dF_hangsOn_28 : decode cF_hangsOn 28 = .ok (.ireturn, 1) := by decide +kernel
theorem dF_hangsOn_29 : decode cF_hangsOn 29 = .ok (.iinc 2 1, 3) := by decide +kernel
theorem dF_hangsOn_32 : decode cF_hangsOn 32 = .ok (.goto (-27), 3) := by decide +kernel
theorem dF_hangsOn_35 : decode cF_hangsOn 35 = .ok (.iconst 0, 1) := by decide +kernel
theorem dF_hangsOn_36 : decode cF_hangsOn 36 = .ok (.ireturn, 1) := by decide +kernel
theorem dF_hangsOnOneOf_0 : decode cF_hangsOnOneOf 0 = .ok (.iconst 0, 1) := by decide +kernel
theorem dF_hangsOnOneOf_1 : decode cF_hangsOnOneOf 1 = .ok (.istore_n 2, 1) := by decide +kernel
theorem dF_hangsOnOneOf_2 : decode cF_hangsOnOneOf 2 = .ok (.iload_n 2, 1) := by decide +kernel
theorem dF_hangsOnOneOf_3 : decode cF_hangsOnOneOf 3 = .ok (.bipush 20, 2) := by decide +kernel
theorem dF_hangsOnOneOf_5 : decode cF_hangsOnOneOf 5 = .ok (.if_icmp .ge 24, 3) := by decide +kernel
theorem dF_hangsOnOneOf_8 : decode cF_hangsOnOneOf 8 = .ok (.aload_n 0, 1) := by decide +kernel
theorem dF_hangsOnOneOf_9 : decode cF_hangsOnOneOf 9 = .ok (.getfield 37, 3) := by decide +kernel
theorem dF_hangsOnOneOf_12 : decode cF_hangsOnOneOf 12 = .ok (.iload_n 2, 1) := by decide +kernel
theorem dF_hangsOnOneOf_13 : decode cF_hangsOnOneOf 13 = .ok (.iaload, 1) := by decide +kernel
theorem dF_hangsOnOneOf_14 : decode cF_hangsOnOneOf 14 = .ok (.aload_n 1, 1) := by decide +kernel
theorem dF_hangsOnOneOf_15 : decode cF_hangsOnOneOf 15 = .ok (.iload_n 2, 1) := by decide +kernel
theorem dF_hangsOnOneOf_16 : decode cF_hangsOnOneOf 16 = .ok (.iaload, 1) := by decide +kernel
theorem dF_hangsOnOneOf_17 : decode cF_hangsOnOneOf 17 = .ok (.iand, 1) := by decide +kernel
theorem dF_hangsOnOneOf_18 : decode cF_hangsOnOneOf 18 = .ok (.ifCond .eq 5, 3) := by decide +kernel
theorem dF_hangsOnOneOf_21 : decode cF_hangsOnOneOf 21 = .ok (.iconst 1, 1) := by decide +kernel
theorem dF_hangsOnOneOf_22 : decode cF_hangsOnOneOf 22 = .ok (.ireturn, 1) := by decide +kernel
theorem dF_hangsOnOneOf_23 : decode cF_hangsOnOneOf 23 = .ok (.iinc 2 1, 3) := by decide +kernel
theorem dF_hangsOnOneOf_26 : decode cF_hangsOnOneOf 26 = .ok (.goto (-24), 3) := by decide +kernel
theorem dF_hangsOnOneOf_29 : decode cF_hangsOnOneOf 29 = .ok (.iconst 0, 1) := by decide +kernel
theorem dF_hangsOnOneOf_30 : decode cF_hangsOnOneOf 30 = .ok (.ireturn, 1) := by decide +kernel
theorem dF_holdsOneOf_0 : decode cF_holdsOneOf 0 = .ok (.aload_n 0, 1) := by decide +kernel
theorem dF_holdsOneOf_1 : decode cF_holdsOneOf 1 = .ok (.getfield 19, 3) := by decide +kernel
theorem dF_holdsOneOf_4 : decode cF_holdsOneOf 4 = .ok (.istore_n 2, 1) := by decide +kernel
theorem dF_holdsOneOf_5 : decode cF_holdsOneOf 5 = .ok (.iload_n 2, 1) := by decide +kernel
theorem dF_holdsOneOf_6 : decode cF_holdsOneOf 6 = .ok (.aload_n 0, 1) := by decide +kernel
theorem dF_holdsOneOf_7 : decode cF_holdsOneOf 7 = .ok (.getfield 25, 3) := by decide +kernel
theorem dF_holdsOneOf_10 : decode cF_holdsOneOf 10 = .ok (.if_icmp .gt 22, 3) := by decide +kernel
theorem dF_holdsOneOf_13 : decode cF_holdsOneOf 13 = .ok (.aload_n 0, 1) := by decide +kernel
theorem dF_holdsOneOf_14 : decode cF_holdsOneOf 14 = .ok (.getfield 34, 3) := by decide +kernel
theorem dF_holdsOneOf_17 : decode cF_holdsOneOf 17 = .ok (.aload_n 1, 1) := by decide +kernel
theorem dF_holdsOneOf_18 : decode cF_holdsOneOf 18 = .ok (.iload_n 2, 1) := by decide +kernel
theorem dF_holdsOneOf_19 : decode cF_holdsOneOf 19 = .ok (.iaload, 1) := by decide +kernel
theorem dF_holdsOneOf_20 : decode cF_holdsOneOf 20 = .ok (.iand, 1) := by decide +kernel
theorem dF_holdsOneOf_21 : decode cF_holdsOneOf 21 = .ok (.ifCond .eq 5, 3) := by decide +kernel
theorem dF_holdsOneOf_24 : decode cF_holdsOneOf 24 = .ok (.iconst 1, 1) := by decide +kernel
theorem dF_holdsOneOf_25 : decode cF_holdsOneOf 25 = .ok (.ireturn, 1) := by decide +kernel
theorem dF_holdsOneOf_26 : decode cF_holdsOneOf 26 = .ok (.iinc 2 1, 3) := by decide +kernel
theorem dF_holdsOneOf_29 : decode cF_holdsOneOf 29 = .ok (.goto (-24), 3) := by decide +kernel
theorem dF_holdsOneOf_32 : decode cF_holdsOneOf 32 = .ok (.iconst 0, 1) := by decide +kernel
theorem dF_holdsOneOf_33 : decode cF_holdsOneOf 33 = .ok (.ireturn, 1) := by decide +kernel
theorem dF_forget_0 : decode cF_forget 0 = .ok (.aload_n 0, 1) := by decide +kernel
theorem dF_forget_1 : decode cF_forget 1 = .ok (.iconst 0, 1) := by decide +kernel
theorem dF_forget_2 : decode cF_forget 2 = .ok (.putfield 44, 3) := by decide +kernel
theorem dF_forget_5 : decode cF_forget 5 = .ok (.aload_n 0, 1) := by decide +kernel
theorem dF_forget_6 : decode cF_forget 6 = .ok (.iconst 0, 1) := by decide +kernel
theorem dF_forget_7 : decode cF_forget 7 = .ok (.putfield 48, 3) := by decide +kernel
theorem dF_forget_10 : decode cF_forget 10 = .ok (.aload_n 0, 1) := by decide +kernel
theorem dF_forget_11 : decode cF_forget 11 = .ok (.iconst 0, 1) := by decide +kernel
theorem dF_forget_12 : decode cF_forget 12 = .ok (.putfield 51, 3) := by decide +kernel
theorem dF_forget_15 : decode cF_forget 15 = .ok (.aload_n 0, 1) := by decide +kernel
theorem dF_forget_16 : decode cF_forget 16 = .ok (.iconst 0, 1) := by decide +kernel
theorem dF_forget_17 : decode cF_forget 17 = .ok (.putfield 54, 3) := by decide +kernel
theorem dF_forget_20 : decode cF_forget 20 = .ok (.aload_n 0, 1) := by decide +kernel
theorem dF_forget_21 : decode cF_forget 21 = .ok (.iconst 0, 1) := by decide +kernel
theorem dF_forget_22 : decode cF_forget 22 = .ok (.putfield 57, 3) := by decide +kernel
theorem dF_forget_25 : decode cF_forget 25 = .ok (.aload_n 0, 1) := by decide +kernel
theorem dF_forget_26 : decode cF_forget 26 = .ok (.iconst 0, 1) := by decide +kernel
theorem dF_forget_27 : decode cF_forget 27 = .ok (.putfield 60, 3) := by decide +kernel
theorem dF_forget_30 : decode cF_forget 30 = .ok (.aload_n 0, 1) := by decide +kernel
theorem dF_forget_31 : decode cF_forget 31 = .ok (.iconst 0, 1) := by decide +kernel
theorem dF_forget_32 : decode cF_forget 32 = .ok (.putfield 63, 3) := by decide +kernel
theorem dF_forget_35 : decode cF_forget 35 = .ok (.return_, 1) := by decide +kernel
theorem dS_init_0 : decode cS_init 0 = .ok (.aload_n 0, 1) := by decide +kernel
theorem dS_init_1 : decode cS_init 1 = .ok (.invokespecial 3, 3) := by decide +kernel
theorem dS_init_4 : decode cS_init 4 = .ok (.aload_n 0, 1) := by decide +kernel
theorem dS_init_5 : decode cS_init 5 = .ok (.sipush 400, 3) := by decide +kernel
theorem dS_init_8 : decode cS_init 8 = .ok (.anewarray 9, 3) := by decide +kernel
theorem dS_init_11 : decode cS_init 11 = .ok (.putfield 11, 3) := by decide +kernel
theorem dS_init_14 : decode cS_init 14 = .ok (.aload_n 0, 1) := by decide +kernel
theorem dS_init_15 : decode cS_init 15 = .ok (.sipush 400, 3) := by decide +kernel
theorem dS_init_18 : decode cS_init 18 = .ok (.anewarray 9, 3) := by decide +kernel
theorem dS_init_21 : decode cS_init 21 = .ok (.putfield 17, 3) := by decide +kernel
theorem dS_init_24 : decode cS_init 24 = .ok (.aload_n 0, 1) := by decide +kernel
theorem dS_init_25 : decode cS_init 25 = .ok (.sipush 400, 3) := by decide +kernel
theorem dS_init_28 : decode cS_init 28 = .ok (.anewarray 9, 3) := by decide +kernel
theorem dS_init_31 : decode cS_init 31 = .ok (.putfield 20, 3) := by decide +kernel
theorem dS_init_34 : decode cS_init 34 = .ok (.aload_n 0, 1) := by decide +kernel
theorem dS_init_35 : decode cS_init 35 = .ok (.sipush 400, 3) := by decide +kernel
theorem dS_init_38 : decode cS_init 38 = .ok (.anewarray 9, 3) := by decide +kernel
theorem dS_init_41 : decode cS_init 41 = .ok (.putfield 23, 3) := by decide +kernel
theorem dS_init_44 : decode cS_init 44 = .ok (.return_, 1) := by decide +kernel
theorem dS_begin_0 : decode cS_begin 0 = .ok (.aload_n 0, 1) := by decide +kernel
theorem dS_begin_1 : decode cS_begin 1 = .ok (.iconst 0, 1) := by decide +kernel
theorem dS_begin_2 : decode cS_begin 2 = .ok (.putfield 26, 3) := by decide +kernel
theorem dS_begin_5 : decode cS_begin 5 = .ok (.aload_n 0, 1) := by decide +kernel
theorem dS_begin_6 : decode cS_begin 6 = .ok (.iconst 0, 1) := by decide +kernel
theorem dS_begin_7 : decode cS_begin 7 = .ok (.putfield 30, 3) := by decide +kernel
theorem dS_begin_10 : decode cS_begin 10 = .ok (.aload_n 0, 1) := by decide +kernel
theorem dS_begin_11 : decode cS_begin 11 = .ok (.iconst 0, 1) := by decide +kernel
theorem dS_begin_12 : decode cS_begin 12 = .ok (.putfield 33, 3) := by decide +kernel
theorem dS_begin_15 : decode cS_begin 15 = .ok (.aload_n 0, 1) := by decide +kernel
theorem dS_begin_16 : decode cS_begin 16 = .ok (.iconst 0, 1) := by decide +kernel
theorem dS_begin_17 : decode cS_begin 17 = .ok (.putfield 36, 3) := by decide +kernel
theorem dS_begin_20 : decode cS_begin 20 = .ok (.aload_n 0, 1) := by decide +kernel
theorem dS_begin_21 : decode cS_begin 21 = .ok (.iconst 0, 1) := by decide +kernel
theorem dS_begin_22 : decode cS_begin 22 = .ok (.putfield 39, 3) := by decide +kernel
theorem dS_begin_25 : decode cS_begin 25 = .ok (.iconst 0, 1) := by decide +kernel
theorem dS_begin_26 : decode cS_begin 26 = .ok (.istore_n 2, 1) := by decide +kernel
theorem dS_begin_27 : decode cS_begin 27 = .ok (.iload_n 2, 1) := by decide +kernel
theorem dS_begin_28 : decode cS_begin 28 = .ok (.sipush 400, 3) := by decide +kernel
theorem dS_begin_31 : decode cS_begin 31 = .ok (.if_icmp .ge 49, 3) := by decide +kernel
theorem dS_begin_34 : decode cS_begin 34 = .ok (.aload_n 1, 1) := by decide +kernel
theorem dS_begin_35 : decode cS_begin 35 = .ok (.iload_n 2, 1) := by decide +kernel
theorem dS_begin_36 : decode cS_begin 36 = .ok (.aaload, 1) := by decide +kernel
theorem dS_begin_37 : decode cS_begin 37 = .ok (.astore_n 3, 1) := by decide +kernel
theorem dS_begin_38 : decode cS_begin 38 = .ok (.aload_n 3, 1) := by decide +kernel
theorem dS_begin_39 : decode cS_begin 39 = .ok (.ifnull 35, 3) := by decide +kernel
theorem dS_begin_42 : decode cS_begin 42 = .ok (.aload_n 3, 1) := by decide +kernel
theorem dS_begin_43 : decode cS_begin 43 = .ok (.getfield 42, 3) := by decide +kernel
theorem dS_begin_46 : decode cS_begin 46 = .ok (.iload_n 2, 1) := by decide +kernel
theorem dS_begin_47 : decode cS_begin 47 = .ok (.if_icmp .ne 27, 3) := by decide +kernel
theorem dS_begin_50 : decode cS_begin 50 = .ok (.aload_n 3, 1) := by decide +kernel
theorem dS_begin_51 : decode cS_begin 51 = .ok (.invokevirtual 45, 3) := by decide +kernel
theorem dS_begin_54 : decode cS_begin 54 = .ok (.aload_n 0, 1) := by decide +kernel
theorem dS_begin_55 : decode cS_begin 55 = .ok (.getfield 11, 3) := by decide +kernel
theorem dS_begin_58 : decode cS_begin 58 = .ok (.aload_n 0, 1) := by decide +kernel
theorem dS_begin_59 : decode cS_begin 59 = .ok (.getfield 26, 3) := by decide +kernel
theorem dS_begin_62 : decode cS_begin 62 = .ok (.aload_n 3, 1) := by decide +kernel
theorem dS_begin_63 : decode cS_begin 63 = .ok (.aastore, 1) := by decide +kernel
theorem dS_begin_64 : decode cS_begin 64 = .ok (.aload_n 0, 1) := by decide +kernel
theorem dS_begin_65 : decode cS_begin 65 = .ok (.dup, 1) := by decide +kernel
theorem dS_begin_66 : decode cS_begin 66 = .ok (.getfield 26, 3) := by decide +kernel
theorem dS_begin_69 : decode cS_begin 69 = .ok (.iconst 1, 1) := by decide +kernel
theorem dS_begin_70 : decode cS_begin 70 = .ok (.iadd, 1) := by decide +kernel
theorem dS_begin_71 : decode cS_begin 71 = .ok (.putfield 26, 3) := by decide +kernel
theorem dS_begin_74 : decode cS_begin 74 = .ok (.iinc 2 1, 3) := by decide +kernel
theorem dS_begin_77 : decode cS_begin 77 = .ok (.goto (-50), 3) := by decide +kernel
theorem dS_begin_80 : decode cS_begin 80 = .ok (.return_, 1) := by decide +kernel
theorem dS_findHit_0 : decode cS_findHit 0 = .ok (.iconst 0, 1) := by decide +kernel
theorem dS_findHit_1 : decode cS_findHit 1 = .ok (.istore_n 2, 1) := by decide +kernel
theorem dS_findHit_2 : decode cS_findHit 2 = .ok (.iload_n 2, 1) := by decide +kernel
theorem dS_findHit_3 : decode cS_findHit 3 = .ok (.aload_n 0, 1) := by decide +kernel
theorem dS_findHit_4 : decode cS_findHit 4 = .ok (.getfield 26, 3) := by decide +kernel
theorem dS_findHit_7 : decode cS_findHit 7 = .ok (.if_icmp .ge 37, 3) := by decide +kernel
theorem dS_findHit_10 : decode cS_findHit 10 = .ok (.aload_n 0, 1) := by decide +kernel
theorem dS_findHit_11 : decode cS_findHit 11 = .ok (.getfield 11, 3) := by decide +kernel
theorem dS_findHit_14 : decode cS_findHit 14 = .ok (.iload_n 2, 1) := by decide +kernel
theorem dS_findHit_15 : decode cS_findHit 15 = .ok (.aaload, 1) := by decide +kernel
theorem dS_findHit_16 : decode cS_findHit 16 = .ok (.astore_n 3, 1) := by decide +kernel
theorem dS_findHit_17 : decode cS_findHit 17 = .ok (.aload_n 3, 1) := by decide +kernel
theorem dS_findHit_18 : decode cS_findHit 18 = .ok (.aload_n 1, 1) := by decide +kernel
theorem dS_findHit_19 : decode cS_findHit 19 = .ok (.invokevirtual 48, 3) := by decide +kernel
theorem dS_findHit_22 : decode cS_findHit 22 = .ok (.ifCond .ne 11, 3) := by decide +kernel
theorem dS_findHit_25 : decode cS_findHit 25 = .ok (.aload_n 3, 1) := by decide +kernel
theorem dS_findHit_26 : decode cS_findHit 26 = .ok (.aload_n 1, 1) := by decide +kernel
theorem dS_findHit_27 : decode cS_findHit 27 = .ok (.invokevirtual 52, 3) := by decide +kernel
theorem dS_findHit_30 : decode cS_findHit 30 = .ok (.ifCond .eq 8, 3) := by decide +kernel
theorem dS_findHit_33 : decode cS_findHit 33 = .ok (.aload_n 0, 1) := by decide +kernel
theorem dS_findHit_34 : decode cS_findHit 34 = .ok (.aload_n 3, 1) := by decide +kernel
theorem dS_findHit_35 : decode cS_findHit 35 = .ok (.invokevirtual 55, 3) := by decide +kernel
theorem dS_findHit_38 : decode cS_findHit 38 = .ok (.iinc 2 1, 3) := by decide +kernel
theorem dS_findHit_41 : decode cS_findHit 41 = .ok (.goto (-39), 3) := by decide +kernel
theorem dS_findHit_44 : decode cS_findHit 44 = .ok (.iconst 0, 1) := by decide +kernel
theorem dS_findHit_45 : decode cS_findHit 45 = .ok (.istore_n 2, 1) := by decide +kernel
theorem dS_findHit_46 : decode cS_findHit 46 = .ok (.iload_n 2, 1) := by decide +kernel
theorem dS_findHit_47 : decode cS_findHit 47 = .ok (.sipush 400, 3) := by decide +kernel
theorem dS_findHit_50 : decode cS_findHit 50 = .ok (.if_icmp .ge 27, 3) := by decide +kernel
theorem dS_findHit_53 : decode cS_findHit 53 = .ok (.iload_n 2, 1) := by decide +kernel
theorem dS_findHit_54 : decode cS_findHit 54 = .ok (.aload_n 0, 1) := by decide +kernel
theorem dS_findHit_55 : decode cS_findHit 55 = .ok (.getfield 30, 3) := by decide +kernel
theorem dS_findHit_58 : decode cS_findHit 58 = .ok (.if_icmp .ge 19, 3) := by decide +kernel
theorem dS_findHit_61 : decode cS_findHit 61 = .ok (.aload_n 0, 1) := by decide +kernel
theorem dS_findHit_62 : decode cS_findHit 62 = .ok (.aload_n 0, 1) := by decide +kernel
theorem dS_findHit_63 : decode cS_findHit 63 = .ok (.getfield 17, 3) := by decide +kernel
theorem dS_findHit_66 : decode cS_findHit 66 = .ok (.iload_n 2, 1) := by decide +kernel
theorem dS_findHit_67 : decode cS_findHit 67 = .ok (.aaload, 1) := by decide +kernel
theorem dS_findHit_68 : decode cS_findHit 68 = .ok (.invokevirtual 59, 3) := by decide +kernel
theorem dS_findHit_71 : decode cS_findHit 71 = .ok (.iinc 2 1, 3) := by decide +kernel
theorem dS_findHit_74 : decode cS_findHit 74 = .ok (.goto (-28), 3) := by decide +kernel
theorem dS_findHit_77 : decode cS_findHit 77 = .ok (.return_, 1) := by decide +kernel
theorem dS_hitAllThatHangOn_0 : decode cS_hitAllThatHangOn 0 = .ok (.iconst 0, 1) := by decide +kernel
theorem dS_hitAllThatHangOn_1 : decode cS_hitAllThatHangOn 1 = .ok (.istore_n 2, 1) := by decide +kernel
theorem dS_hitAllThatHangOn_2 : decode cS_hitAllThatHangOn 2 = .ok (.iload_n 2, 1) := by decide +kernel
theorem dS_hitAllThatHangOn_3 : decode cS_hitAllThatHangOn 3 = .ok (.aload_n 0, 1) := by decide +kernel
theorem dS_hitAllThatHangOn_4 : decode cS_hitAllThatHangOn 4 = .ok (.getfield 26, 3) := by decide +kernel
theorem dS_hitAllThatHangOn_7 : decode cS_hitAllThatHangOn 7 = .ok (.if_icmp .ge 36, 3) := by decide +kernel
theorem dS_hitAllThatHangOn_10 : decode cS_hitAllThatHangOn 10 = .ok (.aload_n 0, 1) := by decide +kernel
theorem dS_hitAllThatHangOn_11 : decode cS_hitAllThatHangOn 11 = .ok (.getfield 11, 3) := by decide +kernel
theorem dS_hitAllThatHangOn_14 : decode cS_hitAllThatHangOn 14 = .ok (.iload_n 2, 1) := by decide +kernel
theorem dS_hitAllThatHangOn_15 : decode cS_hitAllThatHangOn 15 = .ok (.aaload, 1) := by decide +kernel
theorem dS_hitAllThatHangOn_16 : decode cS_hitAllThatHangOn 16 = .ok (.astore_n 3, 1) := by decide +kernel
theorem dS_hitAllThatHangOn_17 : decode cS_hitAllThatHangOn 17 = .ok (.aload_n 3, 1) := by decide +kernel
theorem dS_hitAllThatHangOn_18 : decode cS_hitAllThatHangOn 18 = .ok (.getfield 62, 3) := by decide +kernel
theorem dS_hitAllThatHangOn_21 : decode cS_hitAllThatHangOn 21 = .ok (.ifCond .ne 16, 3) := by decide +kernel
theorem dS_hitAllThatHangOn_24 : decode cS_hitAllThatHangOn 24 = .ok (.aload_n 3, 1) := by decide +kernel
theorem dS_hitAllThatHangOn_25 : decode cS_hitAllThatHangOn 25 = .ok (.aload_n 1, 1) := by decide +kernel
theorem dS_hitAllThatHangOn_26 : decode cS_hitAllThatHangOn 26 = .ok (.invokevirtual 66, 3) := by decide +kernel
theorem dS_hitAllThatHangOn_29 : decode cS_hitAllThatHangOn 29 = .ok (.ifCond .eq 8, 3) := by decide +kernel
theorem dS_hitAllThatHangOn_32 : decode cS_hitAllThatHangOn 32 = .ok (.aload_n 0, 1) := by decide +kernel
theorem dS_hitAllThatHangOn_33 : decode cS_hitAllThatHangOn 33 = .ok (.aload_n 3, 1) := by decide +kernel
theorem dS_hitAllThatHangOn_34 : decode cS_hitAllThatHangOn 34 = .ok (.invokevirtual 55, 3) := by decide +kernel
theorem dS_hitAllThatHangOn_37 : decode cS_hitAllThatHangOn 37 = .ok (.iinc 2 1, 3) := by decide +kernel
theorem dS_hitAllThatHangOn_40 : decode cS_hitAllThatHangOn 40 = .ok (.goto (-38), 3) := by decide +kernel
theorem dS_hitAllThatHangOn_43 : decode cS_hitAllThatHangOn 43 = .ok (.return_, 1) := by decide +kernel
theorem dS_addHit_0 : decode cS_addHit 0 = .ok (.aload_n 1, 1) := by decide +kernel
theorem dS_addHit_1 : decode cS_addHit 1 = .ok (.iconst 1, 1) := by decide +kernel
theorem dS_addHit_2 : decode cS_addHit 2 = .ok (.putfield 62, 3) := by decide +kernel
theorem dS_addHit_5 : decode cS_addHit 5 = .ok (.aload_n 0, 1) := by decide +kernel
theorem dS_addHit_6 : decode cS_addHit 6 = .ok (.getfield 17, 3) := by decide +kernel
theorem dS_addHit_9 : decode cS_addHit 9 = .ok (.aload_n 0, 1) := by decide +kernel
theorem dS_addHit_10 : decode cS_addHit 10 = .ok (.getfield 30, 3) := by decide +kernel
theorem dS_addHit_13 : decode cS_addHit 13 = .ok (.aload_n 1, 1) := by decide +kernel
theorem dS_addHit_14 : decode cS_addHit 14 = .ok (.aastore, 1) := by decide +kernel
theorem dS_addHit_15 : decode cS_addHit 15 = .ok (.aload_n 0, 1) := by decide +kernel
theorem dS_addHit_16 : decode cS_addHit 16 = .ok (.dup, 1) := by decide +kernel
theorem dS_addHit_17 : decode cS_addHit 17 = .ok (.getfield 30, 3) := by decide +kernel
theorem dS_addHit_20 : decode cS_addHit 20 = .ok (.iconst 1, 1) := by decide +kernel
theorem dS_addHit_21 : decode cS_addHit 21 = .ok (.iadd, 1) := by decide +kernel
theorem dS_addHit_22 : decode cS_addHit 22 = .ok (.putfield 30, 3) := by decide +kernel
theorem dS_addHit_25 : decode cS_addHit 25 = .ok (.return_, 1) := by decide +kernel
theorem dS_rankHit_0 : decode cS_rankHit 0 = .ok (.iconst 0, 1) := by decide +kernel
theorem dS_rankHit_1 : decode cS_rankHit 1 = .ok (.istore_n 1, 1) := by decide +kernel
theorem dS_rankHit_2 : decode cS_rankHit 2 = .ok (.iload_n 1, 1) := by decide +kernel
theorem dS_rankHit_3 : decode cS_rankHit 3 = .ok (.aload_n 0, 1) := by decide +kernel
theorem dS_rankHit_4 : decode cS_rankHit 4 = .ok (.getfield 30, 3) := by decide +kernel
theorem dS_rankHit_7 : decode cS_rankHit 7 = .ok (.if_icmp .ge 31, 3) := by decide +kernel
theorem dS_rankHit_10 : decode cS_rankHit 10 = .ok (.aload_n 0, 1) := by decide +kernel
theorem dS_rankHit_11 : decode cS_rankHit 11 = .ok (.getfield 17, 3) := by decide +kernel
theorem dS_rankHit_14 : decode cS_rankHit 14 = .ok (.iload_n 1, 1) := by decide +kernel
theorem dS_rankHit_15 : decode cS_rankHit 15 = .ok (.aaload, 1) := by decide +kernel
theorem dS_rankHit_16 : decode cS_rankHit 16 = .ok (.getfield 70, 3) := by decide +kernel
theorem dS_rankHit_19 : decode cS_rankHit 19 = .ok (.ifCond .ne 13, 3) := by decide +kernel
theorem dS_rankHit_22 : decode cS_rankHit 22 = .ok (.aload_n 0, 1) := by decide +kernel
theorem dS_rankHit_23 : decode cS_rankHit 23 = .ok (.aload_n 0, 1) := by decide +kernel
theorem dS_rankHit_24 : decode cS_rankHit 24 = .ok (.getfield 17, 3) := by decide +kernel
theorem dS_rankHit_27 : decode cS_rankHit 27 = .ok (.iload_n 1, 1) := by decide +kernel
theorem dS_rankHit_28 : decode cS_rankHit 28 = .ok (.aaload, 1) := by decide +kernel
theorem dS_rankHit_29 : decode cS_rankHit 29 = .ok (.invokevirtual 73, 3) := by decide +kernel
theorem dS_rankHit_32 : decode cS_rankHit 32 = .ok (.iinc 1 1, 3) := by decide +kernel
theorem dS_rankHit_35 : decode cS_rankHit 35 = .ok (.goto (-33), 3) := by decide +kernel
theorem dS_rankHit_38 : decode cS_rankHit 38 = .ok (.return_, 1) := by decide +kernel
theorem dS_walkFrom_0 : decode cS_walkFrom 0 = .ok (.aload_n 0, 1) := by decide +kernel
theorem dS_walkFrom_1 : decode cS_walkFrom 1 = .ok (.aload_n 1, 1) := by decide +kernel
theorem dS_walkFrom_2 : decode cS_walkFrom 2 = .ok (.invokevirtual 76, 3) := by decide +kernel
theorem dS_walkFrom_5 : decode cS_walkFrom 5 = .ok (.iconst 0, 1) := by decide +kernel
theorem dS_walkFrom_6 : decode cS_walkFrom 6 = .ok (.istore_n 2, 1) := by decide +kernel
theorem dS_walkFrom_7 : decode cS_walkFrom 7 = .ok (.iload_n 2, 1) := by decide +kernel
theorem dS_walkFrom_8 : decode cS_walkFrom 8 = .ok (.sipush 800, 3) := by decide +kernel
theorem dS_walkFrom_11 : decode cS_walkFrom 11 = .ok (.if_icmp .ge 54, 3) := by decide +kernel
theorem dS_walkFrom_14 : decode cS_walkFrom 14 = .ok (.aload_n 0, 1) := by decide +kernel
theorem dS_walkFrom_15 : decode cS_walkFrom 15 = .ok (.getfield 33, 3) := by decide +kernel
theorem dS_walkFrom_18 : decode cS_walkFrom 18 = .ok (.ifCond .le 47, 3) := by decide +kernel
theorem dS_walkFrom_21 : decode cS_walkFrom 21 = .ok (.aload_n 0, 1) := by decide +kernel
theorem dS_walkFrom_22 : decode cS_walkFrom 22 = .ok (.getfield 20, 3) := by decide +kernel
theorem dS_walkFrom_25 : decode cS_walkFrom 25 = .ok (.aload_n 0, 1) := by decide +kernel
theorem dS_walkFrom_26 : decode cS_walkFrom 26 = .ok (.getfield 33, 3) := by decide +kernel
theorem dS_walkFrom_29 : decode cS_walkFrom 29 = .ok (.iconst 1, 1) := by decide +kernel
theorem dS_walkFrom_30 : decode cS_walkFrom 30 = .ok (.isub, 1) := by decide +kernel
theorem dS_walkFrom_31 : decode cS_walkFrom 31 = .ok (.aaload, 1) := by decide +kernel
theorem dS_walkFrom_32 : decode cS_walkFrom 32 = .ok (.astore_n 3, 1) := by decide +kernel
theorem dS_walkFrom_33 : decode cS_walkFrom 33 = .ok (.aload_n 0, 1) := by decide +kernel
theorem dS_walkFrom_34 : decode cS_walkFrom 34 = .ok (.aload_n 3, 1) := by decide +kernel
theorem dS_walkFrom_35 : decode cS_walkFrom 35 = .ok (.invokevirtual 79, 3) := by decide +kernel
theorem dS_walkFrom_38 : decode cS_walkFrom 38 = .ok (.astore 4, 2) := by decide +kernel
theorem dS_walkFrom_40 : decode cS_walkFrom 40 = .ok (.aload 4, 2) := by decide +kernel
theorem dS_walkFrom_42 : decode cS_walkFrom 42 = .ok (.ifnonnull 11, 3) := by decide +kernel
theorem dS_walkFrom_45 : decode cS_walkFrom 45 = .ok (.aload_n 0, 1) := by decide +kernel
theorem dS_walkFrom_46 : decode cS_walkFrom 46 = .ok (.aload_n 3, 1) := by decide +kernel
theorem dS_walkFrom_47 : decode cS_walkFrom 47 = .ok (.invokevirtual 83, 3) := by decide +kernel
theorem dS_walkFrom_50 : decode cS_walkFrom 50 = .ok (.goto 9, 3) := by decide +kernel
theorem dS_walkFrom_53 : decode cS_walkFrom 53 = .ok (.aload_n 0, 1) := by decide +kernel
theorem dS_walkFrom_54 : decode cS_walkFrom 54 = .ok (.aload 4, 2) := by decide +kernel
theorem dS_walkFrom_56 : decode cS_walkFrom 56 = .ok (.invokevirtual 76, 3) := by decide +kernel
theorem dS_walkFrom_59 : decode cS_walkFrom 59 = .ok (.iinc 2 1, 3) := by decide +kernel
theorem dS_walkFrom_62 : decode cS_walkFrom 62 = .ok (.goto (-55), 3) := by decide +kernel
theorem dS_walkFrom_65 : decode cS_walkFrom 65 = .ok (.return_, 1) := by decide +kernel
theorem dS_enter_0 : decode cS_enter 0 = .ok (.aload_n 0, 1) := by decide +kernel
theorem dS_enter_1 : decode cS_enter 1 = .ok (.dup, 1) := by decide +kernel
theorem dS_enter_2 : decode cS_enter 2 = .ok (.getfield 39, 3) := by decide +kernel
theorem dS_enter_5 : decode cS_enter 5 = .ok (.iconst 1, 1) := by decide +kernel
theorem dS_enter_6 : decode cS_enter 6 = .ok (.iadd, 1) := by decide +kernel
theorem dS_enter_7 : decode cS_enter 7 = .ok (.putfield 39, 3) := by decide +kernel
theorem dS_enter_10 : decode cS_enter 10 = .ok (.aload_n 1, 1) := by decide +kernel
theorem dS_enter_11 : decode cS_enter 11 = .ok (.aload_n 0, 1) := by decide +kernel
theorem dS_enter_12 : decode cS_enter 12 = .ok (.getfield 39, 3) := by decide +kernel
theorem dS_enter_15 : decode cS_enter 15 = .ok (.putfield 86, 3) := by decide +kernel
theorem dS_enter_18 : decode cS_enter 18 = .ok (.aload_n 1, 1) := by decide +kernel
theorem dS_enter_19 : decode cS_enter 19 = .ok (.aload_n 0, 1) := by decide +kernel
theorem dS_enter_20 : decode cS_enter 20 = .ok (.getfield 39, 3) := by decide +kernel
theorem dS_enter_23 : decode cS_enter 23 = .ok (.putfield 89, 3) := by decide +kernel
theorem dS_enter_26 : decode cS_enter 26 = .ok (.aload_n 0, 1) := by decide +kernel
theorem dS_enter_27 : decode cS_enter 27 = .ok (.getfield 20, 3) := by decide +kernel
theorem dS_enter_30 : decode cS_enter 30 = .ok (.aload_n 0, 1) := by decide +kernel
theorem dS_enter_31 : decode cS_enter 31 = .ok (.getfield 33, 3) := by decide +kernel
theorem dS_enter_34 : decode cS_enter 34 = .ok (.aload_n 1, 1) := by decide +kernel
theorem dS_enter_35 : decode cS_enter 35 = .ok (.aastore, 1) := by decide +kernel
theorem dS_enter_36 : decode cS_enter 36 = .ok (.aload_n 0, 1) := by decide +kernel
theorem dS_enter_37 : decode cS_enter 37 = .ok (.dup, 1) := by decide +kernel
theorem dS_enter_38 : decode cS_enter 38 = .ok (.getfield 33, 3) := by decide +kernel
theorem dS_enter_41 : decode cS_enter 41 = .ok (.iconst 1, 1) := by decide +kernel
theorem dS_enter_42 : decode cS_enter 42 = .ok (.iadd, 1) := by decide +kernel
theorem dS_enter_43 : decode cS_enter 43 = .ok (.putfield 33, 3) := by decide +kernel
theorem dS_enter_46 : decode cS_enter 46 = .ok (.aload_n 0, 1) := by decide +kernel
theorem dS_enter_47 : decode cS_enter 47 = .ok (.getfield 23, 3) := by decide +kernel
theorem dS_enter_50 : decode cS_enter 50 = .ok (.aload_n 0, 1) := by decide +kernel
theorem dS_enter_51 : decode cS_enter 51 = .ok (.getfield 36, 3) := by decide +kernel
theorem dS_enter_54 : decode cS_enter 54 = .ok (.aload_n 1, 1) := by decide +kernel
theorem dS_enter_55 : decode cS_enter 55 = .ok (.aastore, 1) := by decide +kernel
theorem dS_enter_56 : decode cS_enter 56 = .ok (.aload_n 0, 1) := by decide +kernel
theorem dS_enter_57 : decode cS_enter 57 = .ok (.dup, 1) := by decide +kernel
theorem dS_enter_58 : decode cS_enter 58 = .ok (.getfield 36, 3) := by decide +kernel
theorem dS_enter_61 : decode cS_enter 61 = .ok (.iconst 1, 1) := by decide +kernel
theorem dS_enter_62 : decode cS_enter 62 = .ok (.iadd, 1) := by decide +kernel
theorem dS_enter_63 : decode cS_enter 63 = .ok (.putfield 36, 3) := by decide +kernel
theorem dS_enter_66 : decode cS_enter 66 = .ok (.return_, 1) := by decide +kernel
theorem dS_nextBelow_0 : decode cS_nextBelow 0 = .ok (.aload_n 1, 1) := by decide +kernel
theorem dS_nextBelow_1 : decode cS_nextBelow 1 = .ok (.getfield 92, 3) := by decide +kernel
theorem dS_nextBelow_4 : decode cS_nextBelow 4 = .ok (.istore_n 2, 1) := by decide +kernel
theorem dS_nextBelow_5 : decode cS_nextBelow 5 = .ok (.iload_n 2, 1) := by decide +kernel
theorem dS_nextBelow_6 : decode cS_nextBelow 6 = .ok (.aload_n 0, 1) := by decide +kernel
theorem dS_nextBelow_7 : decode cS_nextBelow 7 = .ok (.getfield 30, 3) := by decide +kernel
theorem dS_nextBelow_10 : decode cS_nextBelow 10 = .ok (.if_icmp .ge 65, 3) := by decide +kernel
theorem dS_nextBelow_13 : decode cS_nextBelow 13 = .ok (.aload_n 0, 1) := by decide +kernel
theorem dS_nextBelow_14 : decode cS_nextBelow 14 = .ok (.getfield 17, 3) := by decide +kernel
theorem dS_nextBelow_17 : decode cS_nextBelow 17 = .ok (.iload_n 2, 1) := by decide +kernel
theorem dS_nextBelow_18 : decode cS_nextBelow 18 = .ok (.aaload, 1) := by decide +kernel
theorem dS_nextBelow_19 : decode cS_nextBelow 19 = .ok (.astore_n 3, 1) := by decide +kernel
theorem dS_nextBelow_20 : decode cS_nextBelow 20 = .ok (.aload_n 3, 1) := by decide +kernel
theorem dS_nextBelow_21 : decode cS_nextBelow 21 = .ok (.getfield 70, 3) := by decide +kernel
theorem dS_nextBelow_24 : decode cS_nextBelow 24 = .ok (.ifCond .ne 45, 3) := by decide +kernel
theorem dS_nextBelow_27 : decode cS_nextBelow 27 = .ok (.aload_n 1, 1) := by decide +kernel
theorem dS_nextBelow_28 : decode cS_nextBelow 28 = .ok (.aload_n 3, 1) := by decide +kernel
theorem dS_nextBelow_29 : decode cS_nextBelow 29 = .ok (.invokevirtual 66, 3) := by decide +kernel
theorem dS_nextBelow_32 : decode cS_nextBelow 32 = .ok (.ifCond .ne 6, 3) := by decide +kernel
theorem dS_nextBelow_35 : decode cS_nextBelow 35 = .ok (.goto 34, 3) := by decide +kernel
theorem dS_nextBelow_38 : decode cS_nextBelow 38 = .ok (.aload_n 3, 1) := by decide +kernel
theorem dS_nextBelow_39 : decode cS_nextBelow 39 = .ok (.getfield 86, 3) := by decide +kernel
theorem dS_nextBelow_42 : decode cS_nextBelow 42 = .ok (.ifCond .ne 12, 3) := by decide +kernel
theorem dS_nextBelow_45 : decode cS_nextBelow 45 = .ok (.aload_n 1, 1) := by decide +kernel
theorem dS_nextBelow_46 : decode cS_nextBelow 46 = .ok (.iload_n 2, 1) := by decide +kernel
theorem dS_nextBelow_47 : decode cS_nextBelow 47 = .ok (.iconst 1, 1) := by decide +kernel
theorem dS_nextBelow_48 : decode cS_nextBelow 48 = .ok (.iadd, 1) := by decide +kernel
theorem dS_nextBelow_49 : decode cS_nextBelow 49 = .ok (.putfield 92, 3) := by decide +kernel
theorem dS_nextBelow_52 : decode cS_nextBelow 52 = .ok (.aload_n 3, 1) := by decide +kernel
theorem dS_nextBelow_53 : decode cS_nextBelow 53 = .ok (.areturn, 1) := by decide +kernel
theorem dS_nextBelow_54 : decode cS_nextBelow 54 = .ok (.aload_n 1, 1) := by decide +kernel
theorem dS_nextBelow_55 : decode cS_nextBelow 55 = .ok (.aload_n 1, 1) := by decide +kernel
theorem dS_nextBelow_56 : decode cS_nextBelow 56 = .ok (.getfield 89, 3) := by decide +kernel
theorem dS_nextBelow_59 : decode cS_nextBelow 59 = .ok (.aload_n 3, 1) := by decide +kernel
theorem dS_nextBelow_60 : decode cS_nextBelow 60 = .ok (.getfield 86, 3) := by decide +kernel
theorem dS_nextBelow_63 : decode cS_nextBelow 63 = .ok (.invokestatic 95, 3) := by decide +kernel
theorem dS_nextBelow_66 : decode cS_nextBelow 66 = .ok (.putfield 89, 3) := by decide +kernel
theorem dS_nextBelow_69 : decode cS_nextBelow 69 = .ok (.iinc 2 1, 3) := by decide +kernel
theorem dS_nextBelow_72 : decode cS_nextBelow 72 = .ok (.goto (-67), 3) := by decide +kernel
theorem dS_nextBelow_75 : decode cS_nextBelow 75 = .ok (.aload_n 1, 1) := by decide +kernel
theorem dS_nextBelow_76 : decode cS_nextBelow 76 = .ok (.aload_n 0, 1) := by decide +kernel
theorem dS_nextBelow_77 : decode cS_nextBelow 77 = .ok (.getfield 30, 3) := by decide +kernel
theorem dS_nextBelow_80 : decode cS_nextBelow 80 = .ok (.putfield 92, 3) := by decide +kernel
theorem dS_nextBelow_83 : decode cS_nextBelow 83 = .ok (.aconst_null, 1) := by decide +kernel
theorem dS_nextBelow_84 : decode cS_nextBelow 84 = .ok (.areturn, 1) := by decide +kernel
theorem dS_leave_0 : decode cS_leave 0 = .ok (.aload_n 0, 1) := by decide +kernel
theorem dS_leave_1 : decode cS_leave 1 = .ok (.dup, 1) := by decide +kernel
theorem dS_leave_2 : decode cS_leave 2 = .ok (.getfield 33, 3) := by decide +kernel
theorem dS_leave_5 : decode cS_leave 5 = .ok (.iconst 1, 1) := by decide +kernel
theorem dS_leave_6 : decode cS_leave 6 = .ok (.isub, 1) := by decide +kernel
theorem dS_leave_7 : decode cS_leave 7 = .ok (.putfield 33, 3) := by decide +kernel
theorem dS_leave_10 : decode cS_leave 10 = .ok (.aload_n 0, 1) := by decide +kernel
theorem dS_leave_11 : decode cS_leave 11 = .ok (.getfield 33, 3) := by decide +kernel
theorem dS_leave_14 : decode cS_leave 14 = .ok (.ifCond .le 30, 3) := by decide +kernel
theorem dS_leave_17 : decode cS_leave 17 = .ok (.aload_n 0, 1) := by decide +kernel
theorem dS_leave_18 : decode cS_leave 18 = .ok (.getfield 20, 3) := by decide +kernel
theorem dS_leave_21 : decode cS_leave 21 = .ok (.aload_n 0, 1) := by decide +kernel
theorem dS_leave_22 : decode cS_leave 22 = .ok (.getfield 33, 3) := by decide +kernel
theorem dS_leave_25 : decode cS_leave 25 = .ok (.iconst 1, 1) := by decide +kernel
theorem dS_leave_26 : decode cS_leave 26 = .ok (.isub, 1) := by decide +kernel
theorem dS_leave_27 : decode cS_leave 27 = .ok (.aaload, 1) := by decide +kernel
theorem dS_leave_28 : decode cS_leave 28 = .ok (.astore_n 2, 1) := by decide +kernel
theorem dS_leave_29 : decode cS_leave 29 = .ok (.aload_n 2, 1) := by decide +kernel
theorem dS_leave_30 : decode cS_leave 30 = .ok (.aload_n 2, 1) := by decide +kernel
theorem dS_leave_31 : decode cS_leave 31 = .ok (.getfield 89, 3) := by decide +kernel
theorem dS_leave_34 : decode cS_leave 34 = .ok (.aload_n 1, 1) := by decide +kernel
theorem dS_leave_35 : decode cS_leave 35 = .ok (.getfield 89, 3) := by decide +kernel
theorem dS_leave_38 : decode cS_leave 38 = .ok (.invokestatic 95, 3) := by decide +kernel
theorem dS_leave_41 : decode cS_leave 41 = .ok (.putfield 89, 3) := by decide +kernel
theorem dS_leave_44 : decode cS_leave 44 = .ok (.aload_n 1, 1) := by decide +kernel
theorem dS_leave_45 : decode cS_leave 45 = .ok (.getfield 89, 3) := by decide +kernel
theorem dS_leave_48 : decode cS_leave 48 = .ok (.aload_n 1, 1) := by decide +kernel
theorem dS_leave_49 : decode cS_leave 49 = .ok (.getfield 86, 3) := by decide +kernel
theorem dS_leave_52 : decode cS_leave 52 = .ok (.if_icmp .ne 8, 3) := by decide +kernel
theorem dS_leave_55 : decode cS_leave 55 = .ok (.aload_n 0, 1) := by decide +kernel
theorem dS_leave_56 : decode cS_leave 56 = .ok (.aload_n 1, 1) := by decide +kernel
theorem dS_leave_57 : decode cS_leave 57 = .ok (.invokevirtual 101, 3) := by decide +kernel
theorem dS_leave_60 : decode cS_leave 60 = .ok (.return_, 1) := by decide +kernel
theorem dS_closeGroup_0 : decode cS_closeGroup 0 = .ok (.aload_n 0, 1) := by decide +kernel
theorem dS_closeGroup_1 : decode cS_closeGroup 1 = .ok (.getfield 36, 3) := by decide +kernel
theorem dS_closeGroup_4 : decode cS_closeGroup 4 = .ok (.ifCond .le 22, 3) := by decide +kernel
theorem dS_closeGroup_7 : decode cS_closeGroup 7 = .ok (.aload_n 0, 1) := by decide +kernel
theorem dS_closeGroup_8 : decode cS_closeGroup 8 = .ok (.getfield 23, 3) := by decide +kernel
theorem dS_closeGroup_11 : decode cS_closeGroup 11 = .ok (.aload_n 0, 1) := by decide +kernel
theorem dS_closeGroup_12 : decode cS_closeGroup 12 = .ok (.getfield 36, 3) := by decide +kernel
theorem dS_closeGroup_15 : decode cS_closeGroup 15 = .ok (.iconst 1, 1) := by decide +kernel
theorem dS_closeGroup_16 : decode cS_closeGroup 16 = .ok (.isub, 1) := by decide +kernel
theorem dS_closeGroup_17 : decode cS_closeGroup 17 = .ok (.aaload, 1) := by decide +kernel
theorem dS_closeGroup_18 : decode cS_closeGroup 18 = .ok (.aload_n 1, 1) := by decide +kernel
theorem dS_closeGroup_19 : decode cS_closeGroup 19 = .ok (.if_acmp .ne 7, 3) := by decide +kernel
theorem dS_closeGroup_22 : decode cS_closeGroup 22 = .ok (.iconst 1, 1) := by decide +kernel
theorem dS_closeGroup_23 : decode cS_closeGroup 23 = .ok (.goto 4, 3) := by decide +kernel
theorem dS_closeGroup_26 : decode cS_closeGroup 26 = .ok (.iconst 0, 1) := by decide +kernel
theorem dS_closeGroup_27 : decode cS_closeGroup 27 = .ok (.istore_n 2, 1) := by decide +kernel
theorem dS_closeGroup_28 : decode cS_closeGroup 28 = .ok (.iload_n 2, 1) := by decide +kernel
theorem dS_closeGroup_29 : decode cS_closeGroup 29 = .ok (.ifCond .eq 38, 3) := by decide +kernel
theorem dS_closeGroup_32 : decode cS_closeGroup 32 = .ok (.aload_n 1, 1) := by decide +kernel
theorem dS_closeGroup_33 : decode cS_closeGroup 33 = .ok (.aload_n 1, 1) := by decide +kernel
theorem dS_closeGroup_34 : decode cS_closeGroup 34 = .ok (.invokevirtual 66, 3) := by decide +kernel
theorem dS_closeGroup_37 : decode cS_closeGroup 37 = .ok (.ifCond .ne 30, 3) := by decide +kernel
theorem dS_closeGroup_40 : decode cS_closeGroup 40 = .ok (.aload_n 1, 1) := by decide +kernel
theorem dS_closeGroup_41 : decode cS_closeGroup 41 = .ok (.iconst 1, 1) := by decide +kernel
theorem dS_closeGroup_42 : decode cS_closeGroup 42 = .ok (.aload_n 0, 1) := by decide +kernel
theorem dS_closeGroup_43 : decode cS_closeGroup 43 = .ok (.aload_n 1, 1) := by decide +kernel
theorem dS_closeGroup_44 : decode cS_closeGroup 44 = .ok (.invokevirtual 104, 3) := by decide +kernel
theorem dS_closeGroup_47 : decode cS_closeGroup 47 = .ok (.iadd, 1) := by decide +kernel
theorem dS_closeGroup_48 : decode cS_closeGroup 48 = .ok (.putfield 108, 3) := by decide +kernel
theorem dS_closeGroup_51 : decode cS_closeGroup 51 = .ok (.aload_n 1, 1) := by decide +kernel
theorem dS_closeGroup_52 : decode cS_closeGroup 52 = .ok (.iconst 1, 1) := by decide +kernel
theorem dS_closeGroup_53 : decode cS_closeGroup 53 = .ok (.putfield 70, 3) := by decide +kernel
theorem dS_closeGroup_56 : decode cS_closeGroup 56 = .ok (.aload_n 0, 1) := by decide +kernel
theorem dS_closeGroup_57 : decode cS_closeGroup 57 = .ok (.dup, 1) := by decide +kernel
theorem dS_closeGroup_58 : decode cS_closeGroup 58 = .ok (.getfield 36, 3) := by decide +kernel
theorem dS_closeGroup_61 : decode cS_closeGroup 61 = .ok (.iconst 1, 1) := by decide +kernel
theorem dS_closeGroup_62 : decode cS_closeGroup 62 = .ok (.isub, 1) := by decide +kernel
theorem dS_closeGroup_63 : decode cS_closeGroup 63 = .ok (.putfield 36, 3) := by decide +kernel
theorem dS_closeGroup_66 : decode cS_closeGroup 66 = .ok (.return_, 1) := by decide +kernel
theorem dS_closeGroup_67 : decode cS_closeGroup 67 = .ok (.aload_n 0, 1) := by decide +kernel
theorem dS_closeGroup_68 : decode cS_closeGroup 68 = .ok (.getfield 36, 3) := by decide +kernel
theorem dS_closeGroup_71 : decode cS_closeGroup 71 = .ok (.ifCond .le 63, 3) := by decide +kernel
theorem dS_closeGroup_74 : decode cS_closeGroup 74 = .ok (.aload_n 0, 1) := by decide +kernel
theorem dS_closeGroup_75 : decode cS_closeGroup 75 = .ok (.getfield 23, 3) := by decide +kernel
theorem dS_closeGroup_78 : decode cS_closeGroup 78 = .ok (.aload_n 0, 1) := by decide +kernel
theorem dS_closeGroup_79 : decode cS_closeGroup 79 = .ok (.getfield 36, 3) := by decide +kernel
theorem dS_closeGroup_82 : decode cS_closeGroup 82 = .ok (.iconst 1, 1) := by decide +kernel
theorem dS_closeGroup_83 : decode cS_closeGroup 83 = .ok (.isub, 1) := by decide +kernel
theorem dS_closeGroup_84 : decode cS_closeGroup 84 = .ok (.aaload, 1) := by decide +kernel
theorem dS_closeGroup_85 : decode cS_closeGroup 85 = .ok (.getfield 86, 3) := by decide +kernel
theorem dS_closeGroup_88 : decode cS_closeGroup 88 = .ok (.aload_n 1, 1) := by decide +kernel
theorem dS_closeGroup_89 : decode cS_closeGroup 89 = .ok (.getfield 86, 3) := by decide +kernel
theorem dS_closeGroup_92 : decode cS_closeGroup 92 = .ok (.if_icmp .lt 42, 3) := by decide +kernel
theorem dS_closeGroup_95 : decode cS_closeGroup 95 = .ok (.aload_n 0, 1) := by decide +kernel
theorem dS_closeGroup_96 : decode cS_closeGroup 96 = .ok (.dup, 1) := by decide +kernel
theorem dS_closeGroup_97 : decode cS_closeGroup 97 = .ok (.getfield 36, 3) := by decide +kernel
theorem dS_closeGroup_100 : decode cS_closeGroup 100 = .ok (.iconst 1, 1) := by decide +kernel
theorem dS_closeGroup_101 : decode cS_closeGroup 101 = .ok (.isub, 1) := by decide +kernel
theorem dS_closeGroup_102 : decode cS_closeGroup 102 = .ok (.putfield 36, 3) := by decide +kernel
theorem dS_closeGroup_105 : decode cS_closeGroup 105 = .ok (.aload_n 0, 1) := by decide +kernel
theorem dS_closeGroup_106 : decode cS_closeGroup 106 = .ok (.getfield 23, 3) := by decide +kernel
theorem dS_closeGroup_109 : decode cS_closeGroup 109 = .ok (.aload_n 0, 1) := by decide +kernel
theorem dS_closeGroup_110 : decode cS_closeGroup 110 = .ok (.getfield 36, 3) := by decide +kernel
theorem dS_closeGroup_113 : decode cS_closeGroup 113 = .ok (.aaload, 1) := by decide +kernel
theorem dS_closeGroup_114 : decode cS_closeGroup 114 = .ok (.iconst 1, 1) := by decide +kernel
theorem dS_closeGroup_115 : decode cS_closeGroup 115 = .ok (.putfield 111, 3) := by decide +kernel
theorem dS_closeGroup_118 : decode cS_closeGroup 118 = .ok (.aload_n 0, 1) := by decide +kernel
theorem dS_closeGroup_119 : decode cS_closeGroup 119 = .ok (.getfield 23, 3) := by decide +kernel
theorem dS_closeGroup_122 : decode cS_closeGroup 122 = .ok (.aload_n 0, 1) := by decide +kernel
theorem dS_closeGroup_123 : decode cS_closeGroup 123 = .ok (.getfield 36, 3) := by decide +kernel
theorem dS_closeGroup_126 : decode cS_closeGroup 126 = .ok (.aaload, 1) := by decide +kernel
theorem dS_closeGroup_127 : decode cS_closeGroup 127 = .ok (.iconst 1, 1) := by decide +kernel
theorem dS_closeGroup_128 : decode cS_closeGroup 128 = .ok (.putfield 70, 3) := by decide +kernel
theorem dS_closeGroup_131 : decode cS_closeGroup 131 = .ok (.goto (-64), 3) := by decide +kernel
theorem dS_closeGroup_134 : decode cS_closeGroup 134 = .ok (.return_, 1) := by decide +kernel
theorem dS_greatestRankBelow_0 : decode cS_greatestRankBelow 0 = .ok (.iconst 0, 1) := by decide +kernel
theorem dS_greatestRankBelow_1 : decode cS_greatestRankBelow 1 = .ok (.istore_n 2, 1) := by decide +kernel
theorem dS_greatestRankBelow_2 : decode cS_greatestRankBelow 2 = .ok (.iconst 0, 1) := by decide +kernel
theorem dS_greatestRankBelow_3 : decode cS_greatestRankBelow 3 = .ok (.istore_n 3, 1) := by decide +kernel
theorem dS_greatestRankBelow_4 : decode cS_greatestRankBelow 4 = .ok (.iload_n 3, 1) := by decide +kernel
theorem dS_greatestRankBelow_5 : decode cS_greatestRankBelow 5 = .ok (.aload_n 0, 1) := by decide +kernel
theorem dS_greatestRankBelow_6 : decode cS_greatestRankBelow 6 = .ok (.getfield 30, 3) := by decide +kernel
theorem dS_greatestRankBelow_9 : decode cS_greatestRankBelow 9 = .ok (.if_icmp .ge 36, 3) := by decide +kernel
theorem dS_greatestRankBelow_12 : decode cS_greatestRankBelow 12 = .ok (.aload_n 1, 1) := by decide +kernel
theorem dS_greatestRankBelow_13 : decode cS_greatestRankBelow 13 = .ok (.aload_n 0, 1) := by decide +kernel
theorem dS_greatestRankBelow_14 : decode cS_greatestRankBelow 14 = .ok (.getfield 17, 3) := by decide +kernel
theorem dS_greatestRankBelow_17 : decode cS_greatestRankBelow 17 = .ok (.iload_n 3, 1) := by decide +kernel
theorem dS_greatestRankBelow_18 : decode cS_greatestRankBelow 18 = .ok (.aaload, 1) := by decide +kernel
theorem dS_greatestRankBelow_19 : decode cS_greatestRankBelow 19 = .ok (.invokevirtual 66, 3) := by decide +kernel
theorem dS_greatestRankBelow_22 : decode cS_greatestRankBelow 22 = .ok (.ifCond .eq 17, 3) := by decide +kernel
theorem dS_greatestRankBelow_25 : decode cS_greatestRankBelow 25 = .ok (.iload_n 2, 1) := by decide +kernel
theorem dS_greatestRankBelow_26 : decode cS_greatestRankBelow 26 = .ok (.aload_n 0, 1) := by decide +kernel
theorem dS_greatestRankBelow_27 : decode cS_greatestRankBelow 27 = .ok (.getfield 17, 3) := by decide +kernel
theorem dS_greatestRankBelow_30 : decode cS_greatestRankBelow 30 = .ok (.iload_n 3, 1) := by decide +kernel
theorem dS_greatestRankBelow_31 : decode cS_greatestRankBelow 31 = .ok (.aaload, 1) := by decide +kernel
theorem dS_greatestRankBelow_32 : decode cS_greatestRankBelow 32 = .ok (.getfield 108, 3) := by decide +kernel
theorem dS_greatestRankBelow_35 : decode cS_greatestRankBelow 35 = .ok (.invokestatic 114, 3) := by decide +kernel
theorem dS_greatestRankBelow_38 : decode cS_greatestRankBelow 38 = .ok (.istore_n 2, 1) := by decide +kernel
theorem dS_greatestRankBelow_39 : decode cS_greatestRankBelow 39 = .ok (.iinc 3 1, 3) := by decide +kernel
theorem dS_greatestRankBelow_42 : decode cS_greatestRankBelow 42 = .ok (.goto (-38), 3) := by decide +kernel
theorem dS_greatestRankBelow_45 : decode cS_greatestRankBelow 45 = .ok (.iload_n 2, 1) := by decide +kernel
theorem dS_greatestRankBelow_46 : decode cS_greatestRankBelow 46 = .ok (.ireturn, 1) := by decide +kernel
theorem dA_fill_0 : decode cA_fill 0 = .ok (.iconst 0, 1) := by decide +kernel
theorem dA_fill_1 : decode cA_fill 1 = .ok (.istore_n 2, 1) := by decide +kernel
theorem dA_fill_2 : decode cA_fill 2 = .ok (.aload_n 0, 1) := by decide +kernel
theorem dA_fill_3 : decode cA_fill 3 = .ok (.arraylength, 1) := by decide +kernel
theorem dA_fill_4 : decode cA_fill 4 = .ok (.istore_n 3, 1) := by decide +kernel
theorem dA_fill_5 : decode cA_fill 5 = .ok (.iload_n 2, 1) := by decide +kernel
theorem dA_fill_6 : decode cA_fill 6 = .ok (.iload_n 3, 1) := by decide +kernel
theorem dA_fill_7 : decode cA_fill 7 = .ok (.if_icmp .ge 13, 3) := by decide +kernel
theorem dA_fill_10 : decode cA_fill 10 = .ok (.aload_n 0, 1) := by decide +kernel
theorem dA_fill_11 : decode cA_fill 11 = .ok (.iload_n 2, 1) := by decide +kernel
theorem dA_fill_12 : decode cA_fill 12 = .ok (.iload_n 1, 1) := by decide +kernel
theorem dA_fill_13 : decode cA_fill 13 = .ok (.iastore, 1) := by decide +kernel
theorem dA_fill_14 : decode cA_fill 14 = .ok (.iinc 2 1, 3) := by decide +kernel
theorem dA_fill_17 : decode cA_fill 17 = .ok (.goto (-12), 3) := by decide +kernel
theorem dA_fill_20 : decode cA_fill 20 = .ok (.return_, 1) := by decide +kernel
end
section
/-! decode rows of the reference -/
theorem dM_init_0 : decode cM_init 0 = .ok (.aload_n 0, 1) := by decide +kernel
theorem dM_init_1 : decode cM_init 1 = .ok (.invokespecial 1, 3) := by decide +kernel
theorem dM_init_4 : decode cM_init 4 = .ok (.aload_n 0, 1) := by decide +kernel
theorem dM_init_5 : decode cM_init 5 = .ok (.sipush 400, 3) := by decide +kernel
theorem dM_init_8 : decode cM_init 8 = .ok (.newarray .boolean, 2) := by decide +kernel
theorem dM_init_10 : decode cM_init 10 = .ok (.putfield 7, 3) := by decide +kernel
theorem dM_init_13 : decode cM_init 13 = .ok (.aload_n 0, 1) := by decide +kernel
theorem dM_init_14 : decode cM_init 14 = .ok (.sipush 400, 3) := by decide +kernel
theorem dM_init_17 : decode cM_init 17 = .ok (.newarray .int, 2) := by decide +kernel
theorem dM_init_19 : decode cM_init 19 = .ok (.putfield 13, 3) := by decide +kernel
theorem dM_init_22 : decode cM_init 22 = .ok (.aload_n 0, 1) := by decide +kernel
theorem dM_init_23 : decode cM_init 23 = .ok (.sipush 400, 3) := by decide +kernel
theorem dM_init_26 : decode cM_init 26 = .ok (.newarray .int, 2) := by decide +kernel
theorem dM_init_28 : decode cM_init 28 = .ok (.putfield 17, 3) := by decide +kernel
theorem dM_init_31 : decode cM_init 31 = .ok (.aload_n 0, 1) := by decide +kernel
theorem dM_init_32 : decode cM_init 32 = .ok (.sipush 400, 3) := by decide +kernel
theorem dM_init_35 : decode cM_init 35 = .ok (.newarray .int, 2) := by decide +kernel
theorem dM_init_37 : decode cM_init 37 = .ok (.putfield 20, 3) := by decide +kernel
theorem dM_init_40 : decode cM_init 40 = .ok (.aload_n 0, 1) := by decide +kernel
theorem dM_init_41 : decode cM_init 41 = .ok (.sipush 400, 3) := by decide +kernel
theorem dM_init_44 : decode cM_init 44 = .ok (.bipush 80, 2) := by decide +kernel
theorem dM_init_46 : decode cM_init 46 = .ok (.multianewarray 23 2, 4) := by decide +kernel
theorem dM_init_50 : decode cM_init 50 = .ok (.putfield 25, 3) := by decide +kernel
theorem dM_init_53 : decode cM_init 53 = .ok (.aload_n 0, 1) := by decide +kernel
theorem dM_init_54 : decode cM_init 54 = .ok (.sipush 400, 3) := by decide +kernel
theorem dM_init_57 : decode cM_init 57 = .ok (.newarray .boolean, 2) := by decide +kernel
theorem dM_init_59 : decode cM_init 59 = .ok (.putfield 28, 3) := by decide +kernel
theorem dM_init_62 : decode cM_init 62 = .ok (.aload_n 0, 1) := by decide +kernel
theorem dM_init_63 : decode cM_init 63 = .ok (.sipush 400, 3) := by decide +kernel
theorem dM_init_66 : decode cM_init 66 = .ok (.newarray .boolean, 2) := by decide +kernel
theorem dM_init_68 : decode cM_init 68 = .ok (.putfield 31, 3) := by decide +kernel
theorem dM_init_71 : decode cM_init 71 = .ok (.aload_n 0, 1) := by decide +kernel
theorem dM_init_72 : decode cM_init 72 = .ok (.sipush 400, 3) := by decide +kernel
theorem dM_init_75 : decode cM_init 75 = .ok (.newarray .boolean, 2) := by decide +kernel
theorem dM_init_77 : decode cM_init 77 = .ok (.putfield 34, 3) := by decide +kernel
theorem dM_init_80 : decode cM_init 80 = .ok (.aload_n 0, 1) := by decide +kernel
theorem dM_init_81 : decode cM_init 81 = .ok (.sipush 400, 3) := by decide +kernel
theorem dM_init_84 : decode cM_init 84 = .ok (.newarray .int, 2) := by decide +kernel
theorem dM_init_86 : decode cM_init 86 = .ok (.putfield 37, 3) := by decide +kernel
theorem dM_init_89 : decode cM_init 89 = .ok (.aload_n 0, 1) := by decide +kernel
theorem dM_init_90 : decode cM_init 90 = .ok (.sipush 400, 3) := by decide +kernel
theorem dM_init_93 : decode cM_init 93 = .ok (.sipush 400, 3) := by decide +kernel
theorem dM_init_96 : decode cM_init 96 = .ok (.multianewarray 40 2, 4) := by decide +kernel
theorem dM_init_100 : decode cM_init 100 = .ok (.putfield 42, 3) := by decide +kernel
theorem dM_init_103 : decode cM_init 103 = .ok (.aload_n 0, 1) := by decide +kernel
theorem dM_init_104 : decode cM_init 104 = .ok (.sipush 400, 3) := by decide +kernel
theorem dM_init_107 : decode cM_init 107 = .ok (.newarray .boolean, 2) := by decide +kernel
theorem dM_init_109 : decode cM_init 109 = .ok (.putfield 45, 3) := by decide +kernel
theorem dM_init_112 : decode cM_init 112 = .ok (.aload_n 0, 1) := by decide +kernel
theorem dM_init_113 : decode cM_init 113 = .ok (.sipush 400, 3) := by decide +kernel
theorem dM_init_116 : decode cM_init 116 = .ok (.newarray .int, 2) := by decide +kernel
theorem dM_init_118 : decode cM_init 118 = .ok (.putfield 48, 3) := by decide +kernel
theorem dM_init_121 : decode cM_init 121 = .ok (.return_, 1) := by decide +kernel
theorem dM_thrown_0 : decode cM_thrown 0 = .ok (.aload_n 0, 1) := by decide +kernel
theorem dM_thrown_1 : decode cM_thrown 1 = .ok (.getfield 51, 3) := by decide +kernel
theorem dM_thrown_4 : decode cM_thrown 4 = .ok (.ireturn, 1) := by decide +kernel
theorem dM_fail_0 : decode cM_fail 0 = .ok (.aload_n 0, 1) := by decide +kernel
theorem dM_fail_1 : decode cM_fail 1 = .ok (.iload_n 1, 1) := by decide +kernel
theorem dM_fail_2 : decode cM_fail 2 = .ok (.putfield 51, 3) := by decide +kernel
theorem dM_fail_5 : decode cM_fail 5 = .ok (.iconst 0, 1) := by decide +kernel
theorem dM_fail_6 : decode cM_fail 6 = .ok (.ireturn, 1) := by decide +kernel
theorem dM_out4_0 : decode cM_out4 0 = .ok (.iload_n 1, 1) := by decide +kernel
theorem dM_out4_1 : decode cM_out4 1 = .ok (.ifCond .lt 47, 3) := by decide +kernel
theorem dM_out4_4 : decode cM_out4 4 = .ok (.iload_n 2, 1) := by decide +kernel
theorem dM_out4_5 : decode cM_out4 5 = .ok (.ifCond .lt 43, 3) := by decide +kernel
theorem dM_out4_8 : decode cM_out4 8 = .ok (.iload_n 1, 1) := by decide +kernel
theorem dM_out4_9 : decode cM_out4 9 = .ok (.bipush 19, 2) := by decide +kernel
theorem dM_out4_11 : decode cM_out4 11 = .ok (.if_icmp .gt 37, 3) := by decide +kernel
theorem dM_out4_14 : decode cM_out4 14 = .ok (.iload_n 2, 1) := by decide +kernel
theorem dM_out4_15 : decode cM_out4 15 = .ok (.bipush 19, 2) := by decide +kernel
theorem dM_out4_17 : decode cM_out4 17 = .ok (.if_icmp .gt 31, 3) := by decide +kernel
theorem dM_out4_20 : decode cM_out4 20 = .ok (.iload_n 3, 1) := by decide +kernel
theorem dM_out4_21 : decode cM_out4 21 = .ok (.iconst 1, 1) := by decide +kernel
theorem dM_out4_22 : decode cM_out4 22 = .ok (.if_icmp .lt 26, 3) := by decide +kernel
theorem dM_out4_25 : decode cM_out4 25 = .ok (.iload 4, 2) := by decide +kernel
theorem dM_out4_27 : decode cM_out4 27 = .ok (.iconst 1, 1) := by decide +kernel
theorem dM_out4_28 : decode cM_out4 28 = .ok (.if_icmp .lt 20, 3) := by decide +kernel
theorem dM_out4_31 : decode cM_out4 31 = .ok (.iload_n 3, 1) := by decide +kernel
theorem dM_out4_32 : decode cM_out4 32 = .ok (.bipush 20, 2) := by decide +kernel
theorem dM_out4_34 : decode cM_out4 34 = .ok (.iload_n 1, 1) := by decide +kernel
theorem dM_out4_35 : decode cM_out4 35 = .ok (.isub, 1) := by decide +kernel
theorem dM_out4_36 : decode cM_out4 36 = .ok (.if_icmp .gt 12, 3) := by decide +kernel
theorem dM_out4_39 : decode cM_out4 39 = .ok (.iload 4, 2) := by decide +kernel
theorem dM_out4_41 : decode cM_out4 41 = .ok (.bipush 20, 2) := by decide +kernel
theorem dM_out4_43 : decode cM_out4 43 = .ok (.iload_n 2, 1) := by decide +kernel
theorem dM_out4_44 : decode cM_out4 44 = .ok (.isub, 1) := by decide +kernel
theorem dM_out4_45 : decode cM_out4 45 = .ok (.if_icmp .le 7, 3) := by decide +kernel
theorem dM_out4_48 : decode cM_out4 48 = .ok (.iconst 1, 1) := by decide +kernel
theorem dM_out4_49 : decode cM_out4 49 = .ok (.goto 4, 3) := by decide +kernel
theorem dM_out4_52 : decode cM_out4 52 = .ok (.iconst 0, 1) := by decide +kernel
theorem dM_out4_53 : decode cM_out4 53 = .ok (.ireturn, 1) := by decide +kernel
theorem dM_owner1_0 : decode cM_owner1 0 = .ok (.iload_n 1, 1) := by decide +kernel
theorem dM_owner1_1 : decode cM_owner1 1 = .ok (.bipush 20, 2) := by decide +kernel
theorem dM_owner1_3 : decode cM_owner1 3 = .ok (.idiv, 1) := by decide +kernel
theorem dM_owner1_4 : decode cM_owner1 4 = .ok (.istore_n 2, 1) := by decide +kernel
theorem dM_owner1_5 : decode cM_owner1 5 = .ok (.iload_n 1, 1) := by decide +kernel
theorem dM_owner1_6 : decode cM_owner1 6 = .ok (.bipush 20, 2) := by decide +kernel
theorem dM_owner1_8 : decode cM_owner1 8 = .ok (.irem, 1) := by decide +kernel
theorem dM_owner1_9 : decode cM_owner1 9 = .ok (.istore_n 3, 1) := by decide +kernel
theorem dM_owner1_10 : decode cM_owner1 10 = .ok (.iconst 0, 1) := by decide +kernel
theorem dM_owner1_11 : decode cM_owner1 11 = .ok (.istore 4, 2) := by decide +kernel
theorem dM_owner1_13 : decode cM_owner1 13 = .ok (.iload 4, 2) := by decide +kernel
theorem dM_owner1_15 : decode cM_owner1 15 = .ok (.sipush 400, 3) := by decide +kernel
theorem dM_owner1_18 : decode cM_owner1 18 = .ok (.if_icmp .ge 74, 3) := by decide +kernel
theorem dM_owner1_21 : decode cM_owner1 21 = .ok (.aload_n 0, 1) := by decide +kernel
theorem dM_owner1_22 : decode cM_owner1 22 = .ok (.getfield 7, 3) := by decide +kernel
theorem dM_owner1_25 : decode cM_owner1 25 = .ok (.iload 4, 2) := by decide +kernel
theorem dM_owner1_27 : decode cM_owner1 27 = .ok (.baload, 1) := by decide +kernel
theorem dM_owner1_28 : decode cM_owner1 28 = .ok (.ifCond .eq 58, 3) := by decide +kernel
theorem dM_owner1_31 : decode cM_owner1 31 = .ok (.iload_n 2, 1) := by decide +kernel
theorem dM_owner1_32 : decode cM_owner1 32 = .ok (.iload 4, 2) := by decide +kernel
theorem dM_owner1_34 : decode cM_owner1 34 = .ok (.bipush 20, 2) := by decide +kernel
theorem dM_owner1_36 : decode cM_owner1 36 = .ok (.idiv, 1) := by decide +kernel
theorem dM_owner1_37 : decode cM_owner1 37 = .ok (.if_icmp .lt 49, 3) := by decide +kernel
theorem dM_owner1_40 : decode cM_owner1 40 = .ok (.iload_n 2, 1) := by decide +kernel
theorem dM_owner1_41 : decode cM_owner1 41 = .ok (.iload 4, 2) := by decide +kernel
theorem dM_owner1_43 : decode cM_owner1 43 = .ok (.bipush 20, 2) := by decide +kernel
theorem dM_owner1_45 : decode cM_owner1 45 = .ok (.idiv, 1) := by decide +kernel
theorem dM_owner1_46 : decode cM_owner1 46 = .ok (.aload_n 0, 1) := by decide +kernel
theorem dM_owner1_47 : decode cM_owner1 47 = .ok (.getfield 13, 3) := by decide +kernel
theorem dM_owner1_50 : decode cM_owner1 50 = .ok (.iload 4, 2) := by decide +kernel
theorem dM_owner1_52 : decode cM_owner1 52 = .ok (.iaload, 1) := by decide +kernel
theorem dM_owner1_53 : decode cM_owner1 53 = .ok (.iadd, 1) := by decide +kernel
theorem dM_owner1_54 : decode cM_owner1 54 = .ok (.if_icmp .ge 32, 3) := by decide +kernel
theorem dM_owner1_57 : decode cM_owner1 57 = .ok (.iload_n 3, 1) := by decide +kernel
theorem dM_owner1_58 : decode cM_owner1 58 = .ok (.iload 4, 2) := by decide +kernel
theorem dM_owner1_60 : decode cM_owner1 60 = .ok (.bipush 20, 2) := by decide +kernel
theorem dM_owner1_62 : decode cM_owner1 62 = .ok (.irem, 1) := by decide +kernel
theorem dM_owner1_63 : decode cM_owner1 63 = .ok (.if_icmp .lt 23, 3) := by decide +kernel
theorem dM_owner1_66 : decode cM_owner1 66 = .ok (.iload_n 3, 1) := by decide +kernel
theorem dM_owner1_67 : decode cM_owner1 67 = .ok (.iload 4, 2) := by decide +kernel
theorem dM_owner1_69 : decode cM_owner1 69 = .ok (.bipush 20, 2) := by decide +kernel
theorem dM_owner1_71 : decode cM_owner1 71 = .ok (.irem, 1) := by decide +kernel
theorem dM_owner1_72 : decode cM_owner1 72 = .ok (.aload_n 0, 1) := by decide +kernel
theorem dM_owner1_73 : decode cM_owner1 73 = .ok (.getfield 17, 3) := by decide +kernel
theorem dM_owner1_76 : decode cM_owner1 76 = .ok (.iload 4, 2) := by decide +kernel
theorem dM_owner1_78 : decode cM_owner1 78 = .ok (.iaload, 1) := by decide +kernel
theorem dM_owner1_79 : decode cM_owner1 79 = .ok (.iadd, 1) := by decide +kernel
theorem dM_owner1_80 : decode cM_owner1 80 = .ok (.if_icmp .ge 6, 3) := by decide +kernel
theorem dM_owner1_83 : decode cM_owner1 83 = .ok (.iload 4, 2) := by decide +kernel
theorem dM_owner1_85 : decode cM_owner1 85 = .ok (.ireturn, 1) := by decide +kernel
theorem dM_owner1_86 : decode cM_owner1 86 = .ok (.iinc 4 1, 3) := by decide +kernel
theorem dM_owner1_89 : decode cM_owner1 89 = .ok (.goto (-76), 3) := by decide +kernel
theorem dM_owner1_92 : decode cM_owner1 92 = .ok (.iconst (-1), 1) := by decide +kernel
theorem dM_owner1_93 : decode cM_owner1 93 = .ok (.ireturn, 1) := by decide +kernel
theorem dM_count_0 : decode cM_count 0 = .ok (.iconst 0, 1) := by decide +kernel
theorem dM_count_1 : decode cM_count 1 = .ok (.istore_n 1, 1) := by decide +kernel
theorem dM_count_2 : decode cM_count 2 = .ok (.iconst 0, 1) := by decide +kernel
theorem dM_count_3 : decode cM_count 3 = .ok (.istore_n 2, 1) := by decide +kernel
theorem dM_count_4 : decode cM_count 4 = .ok (.iload_n 2, 1) := by decide +kernel
theorem dM_count_5 : decode cM_count 5 = .ok (.sipush 400, 3) := by decide +kernel
theorem dM_count_8 : decode cM_count 8 = .ok (.if_icmp .ge 26, 3) := by decide +kernel
theorem dM_count_11 : decode cM_count 11 = .ok (.iload_n 1, 1) := by decide +kernel
theorem dM_count_12 : decode cM_count 12 = .ok (.aload_n 0, 1) := by decide +kernel
theorem dM_count_13 : decode cM_count 13 = .ok (.getfield 7, 3) := by decide +kernel
theorem dM_count_16 : decode cM_count 16 = .ok (.iload_n 2, 1) := by decide +kernel
theorem dM_count_17 : decode cM_count 17 = .ok (.baload, 1) := by decide +kernel
theorem dM_count_18 : decode cM_count 18 = .ok (.ifCond .eq 7, 3) := by decide +kernel
theorem dM_count_21 : decode cM_count 21 = .ok (.iconst 1, 1) := by decide +kernel
theorem dM_count_22 : decode cM_count 22 = .ok (.goto 4, 3) := by decide +kernel
theorem dM_count_25 : decode cM_count 25 = .ok (.iconst 0, 1) := by decide +kernel
theorem dM_count_26 : decode cM_count 26 = .ok (.iadd, 1) := by decide +kernel
theorem dM_count_27 : decode cM_count 27 = .ok (.istore_n 1, 1) := by decide +kernel
theorem dM_count_28 : decode cM_count 28 = .ok (.iinc 2 1, 3) := by decide +kernel
theorem dM_count_31 : decode cM_count 31 = .ok (.goto (-27), 3) := by decide +kernel
theorem dM_count_34 : decode cM_count 34 = .ok (.iload_n 1, 1) := by decide +kernel
theorem dM_count_35 : decode cM_count 35 = .ok (.ireturn, 1) := by decide +kernel
theorem dM_forget_0 : decode cM_forget 0 = .ok (.aload_n 0, 1) := by decide +kernel
theorem dM_forget_1 : decode cM_forget 1 = .ok (.getfield 31, 3) := by decide +kernel
theorem dM_forget_4 : decode cM_forget 4 = .ok (.iload_n 1, 1) := by decide +kernel
theorem dM_forget_5 : decode cM_forget 5 = .ok (.iconst 0, 1) := by decide +kernel
theorem dM_forget_6 : decode cM_forget 6 = .ok (.bastore, 1) := by decide +kernel
theorem dM_forget_7 : decode cM_forget 7 = .ok (.aload_n 0, 1) := by decide +kernel
theorem dM_forget_8 : decode cM_forget 8 = .ok (.getfield 34, 3) := by decide +kernel
theorem dM_forget_11 : decode cM_forget 11 = .ok (.iload_n 1, 1) := by decide +kernel
theorem dM_forget_12 : decode cM_forget 12 = .ok (.iconst 0, 1) := by decide +kernel
theorem dM_forget_13 : decode cM_forget 13 = .ok (.bastore, 1) := by decide +kernel
theorem dM_forget_14 : decode cM_forget 14 = .ok (.aload_n 0, 1) := by decide +kernel
theorem dM_forget_15 : decode cM_forget 15 = .ok (.getfield 37, 3) := by decide +kernel
theorem dM_forget_18 : decode cM_forget 18 = .ok (.iload_n 1, 1) := by decide +kernel
theorem dM_forget_19 : decode cM_forget 19 = .ok (.iconst 0, 1) := by decide +kernel
theorem dM_forget_20 : decode cM_forget 20 = .ok (.iastore, 1) := by decide +kernel
theorem dM_forget_21 : decode cM_forget 21 = .ok (.return_, 1) := by decide +kernel
theorem dM_put_0 : decode cM_put 0 = .ok (.aload_n 0, 1) := by decide +kernel
theorem dM_put_1 : decode cM_put 1 = .ok (.iconst 0, 1) := by decide +kernel
theorem dM_put_2 : decode cM_put 2 = .ok (.putfield 51, 3) := by decide +kernel
theorem dM_put_5 : decode cM_put 5 = .ok (.aload_n 0, 1) := by decide +kernel
theorem dM_put_6 : decode cM_put 6 = .ok (.iload_n 1, 1) := by decide +kernel
theorem dM_put_7 : decode cM_put 7 = .ok (.iload_n 2, 1) := by decide +kernel
theorem dM_put_8 : decode cM_put 8 = .ok (.iload_n 3, 1) := by decide +kernel
theorem dM_put_9 : decode cM_put 9 = .ok (.iload 4, 2) := by decide +kernel
theorem dM_put_11 : decode cM_put 11 = .ok (.invokevirtual 55, 3) := by decide +kernel
theorem dM_put_14 : decode cM_put 14 = .ok (.ifCond .eq 9, 3) := by decide +kernel
theorem dM_put_17 : decode cM_put 17 = .ok (.aload_n 0, 1) := by decide +kernel
theorem dM_put_18 : decode cM_put 18 = .ok (.iconst 1, 1) := by decide +kernel
theorem dM_put_19 : decode cM_put 19 = .ok (.invokevirtual 59, 3) := by decide +kernel
theorem dM_put_22 : decode cM_put 22 = .ok (.ireturn, 1) := by decide +kernel
theorem dM_put_23 : decode cM_put 23 = .ok (.iload_n 1, 1) := by decide +kernel
theorem dM_put_24 : decode cM_put 24 = .ok (.istore 5, 2) := by decide +kernel
theorem dM_put_26 : decode cM_put 26 = .ok (.iload 5, 2) := by decide +kernel
theorem dM_put_28 : decode cM_put 28 = .ok (.iload_n 1, 1) := by decide +kernel
theorem dM_put_29 : decode cM_put 29 = .ok (.iload_n 3, 1) := by decide +kernel
theorem dM_put_30 : decode cM_put 30 = .ok (.iadd, 1) := by decide +kernel
theorem dM_put_31 : decode cM_put 31 = .ok (.if_icmp .ge 48, 3) := by decide +kernel
theorem dM_put_34 : decode cM_put 34 = .ok (.iload_n 2, 1) := by decide +kernel
theorem dM_put_35 : decode cM_put 35 = .ok (.istore 6, 2) := by decide +kernel
theorem dM_put_37 : decode cM_put 37 = .ok (.iload 6, 2) := by decide +kernel
theorem dM_put_39 : decode cM_put 39 = .ok (.iload_n 2, 1) := by decide +kernel
theorem dM_put_40 : decode cM_put 40 = .ok (.iload 4, 2) := by decide +kernel
theorem dM_put_42 : decode cM_put 42 = .ok (.iadd, 1) := by decide +kernel
theorem dM_put_43 : decode cM_put 43 = .ok (.if_icmp .ge 30, 3) := by decide +kernel
theorem dM_put_46 : decode cM_put 46 = .ok (.aload_n 0, 1) := by decide +kernel
theorem dM_put_47 : decode cM_put 47 = .ok (.bipush 20, 2) := by decide +kernel
theorem dM_put_49 : decode cM_put 49 = .ok (.iload 5, 2) := by decide +kernel
theorem dM_put_51 : decode cM_put 51 = .ok (.imul, 1) := by decide +kernel
theorem dM_put_52 : decode cM_put 52 = .ok (.iload 6, 2) := by decide +kernel
theorem dM_put_54 : decode cM_put 54 = .ok (.iadd, 1) := by decide +kernel
theorem dM_put_55 : decode cM_put 55 = .ok (.invokevirtual 63, 3) := by decide +kernel
theorem dM_put_58 : decode cM_put 58 = .ok (.ifCond .lt 9, 3) := by decide +kernel
theorem dM_put_61 : decode cM_put 61 = .ok (.aload_n 0, 1) := by decide +kernel
theorem dM_put_62 : decode cM_put 62 = .ok (.iconst 2, 1) := by decide +kernel
theorem dM_put_63 : decode cM_put 63 = .ok (.invokevirtual 59, 3) := by decide +kernel
theorem dM_put_66 : decode cM_put 66 = .ok (.ireturn, 1) := by decide +kernel
theorem dM_put_67 : decode cM_put 67 = .ok (.iinc 6 1, 3) := by decide +kernel
theorem dM_put_70 : decode cM_put 70 = .ok (.goto (-33), 3) := by decide +kernel
theorem dM_put_73 : decode cM_put 73 = .ok (.iinc 5 1, 3) := by decide +kernel
theorem dM_put_76 : decode cM_put 76 = .ok (.goto (-50), 3) := by decide +kernel
theorem dM_put_79 : decode cM_put 79 = .ok (.bipush 20, 2) := by decide +kernel
theorem dM_put_81 : decode cM_put 81 = .ok (.iload_n 1, 1) := by decide +kernel
theorem dM_put_82 : decode cM_put 82 = .ok (.imul, 1) := by decide +kernel
theorem dM_put_83 : decode cM_put 83 = .ok (.iload_n 2, 1) := by decide +kernel
theorem dM_put_84 : decode cM_put 84 = .ok (.iadd, 1) := by decide +kernel
theorem dM_put_85 : decode cM_put 85 = .ok (.istore 5, 2) := by decide +kernel
theorem dM_put_87 : decode cM_put 87 = .ok (.aload_n 0, 1) := by decide +kernel
theorem dM_put_88 : decode cM_put 88 = .ok (.getfield 7, 3) := by decide +kernel
theorem dM_put_91 : decode cM_put 91 = .ok (.iload 5, 2) := by decide +kernel
theorem dM_put_93 : decode cM_put 93 = .ok (.iconst 1, 1) := by decide +kernel
theorem dM_put_94 : decode cM_put 94 = .ok (.bastore, 1) := by decide +kernel
theorem dM_put_95 : decode cM_put 95 = .ok (.aload_n 0, 1) := by decide +kernel
theorem dM_put_96 : decode cM_put 96 = .ok (.getfield 13, 3) := by decide +kernel
theorem dM_put_99 : decode cM_put 99 = .ok (.iload 5, 2) := by decide +kernel
theorem dM_put_101 : decode cM_put 101 = .ok (.iload_n 3, 1) := by decide +kernel
theorem dM_put_102 : decode cM_put 102 = .ok (.iastore, 1) := by decide +kernel
theorem dM_put_103 : decode cM_put 103 = .ok (.aload_n 0, 1) := by decide +kernel
theorem dM_put_104 : decode cM_put 104 = .ok (.getfield 17, 3) := by decide +kernel
theorem dM_put_107 : decode cM_put 107 = .ok (.iload 5, 2) := by decide +kernel
theorem dM_put_109 : decode cM_put 109 = .ok (.iload 4, 2) := by decide +kernel
theorem dM_put_111 : decode cM_put 111 = .ok (.iastore, 1) := by decide +kernel
theorem dM_put_112 : decode cM_put 112 = .ok (.aload_n 0, 1) := by decide +kernel
theorem dM_put_113 : decode cM_put 113 = .ok (.getfield 20, 3) := by decide +kernel
theorem dM_put_116 : decode cM_put 116 = .ok (.iload 5, 2) := by decide +kernel
theorem dM_put_118 : decode cM_put 118 = .ok (.iconst 0, 1) := by decide +kernel
theorem dM_put_119 : decode cM_put 119 = .ok (.iastore, 1) := by decide +kernel
theorem dM_put_120 : decode cM_put 120 = .ok (.aload_n 0, 1) := by decide +kernel
theorem dM_put_121 : decode cM_put 121 = .ok (.iload 5, 2) := by decide +kernel
theorem dM_put_123 : decode cM_put 123 = .ok (.invokevirtual 66, 3) := by decide +kernel
theorem dM_put_126 : decode cM_put 126 = .ok (.aload_n 0, 1) := by decide +kernel
theorem dM_put_127 : decode cM_put 127 = .ok (.invokevirtual 70, 3) := by decide +kernel
theorem dM_put_130 : decode cM_put 130 = .ok (.ireturn, 1) := by decide +kernel
theorem dM_out2_0 : decode cM_out2 0 = .ok (.aload_n 0, 1) := by decide +kernel
theorem dM_out2_1 : decode cM_out2 1 = .ok (.iconst 0, 1) := by decide +kernel
theorem dM_out2_2 : decode cM_out2 2 = .ok (.putfield 51, 3) := by decide +kernel
theorem dM_out2_5 : decode cM_out2 5 = .ok (.aload_n 0, 1) := by decide +kernel
theorem dM_out2_6 : decode cM_out2 6 = .ok (.iload_n 1, 1) := by decide +kernel
theorem dM_out2_7 : decode cM_out2 7 = .ok (.iload_n 2, 1) := by decide +kernel
theorem dM_out2_8 : decode cM_out2 8 = .ok (.iconst 1, 1) := by decide +kernel
theorem dM_out2_9 : decode cM_out2 9 = .ok (.iconst 1, 1) := by decide +kernel
theorem dM_out2_10 : decode cM_out2 10 = .ok (.invokevirtual 55, 3) := by decide +kernel
theorem dM_out2_13 : decode cM_out2 13 = .ok (.ifCond .eq 9, 3) := by decide +kernel
theorem dM_out2_16 : decode cM_out2 16 = .ok (.aload_n 0, 1) := by decide +kernel
theorem dM_out2_17 : decode cM_out2 17 = .ok (.iconst 1, 1) := by decide +kernel
theorem dM_out2_18 : decode cM_out2 18 = .ok (.invokevirtual 59, 3) := by decide +kernel
theorem dM_out2_21 : decode cM_out2 21 = .ok (.ireturn, 1) := by decide +kernel
theorem dM_out2_22 : decode cM_out2 22 = .ok (.aload_n 0, 1) := by decide +kernel
theorem dM_out2_23 : decode cM_out2 23 = .ok (.getfield 7, 3) := by decide +kernel
theorem dM_out2_26 : decode cM_out2 26 = .ok (.bipush 20, 2) := by decide +kernel
theorem dM_out2_28 : decode cM_out2 28 = .ok (.iload_n 1, 1) := by decide +kernel
theorem dM_out2_29 : decode cM_out2 29 = .ok (.imul, 1) := by decide +kernel
theorem dM_out2_30 : decode cM_out2 30 = .ok (.iload_n 2, 1) := by decide +kernel
theorem dM_out2_31 : decode cM_out2 31 = .ok (.iadd, 1) := by decide +kernel
theorem dM_out2_32 : decode cM_out2 32 = .ok (.baload, 1) := by decide +kernel
theorem dM_out2_33 : decode cM_out2 33 = .ok (.ifCond .ne 9, 3) := by decide +kernel
theorem dM_out2_36 : decode cM_out2 36 = .ok (.aload_n 0, 1) := by decide +kernel
theorem dM_out2_37 : decode cM_out2 37 = .ok (.iconst 2, 1) := by decide +kernel
theorem dM_out2_38 : decode cM_out2 38 = .ok (.invokevirtual 59, 3) := by decide +kernel
theorem dM_out2_41 : decode cM_out2 41 = .ok (.ireturn, 1) := by decide +kernel
theorem dM_out2_42 : decode cM_out2 42 = .ok (.aload_n 0, 1) := by decide +kernel
theorem dM_out2_43 : decode cM_out2 43 = .ok (.getfield 7, 3) := by decide +kernel
theorem dM_out2_46 : decode cM_out2 46 = .ok (.bipush 20, 2) := by decide +kernel
theorem dM_out2_48 : decode cM_out2 48 = .ok (.iload_n 1, 1) := by decide +kernel
theorem dM_out2_49 : decode cM_out2 49 = .ok (.imul, 1) := by decide +kernel
theorem dM_out2_50 : decode cM_out2 50 = .ok (.iload_n 2, 1) := by decide +kernel
theorem dM_out2_51 : decode cM_out2 51 = .ok (.iadd, 1) := by decide +kernel
theorem dM_out2_52 : decode cM_out2 52 = .ok (.iconst 0, 1) := by decide +kernel
theorem dM_out2_53 : decode cM_out2 53 = .ok (.bastore, 1) := by decide +kernel
theorem dM_out2_54 : decode cM_out2 54 = .ok (.aload_n 0, 1) := by decide +kernel
theorem dM_out2_55 : decode cM_out2 55 = .ok (.invokevirtual 70, 3) := by decide +kernel
theorem dM_out2_58 : decode cM_out2 58 = .ok (.ireturn, 1) := by decide +kernel
theorem dM_speak_0 : decode cM_speak 0 = .ok (.aload_n 0, 1) := by decide +kernel
theorem dM_speak_1 : decode cM_speak 1 = .ok (.iconst 0, 1) := by decide +kernel
theorem dM_speak_2 : decode cM_speak 2 = .ok (.putfield 51, 3) := by decide +kernel
theorem dM_speak_5 : decode cM_speak 5 = .ok (.aload_n 0, 1) := by decide +kernel
theorem dM_speak_6 : decode cM_speak 6 = .ok (.iload_n 1, 1) := by decide +kernel
theorem dM_speak_7 : decode cM_speak 7 = .ok (.iload_n 2, 1) := by decide +kernel
theorem dM_speak_8 : decode cM_speak 8 = .ok (.iconst 1, 1) := by decide +kernel
theorem dM_speak_9 : decode cM_speak 9 = .ok (.iconst 1, 1) := by decide +kernel
theorem dM_speak_10 : decode cM_speak 10 = .ok (.invokevirtual 55, 3) := by decide +kernel
theorem dM_speak_13 : decode cM_speak 13 = .ok (.ifCond .ne 41, 3) := by decide +kernel
theorem dM_speak_16 : decode cM_speak 16 = .ok (.aload_n 0, 1) := by decide +kernel
theorem dM_speak_17 : decode cM_speak 17 = .ok (.iload_n 3, 1) := by decide +kernel
theorem dM_speak_18 : decode cM_speak 18 = .ok (.iload 4, 2) := by decide +kernel
theorem dM_speak_20 : decode cM_speak 20 = .ok (.iconst 1, 1) := by decide +kernel
theorem dM_speak_21 : decode cM_speak 21 = .ok (.iconst 1, 1) := by decide +kernel
theorem dM_speak_22 : decode cM_speak 22 = .ok (.invokevirtual 55, 3) := by decide +kernel
theorem dM_speak_25 : decode cM_speak 25 = .ok (.ifCond .ne 29, 3) := by decide +kernel
theorem dM_speak_28 : decode cM_speak 28 = .ok (.aload_n 0, 1) := by decide +kernel
theorem dM_speak_29 : decode cM_speak 29 = .ok (.iload 5, 2) := by decide +kernel
theorem dM_speak_31 : decode cM_speak 31 = .ok (.iload 6, 2) := by decide +kernel
theorem dM_speak_33 : decode cM_speak 33 = .ok (.iconst 1, 1) := by decide +kernel
theorem dM_speak_34 : decode cM_speak 34 = .ok (.iconst 1, 1) := by decide +kernel
theorem dM_speak_35 : decode cM_speak 35 = .ok (.invokevirtual 55, 3) := by decide +kernel
theorem dM_speak_38 : decode cM_speak 38 = .ok (.ifCond .ne 16, 3) := by decide +kernel
theorem dM_speak_41 : decode cM_speak 41 = .ok (.iload 5, 2) := by decide +kernel
theorem dM_speak_43 : decode cM_speak 43 = .ok (.iload_n 3, 1) := by decide +kernel
theorem dM_speak_44 : decode cM_speak 44 = .ok (.if_icmp .lt 10, 3) := by decide +kernel
theorem dM_speak_47 : decode cM_speak 47 = .ok (.iload 6, 2) := by decide +kernel
theorem dM_speak_49 : decode cM_speak 49 = .ok (.iload 4, 2) := by decide +kernel
theorem dM_speak_51 : decode cM_speak 51 = .ok (.if_icmp .ge 9, 3) := by decide +kernel
theorem dM_speak_54 : decode cM_speak 54 = .ok (.aload_n 0, 1) := by decide +kernel
theorem dM_speak_55 : decode cM_speak 55 = .ok (.iconst 1, 1) := by decide +kernel
theorem dM_speak_56 : decode cM_speak 56 = .ok (.invokevirtual 59, 3) := by decide +kernel
theorem dM_speak_59 : decode cM_speak 59 = .ok (.ireturn, 1) := by decide +kernel
theorem dM_speak_60 : decode cM_speak 60 = .ok (.bipush 20, 2) := by decide +kernel
theorem dM_speak_62 : decode cM_speak 62 = .ok (.iload_n 1, 1) := by decide +kernel
theorem dM_speak_63 : decode cM_speak 63 = .ok (.imul, 1) := by decide +kernel
theorem dM_speak_64 : decode cM_speak 64 = .ok (.iload_n 2, 1) := by decide +kernel
theorem dM_speak_65 : decode cM_speak 65 = .ok (.iadd, 1) := by decide +kernel
theorem dM_speak_66 : decode cM_speak 66 = .ok (.istore 7, 2) := by decide +kernel
theorem dM_speak_68 : decode cM_speak 68 = .ok (.aload_n 0, 1) := by decide +kernel
theorem dM_speak_69 : decode cM_speak 69 = .ok (.getfield 7, 3) := by decide +kernel
theorem dM_speak_72 : decode cM_speak 72 = .ok (.iload 7, 2) := by decide +kernel
theorem dM_speak_74 : decode cM_speak 74 = .ok (.baload, 1) := by decide +kernel
theorem dM_speak_75 : decode cM_speak 75 = .ok (.ifCond .ne 9, 3) := by decide +kernel
theorem dM_speak_78 : decode cM_speak 78 = .ok (.aload_n 0, 1) := by decide +kernel
theorem dM_speak_79 : decode cM_speak 79 = .ok (.iconst 2, 1) := by decide +kernel
theorem dM_speak_80 : decode cM_speak 80 = .ok (.invokevirtual 59, 3) := by decide +kernel
theorem dM_speak_83 : decode cM_speak 83 = .ok (.ireturn, 1) := by decide +kernel
theorem dM_speak_84 : decode cM_speak 84 = .ok (.aload_n 0, 1) := by decide +kernel
theorem dM_speak_85 : decode cM_speak 85 = .ok (.getfield 20, 3) := by decide +kernel
theorem dM_speak_88 : decode cM_speak 88 = .ok (.iload 7, 2) := by decide +kernel
theorem dM_speak_90 : decode cM_speak 90 = .ok (.iaload, 1) := by decide +kernel
theorem dM_speak_91 : decode cM_speak 91 = .ok (.bipush 20, 2) := by decide +kernel
theorem dM_speak_93 : decode cM_speak 93 = .ok (.if_icmp .ne 9, 3) := by decide +kernel
theorem dM_speak_96 : decode cM_speak 96 = .ok (.aload_n 0, 1) := by decide +kernel
theorem dM_speak_97 : decode cM_speak 97 = .ok (.iconst 3, 1) := by decide +kernel
theorem dM_speak_98 : decode cM_speak 98 = .ok (.invokevirtual 59, 3) := by decide +kernel
theorem dM_speak_101 : decode cM_speak 101 = .ok (.ireturn, 1) := by decide +kernel
theorem dM_speak_102 : decode cM_speak 102 = .ok (.aload_n 0, 1) := by decide +kernel
theorem dM_speak_103 : decode cM_speak 103 = .ok (.getfield 25, 3) := by decide +kernel
theorem dM_speak_106 : decode cM_speak 106 = .ok (.iload 7, 2) := by decide +kernel
theorem dM_speak_108 : decode cM_speak 108 = .ok (.aaload, 1) := by decide +kernel
theorem dM_speak_109 : decode cM_speak 109 = .ok (.iconst 4, 1) := by decide +kernel
theorem dM_speak_110 : decode cM_speak 110 = .ok (.aload_n 0, 1) := by decide +kernel
theorem dM_speak_111 : decode cM_speak 111 = .ok (.getfield 20, 3) := by decide +kernel
theorem dM_speak_114 : decode cM_speak 114 = .ok (.iload 7, 2) := by decide +kernel
theorem dM_speak_116 : decode cM_speak 116 = .ok (.iaload, 1) := by decide +kernel
theorem dM_speak_117 : decode cM_speak 117 = .ok (.imul, 1) := by decide +kernel
theorem dM_speak_118 : decode cM_speak 118 = .ok (.iload_n 3, 1) := by decide +kernel
theorem dM_speak_119 : decode cM_speak 119 = .ok (.iastore, 1) := by decide +kernel
theorem dM_speak_120 : decode cM_speak 120 = .ok (.aload_n 0, 1) := by decide +kernel
theorem dM_speak_121 : decode cM_speak 121 = .ok (.getfield 25, 3) := by decide +kernel
theorem dM_speak_124 : decode cM_speak 124 = .ok (.iload 7, 2) := by decide +kernel
theorem dM_speak_126 : decode cM_speak 126 = .ok (.aaload, 1) := by decide +kernel
theorem dM_speak_127 : decode cM_speak 127 = .ok (.iconst 4, 1) := by decide +kernel
theorem dM_speak_128 : decode cM_speak 128 = .ok (.aload_n 0, 1) := by decide +kernel
theorem dM_speak_129 : decode cM_speak 129 = .ok (.getfield 20, 3) := by decide +kernel
theorem dM_speak_132 : decode cM_speak 132 = .ok (.iload 7, 2) := by decide +kernel
theorem dM_speak_134 : decode cM_speak 134 = .ok (.iaload, 1) := by decide +kernel
theorem dM_speak_135 : decode cM_speak 135 = .ok (.imul, 1) := by decide +kernel
theorem dM_speak_136 : decode cM_speak 136 = .ok (.iconst 1, 1) := by decide +kernel
theorem dM_speak_137 : decode cM_speak 137 = .ok (.iadd, 1) := by decide +kernel
theorem dM_speak_138 : decode cM_speak 138 = .ok (.iload 4, 2) := by decide +kernel
theorem dM_speak_140 : decode cM_speak 140 = .ok (.iastore, 1) := by decide +kernel
theorem dM_speak_141 : decode cM_speak 141 = .ok (.aload_n 0, 1) := by decide +kernel
theorem dM_speak_142 : decode cM_speak 142 = .ok (.getfield 25, 3) := by decide +kernel
theorem dM_speak_145 : decode cM_speak 145 = .ok (.iload 7, 2) := by decide +kernel
theorem dM_speak_147 : decode cM_speak 147 = .ok (.aaload, 1) := by decide +kernel
theorem dM_speak_148 : decode cM_speak 148 = .ok (.iconst 4, 1) := by decide +kernel
theorem dM_speak_149 : decode cM_speak 149 = .ok (.aload_n 0, 1) := by decide +kernel
theorem dM_speak_150 : decode cM_speak 150 = .ok (.getfield 20, 3) := by decide +kernel
theorem dM_speak_153 : decode cM_speak 153 = .ok (.iload 7, 2) := by decide +kernel
theorem dM_speak_155 : decode cM_speak 155 = .ok (.iaload, 1) := by decide +kernel
theorem dM_speak_156 : decode cM_speak 156 = .ok (.imul, 1) := by decide +kernel
theorem dM_speak_157 : decode cM_speak 157 = .ok (.iconst 2, 1) := by decide +kernel
theorem dM_speak_158 : decode cM_speak 158 = .ok (.iadd, 1) := by decide +kernel
theorem dM_speak_159 : decode cM_speak 159 = .ok (.iload 5, 2) := by decide +kernel
theorem dM_speak_161 : decode cM_speak 161 = .ok (.iastore, 1) := by decide +kernel
theorem dM_speak_162 : decode cM_speak 162 = .ok (.aload_n 0, 1) := by decide +kernel
theorem dM_speak_163 : decode cM_speak 163 = .ok (.getfield 25, 3) := by decide +kernel
theorem dM_speak_166 : decode cM_speak 166 = .ok (.iload 7, 2) := by decide +kernel
theorem dM_speak_168 : decode cM_speak 168 = .ok (.aaload, 1) := by decide +kernel
theorem dM_speak_169 : decode cM_speak 169 = .ok (.iconst 4, 1) := by decide +kernel
theorem dM_speak_170 : decode cM_speak 170 = .ok (.aload_n 0, 1) := by decide +kernel
theorem dM_speak_171 : decode cM_speak 171 = .ok (.getfield 20, 3) := by decide +kernel
theorem dM_speak_174 : decode cM_speak 174 = .ok (.iload 7, 2) := by decide +kernel
theorem dM_speak_176 : decode cM_speak 176 = .ok (.iaload, 1) := by decide +kernel
theorem dM_speak_177 : decode cM_speak 177 = .ok (.imul, 1) := by decide +kernel
theorem dM_speak_178 : decode cM_speak 178 = .ok (.iconst 3, 1) := by decide +kernel
theorem dM_speak_179 : decode cM_speak 179 = .ok (.iadd, 1) := by decide +kernel
theorem dM_speak_180 : decode cM_speak 180 = .ok (.iload 6, 2) := by decide +kernel
theorem dM_speak_182 : decode cM_speak 182 = .ok (.iastore, 1) := by decide +kernel
theorem dM_speak_183 : decode cM_speak 183 = .ok (.aload_n 0, 1) := by decide +kernel
theorem dM_speak_184 : decode cM_speak 184 = .ok (.getfield 20, 3) := by decide +kernel
theorem dM_speak_187 : decode cM_speak 187 = .ok (.iload 7, 2) := by decide +kernel
theorem dM_speak_189 : decode cM_speak 189 = .ok (.dup2, 1) := by decide +kernel
theorem dM_speak_190 : decode cM_speak 190 = .ok (.iaload, 1) := by decide +kernel
theorem dM_speak_191 : decode cM_speak 191 = .ok (.iconst 1, 1) := by decide +kernel
theorem dM_speak_192 : decode cM_speak 192 = .ok (.iadd, 1) := by decide +kernel
theorem dM_speak_193 : decode cM_speak 193 = .ok (.iastore, 1) := by decide +kernel
theorem dM_speak_194 : decode cM_speak 194 = .ok (.aload_n 0, 1) := by decide +kernel
theorem dM_speak_195 : decode cM_speak 195 = .ok (.getfield 20, 3) := by decide +kernel
theorem dM_speak_198 : decode cM_speak 198 = .ok (.iload 7, 2) := by decide +kernel
theorem dM_speak_200 : decode cM_speak 200 = .ok (.iaload, 1) := by decide +kernel
theorem dM_speak_201 : decode cM_speak 201 = .ok (.ireturn, 1) := by decide +kernel
theorem dM_touch_0 : decode cM_touch 0 = .ok (.aload_n 0, 1) := by decide +kernel
theorem dM_touch_1 : decode cM_touch 1 = .ok (.iconst 0, 1) := by decide +kernel
theorem dM_touch_2 : decode cM_touch 2 = .ok (.putfield 51, 3) := by decide +kernel
theorem dM_touch_5 : decode cM_touch 5 = .ok (.aload_n 0, 1) := by decide +kernel
theorem dM_touch_6 : decode cM_touch 6 = .ok (.iload_n 1, 1) := by decide +kernel
theorem dM_touch_7 : decode cM_touch 7 = .ok (.iload_n 2, 1) := by decide +kernel
theorem dM_touch_8 : decode cM_touch 8 = .ok (.iconst 1, 1) := by decide +kernel
theorem dM_touch_9 : decode cM_touch 9 = .ok (.iconst 1, 1) := by decide +kernel
theorem dM_touch_10 : decode cM_touch 10 = .ok (.invokevirtual 55, 3) := by decide +kernel
theorem dM_touch_13 : decode cM_touch 13 = .ok (.ifCond .eq 11, 3) := by decide +kernel
theorem dM_touch_16 : decode cM_touch 16 = .ok (.aload_n 0, 1) := by decide +kernel
theorem dM_touch_17 : decode cM_touch 17 = .ok (.iconst 1, 1) := by decide +kernel
theorem dM_touch_18 : decode cM_touch 18 = .ok (.putfield 51, 3) := by decide +kernel
theorem dM_touch_21 : decode cM_touch 21 = .ok (.goto 15, 3) := by decide +kernel
theorem dM_touch_24 : decode cM_touch 24 = .ok (.aload_n 0, 1) := by decide +kernel
theorem dM_touch_25 : decode cM_touch 25 = .ok (.getfield 28, 3) := by decide +kernel
theorem dM_touch_28 : decode cM_touch 28 = .ok (.bipush 20, 2) := by decide +kernel
theorem dM_touch_30 : decode cM_touch 30 = .ok (.iload_n 1, 1) := by decide +kernel
theorem dM_touch_31 : decode cM_touch 31 = .ok (.imul, 1) := by decide +kernel
theorem dM_touch_32 : decode cM_touch 32 = .ok (.iload_n 2, 1) := by decide +kernel
theorem dM_touch_33 : decode cM_touch 33 = .ok (.iadd, 1) := by decide +kernel
theorem dM_touch_34 : decode cM_touch 34 = .ok (.iconst 1, 1) := by decide +kernel
theorem dM_touch_35 : decode cM_touch 35 = .ok (.bastore, 1) := by decide +kernel
theorem dM_touch_36 : decode cM_touch 36 = .ok (.return_, 1) := by decide +kernel
theorem dM_speaks_0 : decode cM_speaks 0 = .ok (.iconst 0, 1) := by decide +kernel
theorem dM_speaks_1 : decode cM_speaks 1 = .ok (.istore_n 3, 1) := by decide +kernel
theorem dM_speaks_2 : decode cM_speaks 2 = .ok (.iload_n 3, 1) := by decide +kernel
theorem dM_speaks_3 : decode cM_speaks 3 = .ok (.aload_n 0, 1) := by decide +kernel
theorem dM_speaks_4 : decode cM_speaks 4 = .ok (.getfield 20, 3) := by decide +kernel
theorem dM_speaks_7 : decode cM_speaks 7 = .ok (.iload_n 1, 1) := by decide +kernel
theorem dM_speaks_8 : decode cM_speaks 8 = .ok (.iaload, 1) := by decide +kernel
theorem dM_speaks_9 : decode cM_speaks 9 = .ok (.if_icmp .ge 77, 3) := by decide +kernel
theorem dM_speaks_12 : decode cM_speaks 12 = .ok (.aload_n 0, 1) := by decide +kernel
theorem dM_speaks_13 : decode cM_speaks 13 = .ok (.getfield 25, 3) := by decide +kernel
theorem dM_speaks_16 : decode cM_speaks 16 = .ok (.iload_n 1, 1) := by decide +kernel
theorem dM_speaks_17 : decode cM_speaks 17 = .ok (.aaload, 1) := by decide +kernel
theorem dM_speaks_18 : decode cM_speaks 18 = .ok (.astore 4, 2) := by decide +kernel
theorem dM_speaks_20 : decode cM_speaks 20 = .ok (.iload_n 2, 1) := by decide +kernel
theorem dM_speaks_21 : decode cM_speaks 21 = .ok (.bipush 20, 2) := by decide +kernel
theorem dM_speaks_23 : decode cM_speaks 23 = .ok (.idiv, 1) := by decide +kernel
theorem dM_speaks_24 : decode cM_speaks 24 = .ok (.aload 4, 2) := by decide +kernel
theorem dM_speaks_26 : decode cM_speaks 26 = .ok (.iconst 4, 1) := by decide +kernel
theorem dM_speaks_27 : decode cM_speaks 27 = .ok (.iload_n 3, 1) := by decide +kernel
theorem dM_speaks_28 : decode cM_speaks 28 = .ok (.imul, 1) := by decide +kernel
theorem dM_speaks_29 : decode cM_speaks 29 = .ok (.iaload, 1) := by decide +kernel
theorem dM_speaks_30 : decode cM_speaks 30 = .ok (.if_icmp .lt 50, 3) := by decide +kernel
theorem dM_speaks_33 : decode cM_speaks 33 = .ok (.iload_n 2, 1) := by decide +kernel
theorem dM_speaks_34 : decode cM_speaks 34 = .ok (.bipush 20, 2) := by decide +kernel
theorem dM_speaks_36 : decode cM_speaks 36 = .ok (.idiv, 1) := by decide +kernel
theorem dM_speaks_37 : decode cM_speaks 37 = .ok (.aload 4, 2) := by decide +kernel
theorem dM_speaks_39 : decode cM_speaks 39 = .ok (.iconst 4, 1) := by decide +kernel
theorem dM_speaks_40 : decode cM_speaks 40 = .ok (.iload_n 3, 1) := by decide +kernel
theorem dM_speaks_41 : decode cM_speaks 41 = .ok (.imul, 1) := by decide +kernel
theorem dM_speaks_42 : decode cM_speaks 42 = .ok (.iconst 2, 1) := by decide +kernel
theorem dM_speaks_43 : decode cM_speaks 43 = .ok (.iadd, 1) := by decide +kernel
theorem dM_speaks_44 : decode cM_speaks 44 = .ok (.iaload, 1) := by decide +kernel
theorem dM_speaks_45 : decode cM_speaks 45 = .ok (.if_icmp .gt 35, 3) := by decide +kernel
theorem dM_speaks_48 : decode cM_speaks 48 = .ok (.iload_n 2, 1) := by decide +kernel
theorem dM_speaks_49 : decode cM_speaks 49 = .ok (.bipush 20, 2) := by decide +kernel
theorem dM_speaks_51 : decode cM_speaks 51 = .ok (.irem, 1) := by decide +kernel
theorem dM_speaks_52 : decode cM_speaks 52 = .ok (.aload 4, 2) := by decide +kernel
theorem dM_speaks_54 : decode cM_speaks 54 = .ok (.iconst 4, 1) := by decide +kernel
theorem dM_speaks_55 : decode cM_speaks 55 = .ok (.iload_n 3, 1) := by decide +kernel
theorem dM_speaks_56 : decode cM_speaks 56 = .ok (.imul, 1) := by decide +kernel
theorem dM_speaks_57 : decode cM_speaks 57 = .ok (.iconst 1, 1) := by decide +kernel
theorem dM_speaks_58 : decode cM_speaks 58 = .ok (.iadd, 1) := by decide +kernel
theorem dM_speaks_59 : decode cM_speaks 59 = .ok (.iaload, 1) := by decide +kernel
theorem dM_speaks_60 : decode cM_speaks 60 = .ok (.if_icmp .lt 20, 3) := by decide +kernel
theorem dM_speaks_63 : decode cM_speaks 63 = .ok (.iload_n 2, 1) := by decide +kernel
theorem dM_speaks_64 : decode cM_speaks 64 = .ok (.bipush 20, 2) := by decide +kernel
theorem dM_speaks_66 : decode cM_speaks 66 = .ok (.irem, 1) := by decide +kernel
theorem dM_speaks_67 : decode cM_speaks 67 = .ok (.aload 4, 2) := by decide +kernel
theorem dM_speaks_69 : decode cM_speaks 69 = .ok (.iconst 4, 1) := by decide +kernel
theorem dM_speaks_70 : decode cM_speaks 70 = .ok (.iload_n 3, 1) := by decide +kernel
theorem dM_speaks_71 : decode cM_speaks 71 = .ok (.imul, 1) := by decide +kernel
theorem dM_speaks_72 : decode cM_speaks 72 = .ok (.iconst 3, 1) := by decide +kernel
theorem dM_speaks_73 : decode cM_speaks 73 = .ok (.iadd, 1) := by decide +kernel
theorem dM_speaks_74 : decode cM_speaks 74 = .ok (.iaload, 1) := by decide +kernel
theorem dM_speaks_75 : decode cM_speaks 75 = .ok (.if_icmp .gt 5, 3) := by decide +kernel
theorem dM_speaks_78 : decode cM_speaks 78 = .ok (.iconst 1, 1) := by decide +kernel
theorem dM_speaks_79 : decode cM_speaks 79 = .ok (.ireturn, 1) := by decide +kernel
theorem dM_speaks_80 : decode cM_speaks 80 = .ok (.iinc 3 1, 3) := by decide +kernel
theorem dM_speaks_83 : decode cM_speaks 83 = .ok (.goto (-81), 3) := by decide +kernel
theorem dM_speaks_86 : decode cM_speaks 86 = .ok (.iconst 0, 1) := by decide +kernel
theorem dM_speaks_87 : decode cM_speaks 87 = .ok (.ireturn, 1) := by decide +kernel
theorem dM_survey_0 : decode cM_survey 0 = .ok (.iconst 0, 1) := by decide +kernel
theorem dM_survey_1 : decode cM_survey 1 = .ok (.istore_n 1, 1) := by decide +kernel
theorem dM_survey_2 : decode cM_survey 2 = .ok (.iload_n 1, 1) := by decide +kernel
theorem dM_survey_3 : decode cM_survey 3 = .ok (.sipush 400, 3) := by decide +kernel
theorem dM_survey_6 : decode cM_survey 6 = .ok (.if_icmp .ge 54, 3) := by decide +kernel
theorem dM_survey_9 : decode cM_survey 9 = .ok (.aload_n 0, 1) := by decide +kernel
theorem dM_survey_10 : decode cM_survey 10 = .ok (.getfield 31, 3) := by decide +kernel
theorem dM_survey_13 : decode cM_survey 13 = .ok (.iload_n 1, 1) := by decide +kernel
theorem dM_survey_14 : decode cM_survey 14 = .ok (.iconst 0, 1) := by decide +kernel
theorem dM_survey_15 : decode cM_survey 15 = .ok (.bastore, 1) := by decide +kernel
theorem dM_survey_16 : decode cM_survey 16 = .ok (.aload_n 0, 1) := by decide +kernel
theorem dM_survey_17 : decode cM_survey 17 = .ok (.getfield 34, 3) := by decide +kernel
theorem dM_survey_20 : decode cM_survey 20 = .ok (.iload_n 1, 1) := by decide +kernel
theorem dM_survey_21 : decode cM_survey 21 = .ok (.iconst 0, 1) := by decide +kernel
theorem dM_survey_22 : decode cM_survey 22 = .ok (.bastore, 1) := by decide +kernel
theorem dM_survey_23 : decode cM_survey 23 = .ok (.aload_n 0, 1) := by decide +kernel
theorem dM_survey_24 : decode cM_survey 24 = .ok (.getfield 37, 3) := by decide +kernel
theorem dM_survey_27 : decode cM_survey 27 = .ok (.iload_n 1, 1) := by decide +kernel
theorem dM_survey_28 : decode cM_survey 28 = .ok (.iconst 0, 1) := by decide +kernel
theorem dM_survey_29 : decode cM_survey 29 = .ok (.iastore, 1) := by decide +kernel
theorem dM_survey_30 : decode cM_survey 30 = .ok (.iconst 0, 1) := by decide +kernel
theorem dM_survey_31 : decode cM_survey 31 = .ok (.istore_n 2, 1) := by decide +kernel
theorem dM_survey_32 : decode cM_survey 32 = .ok (.iload_n 2, 1) := by decide +kernel
theorem dM_survey_33 : decode cM_survey 33 = .ok (.sipush 400, 3) := by decide +kernel
theorem dM_survey_36 : decode cM_survey 36 = .ok (.if_icmp .ge 18, 3) := by decide +kernel
theorem dM_survey_39 : decode cM_survey 39 = .ok (.aload_n 0, 1) := by decide +kernel
theorem dM_survey_40 : decode cM_survey 40 = .ok (.getfield 42, 3) := by decide +kernel
theorem dM_survey_43 : decode cM_survey 43 = .ok (.iload_n 1, 1) := by decide +kernel
theorem dM_survey_44 : decode cM_survey 44 = .ok (.aaload, 1) := by decide +kernel
theorem dM_survey_45 : decode cM_survey 45 = .ok (.iload_n 2, 1) := by decide +kernel
theorem dM_survey_46 : decode cM_survey 46 = .ok (.iconst 0, 1) := by decide +kernel
theorem dM_survey_47 : decode cM_survey 47 = .ok (.bastore, 1) := by decide +kernel
theorem dM_survey_48 : decode cM_survey 48 = .ok (.iinc 2 1, 3) := by decide +kernel
theorem dM_survey_51 : decode cM_survey 51 = .ok (.goto (-19), 3) := by decide +kernel
theorem dM_survey_54 : decode cM_survey 54 = .ok (.iinc 1 1, 3) := by decide +kernel
theorem dM_survey_57 : decode cM_survey 57 = .ok (.goto (-55), 3) := by decide +kernel
theorem dM_survey_60 : decode cM_survey 60 = .ok (.iconst 0, 1) := by decide +kernel
theorem dM_survey_61 : decode cM_survey 61 = .ok (.istore_n 1, 1) := by decide +kernel
theorem dM_survey_62 : decode cM_survey 62 = .ok (.iload_n 1, 1) := by decide +kernel
theorem dM_survey_63 : decode cM_survey 63 = .ok (.sipush 400, 3) := by decide +kernel
theorem dM_survey_66 : decode cM_survey 66 = .ok (.if_icmp .ge 113, 3) := by decide +kernel
theorem dM_survey_69 : decode cM_survey 69 = .ok (.aload_n 0, 1) := by decide +kernel
theorem dM_survey_70 : decode cM_survey 70 = .ok (.iload_n 1, 1) := by decide +kernel
theorem dM_survey_71 : decode cM_survey 71 = .ok (.invokevirtual 63, 3) := by decide +kernel
theorem dM_survey_74 : decode cM_survey 74 = .ok (.istore_n 2, 1) := by decide +kernel
theorem dM_survey_75 : decode cM_survey 75 = .ok (.iload_n 2, 1) := by decide +kernel
theorem dM_survey_76 : decode cM_survey 76 = .ok (.ifCond .lt 19, 3) := by decide +kernel
theorem dM_survey_79 : decode cM_survey 79 = .ok (.aload_n 0, 1) := by decide +kernel
theorem dM_survey_80 : decode cM_survey 80 = .ok (.getfield 28, 3) := by decide +kernel
theorem dM_survey_83 : decode cM_survey 83 = .ok (.iload_n 1, 1) := by decide +kernel
theorem dM_survey_84 : decode cM_survey 84 = .ok (.baload, 1) := by decide +kernel
theorem dM_survey_85 : decode cM_survey 85 = .ok (.ifCond .eq 10, 3) := by decide +kernel
theorem dM_survey_88 : decode cM_survey 88 = .ok (.aload_n 0, 1) := by decide +kernel
theorem dM_survey_89 : decode cM_survey 89 = .ok (.getfield 31, 3) := by decide +kernel
theorem dM_survey_92 : decode cM_survey 92 = .ok (.iload_n 2, 1) := by decide +kernel
theorem dM_survey_93 : decode cM_survey 93 = .ok (.iconst 1, 1) := by decide +kernel
theorem dM_survey_94 : decode cM_survey 94 = .ok (.bastore, 1) := by decide +kernel
theorem dM_survey_95 : decode cM_survey 95 = .ok (.iconst 0, 1) := by decide +kernel
theorem dM_survey_96 : decode cM_survey 96 = .ok (.istore_n 3, 1) := by decide +kernel
theorem dM_survey_97 : decode cM_survey 97 = .ok (.iload_n 3, 1) := by decide +kernel
theorem dM_survey_98 : decode cM_survey 98 = .ok (.sipush 400, 3) := by decide +kernel
theorem dM_survey_101 : decode cM_survey 101 = .ok (.if_icmp .ge 72, 3) := by decide +kernel
theorem dM_survey_104 : decode cM_survey 104 = .ok (.aload_n 0, 1) := by decide +kernel
theorem dM_survey_105 : decode cM_survey 105 = .ok (.getfield 7, 3) := by decide +kernel
theorem dM_survey_108 : decode cM_survey 108 = .ok (.iload_n 3, 1) := by decide +kernel
theorem dM_survey_109 : decode cM_survey 109 = .ok (.baload, 1) := by decide +kernel
theorem dM_survey_110 : decode cM_survey 110 = .ok (.ifCond .eq 57, 3) := by decide +kernel
theorem dM_survey_113 : decode cM_survey 113 = .ok (.iload_n 2, 1) := by decide +kernel
theorem dM_survey_114 : decode cM_survey 114 = .ok (.ifCond .ge 12, 3) := by decide +kernel
theorem dM_survey_117 : decode cM_survey 117 = .ok (.aload_n 0, 1) := by decide +kernel
theorem dM_survey_118 : decode cM_survey 118 = .ok (.getfield 28, 3) := by decide +kernel
theorem dM_survey_121 : decode cM_survey 121 = .ok (.iload_n 1, 1) := by decide +kernel
theorem dM_survey_122 : decode cM_survey 122 = .ok (.baload, 1) := by decide +kernel
theorem dM_survey_123 : decode cM_survey 123 = .ok (.ifCond .eq 44, 3) := by decide +kernel
theorem dM_survey_126 : decode cM_survey 126 = .ok (.aload_n 0, 1) := by decide +kernel
theorem dM_survey_127 : decode cM_survey 127 = .ok (.iload_n 3, 1) := by decide +kernel
theorem dM_survey_128 : decode cM_survey 128 = .ok (.iload_n 1, 1) := by decide +kernel
theorem dM_survey_129 : decode cM_survey 129 = .ok (.invokevirtual 74, 3) := by decide +kernel
theorem dM_survey_132 : decode cM_survey 132 = .ok (.ifCond .ne 6, 3) := by decide +kernel
theorem dM_survey_135 : decode cM_survey 135 = .ok (.goto 32, 3) := by decide +kernel
theorem dM_survey_138 : decode cM_survey 138 = .ok (.iload_n 2, 1) := by decide +kernel
theorem dM_survey_139 : decode cM_survey 139 = .ok (.ifCond .lt 12, 3) := by decide +kernel
theorem dM_survey_142 : decode cM_survey 142 = .ok (.aload_n 0, 1) := by decide +kernel
theorem dM_survey_143 : decode cM_survey 143 = .ok (.getfield 42, 3) := by decide +kernel
theorem dM_survey_146 : decode cM_survey 146 = .ok (.iload_n 3, 1) := by decide +kernel
theorem dM_survey_147 : decode cM_survey 147 = .ok (.aaload, 1) := by decide +kernel
theorem dM_survey_148 : decode cM_survey 148 = .ok (.iload_n 2, 1) := by decide +kernel
theorem dM_survey_149 : decode cM_survey 149 = .ok (.iconst 1, 1) := by decide +kernel
theorem dM_survey_150 : decode cM_survey 150 = .ok (.bastore, 1) := by decide +kernel
theorem dM_survey_151 : decode cM_survey 151 = .ok (.aload_n 0, 1) := by decide +kernel
theorem dM_survey_152 : decode cM_survey 152 = .ok (.getfield 28, 3) := by decide +kernel
theorem dM_survey_155 : decode cM_survey 155 = .ok (.iload_n 1, 1) := by decide +kernel
theorem dM_survey_156 : decode cM_survey 156 = .ok (.baload, 1) := by decide +kernel
theorem dM_survey_157 : decode cM_survey 157 = .ok (.ifCond .eq 10, 3) := by decide +kernel
theorem dM_survey_160 : decode cM_survey 160 = .ok (.aload_n 0, 1) := by decide +kernel
theorem dM_survey_161 : decode cM_survey 161 = .ok (.getfield 31, 3) := by decide +kernel
theorem dM_survey_164 : decode cM_survey 164 = .ok (.iload_n 3, 1) := by decide +kernel
theorem dM_survey_165 : decode cM_survey 165 = .ok (.iconst 1, 1) := by decide +kernel
theorem dM_survey_166 : decode cM_survey 166 = .ok (.bastore, 1) := by decide +kernel
theorem dM_survey_167 : decode cM_survey 167 = .ok (.iinc 3 1, 3) := by decide +kernel
theorem dM_survey_170 : decode cM_survey 170 = .ok (.goto (-73), 3) := by decide +kernel
theorem dM_survey_173 : decode cM_survey 173 = .ok (.iinc 1 1, 3) := by decide +kernel
theorem dM_survey_176 : decode cM_survey 176 = .ok (.goto (-114), 3) := by decide +kernel
theorem dM_survey_179 : decode cM_survey 179 = .ok (.return_, 1) := by decide +kernel
theorem dM_comesBack_0 : decode cM_comesBack 0 = .ok (.iconst 0, 1) := by decide +kernel
theorem dM_comesBack_1 : decode cM_comesBack 1 = .ok (.istore_n 2, 1) := by decide +kernel
theorem dM_comesBack_2 : decode cM_comesBack 2 = .ok (.iload_n 2, 1) := by decide +kernel
theorem dM_comesBack_3 : decode cM_comesBack 3 = .ok (.sipush 400, 3) := by decide +kernel
theorem dM_comesBack_6 : decode cM_comesBack 6 = .ok (.if_icmp .ge 16, 3) := by decide +kernel
theorem dM_comesBack_9 : decode cM_comesBack 9 = .ok (.aload_n 0, 1) := by decide +kernel
theorem dM_comesBack_10 : decode cM_comesBack 10 = .ok (.getfield 45, 3) := by decide +kernel
theorem dM_comesBack_13 : decode cM_comesBack 13 = .ok (.iload_n 2, 1) := by decide +kernel
theorem dM_comesBack_14 : decode cM_comesBack 14 = .ok (.iconst 0, 1) := by decide +kernel
theorem dM_comesBack_15 : decode cM_comesBack 15 = .ok (.bastore, 1) := by decide +kernel
theorem dM_comesBack_16 : decode cM_comesBack 16 = .ok (.iinc 2 1, 3) := by decide +kernel
theorem dM_comesBack_19 : decode cM_comesBack 19 = .ok (.goto (-17), 3) := by decide +kernel
theorem dM_comesBack_22 : decode cM_comesBack 22 = .ok (.iconst 1, 1) := by decide +kernel
theorem dM_comesBack_23 : decode cM_comesBack 23 = .ok (.istore_n 2, 1) := by decide +kernel
theorem dM_comesBack_24 : decode cM_comesBack 24 = .ok (.aload_n 0, 1) := by decide +kernel
theorem dM_comesBack_25 : decode cM_comesBack 25 = .ok (.getfield 48, 3) := by decide +kernel
theorem dM_comesBack_28 : decode cM_comesBack 28 = .ok (.iconst 0, 1) := by decide +kernel
theorem dM_comesBack_29 : decode cM_comesBack 29 = .ok (.iload_n 1, 1) := by decide +kernel
theorem dM_comesBack_30 : decode cM_comesBack 30 = .ok (.iastore, 1) := by decide +kernel
theorem dM_comesBack_31 : decode cM_comesBack 31 = .ok (.iconst 0, 1) := by decide +kernel
theorem dM_comesBack_32 : decode cM_comesBack 32 = .ok (.istore_n 3, 1) := by decide +kernel
theorem dM_comesBack_33 : decode cM_comesBack 33 = .ok (.iload_n 3, 1) := by decide +kernel
theorem dM_comesBack_34 : decode cM_comesBack 34 = .ok (.iload_n 2, 1) := by decide +kernel
theorem dM_comesBack_35 : decode cM_comesBack 35 = .ok (.if_icmp .ge 93, 3) := by decide +kernel
theorem dM_comesBack_38 : decode cM_comesBack 38 = .ok (.iconst 0, 1) := by decide +kernel
theorem dM_comesBack_39 : decode cM_comesBack 39 = .ok (.istore 4, 2) := by decide +kernel
theorem dM_comesBack_41 : decode cM_comesBack 41 = .ok (.iload 4, 2) := by decide +kernel
theorem dM_comesBack_43 : decode cM_comesBack 43 = .ok (.sipush 400, 3) := by decide +kernel
theorem dM_comesBack_46 : decode cM_comesBack 46 = .ok (.if_icmp .ge 76, 3) := by decide +kernel
theorem dM_comesBack_49 : decode cM_comesBack 49 = .ok (.aload_n 0, 1) := by decide +kernel
theorem dM_comesBack_50 : decode cM_comesBack 50 = .ok (.getfield 42, 3) := by decide +kernel
theorem dM_comesBack_53 : decode cM_comesBack 53 = .ok (.aload_n 0, 1) := by decide +kernel
theorem dM_comesBack_54 : decode cM_comesBack 54 = .ok (.getfield 48, 3) := by decide +kernel
theorem dM_comesBack_57 : decode cM_comesBack 57 = .ok (.iload_n 3, 1) := by decide +kernel
theorem dM_comesBack_58 : decode cM_comesBack 58 = .ok (.iaload, 1) := by decide +kernel
theorem dM_comesBack_59 : decode cM_comesBack 59 = .ok (.aaload, 1) := by decide +kernel
theorem dM_comesBack_60 : decode cM_comesBack 60 = .ok (.iload 4, 2) := by decide +kernel
theorem dM_comesBack_62 : decode cM_comesBack 62 = .ok (.baload, 1) := by decide +kernel
theorem dM_comesBack_63 : decode cM_comesBack 63 = .ok (.ifCond .eq 53, 3) := by decide +kernel
theorem dM_comesBack_66 : decode cM_comesBack 66 = .ok (.aload_n 0, 1) := by decide +kernel
theorem dM_comesBack_67 : decode cM_comesBack 67 = .ok (.getfield 31, 3) := by decide +kernel
theorem dM_comesBack_70 : decode cM_comesBack 70 = .ok (.iload 4, 2) := by decide +kernel
theorem dM_comesBack_72 : decode cM_comesBack 72 = .ok (.baload, 1) := by decide +kernel
theorem dM_comesBack_73 : decode cM_comesBack 73 = .ok (.ifCond .eq 43, 3) := by decide +kernel
theorem dM_comesBack_76 : decode cM_comesBack 76 = .ok (.aload_n 0, 1) := by decide +kernel
theorem dM_comesBack_77 : decode cM_comesBack 77 = .ok (.getfield 45, 3) := by decide +kernel
theorem dM_comesBack_80 : decode cM_comesBack 80 = .ok (.iload 4, 2) := by decide +kernel
theorem dM_comesBack_82 : decode cM_comesBack 82 = .ok (.baload, 1) := by decide +kernel
theorem dM_comesBack_83 : decode cM_comesBack 83 = .ok (.ifCond .eq 6, 3) := by decide +kernel
theorem dM_comesBack_86 : decode cM_comesBack 86 = .ok (.goto 30, 3) := by decide +kernel
theorem dM_comesBack_89 : decode cM_comesBack 89 = .ok (.iload 4, 2) := by decide +kernel
theorem dM_comesBack_91 : decode cM_comesBack 91 = .ok (.iload_n 1, 1) := by decide +kernel
theorem dM_comesBack_92 : decode cM_comesBack 92 = .ok (.if_icmp .ne 5, 3) := by decide +kernel
theorem dM_comesBack_95 : decode cM_comesBack 95 = .ok (.iconst 1, 1) := by decide +kernel
theorem dM_comesBack_96 : decode cM_comesBack 96 = .ok (.ireturn, 1) := by decide +kernel
theorem dM_comesBack_97 : decode cM_comesBack 97 = .ok (.aload_n 0, 1) := by decide +kernel
theorem dM_comesBack_98 : decode cM_comesBack 98 = .ok (.getfield 45, 3) := by decide +kernel
theorem dM_comesBack_101 : decode cM_comesBack 101 = .ok (.iload 4, 2) := by decide +kernel
theorem dM_comesBack_103 : decode cM_comesBack 103 = .ok (.iconst 1, 1) := by decide +kernel
theorem dM_comesBack_104 : decode cM_comesBack 104 = .ok (.bastore, 1) := by decide +kernel
theorem dM_comesBack_105 : decode cM_comesBack 105 = .ok (.aload_n 0, 1) := by decide +kernel
theorem dM_comesBack_106 : decode cM_comesBack 106 = .ok (.getfield 48, 3) := by decide +kernel
theorem dM_comesBack_109 : decode cM_comesBack 109 = .ok (.iload_n 2, 1) := by decide +kernel
theorem dM_comesBack_110 : decode cM_comesBack 110 = .ok (.iload 4, 2) := by decide +kernel
theorem dM_comesBack_112 : decode cM_comesBack 112 = .ok (.iastore, 1) := by decide +kernel
theorem dM_comesBack_113 : decode cM_comesBack 113 = .ok (.iinc 2 1, 3) := by decide +kernel
theorem dM_comesBack_116 : decode cM_comesBack 116 = .ok (.iinc 4 1, 3) := by decide +kernel
theorem dM_comesBack_119 : decode cM_comesBack 119 = .ok (.goto (-78), 3) := by decide +kernel
theorem dM_comesBack_122 : decode cM_comesBack 122 = .ok (.iinc 3 1, 3) := by decide +kernel
theorem dM_comesBack_125 : decode cM_comesBack 125 = .ok (.goto (-92), 3) := by decide +kernel
theorem dM_comesBack_128 : decode cM_comesBack 128 = .ok (.iconst 0, 1) := by decide +kernel
theorem dM_comesBack_129 : decode cM_comesBack 129 = .ok (.ireturn, 1) := by decide +kernel
theorem dM_spread_0 : decode cM_spread 0 = .ok (.aload_n 0, 1) := by decide +kernel
theorem dM_spread_1 : decode cM_spread 1 = .ok (.iconst 0, 1) := by decide +kernel
theorem dM_spread_2 : decode cM_spread 2 = .ok (.putfield 51, 3) := by decide +kernel
theorem dM_spread_5 : decode cM_spread 5 = .ok (.aload_n 0, 1) := by decide +kernel
theorem dM_spread_6 : decode cM_spread 6 = .ok (.invokevirtual 78, 3) := by decide +kernel
theorem dM_spread_9 : decode cM_spread 9 = .ok (.iconst 1, 1) := by decide +kernel
theorem dM_spread_10 : decode cM_spread 10 = .ok (.istore_n 1, 1) := by decide +kernel
theorem dM_spread_11 : decode cM_spread 11 = .ok (.iload_n 1, 1) := by decide +kernel
theorem dM_spread_12 : decode cM_spread 12 = .ok (.ifCond .eq 88, 3) := by decide +kernel
theorem dM_spread_15 : decode cM_spread 15 = .ok (.iconst 0, 1) := by decide +kernel
theorem dM_spread_16 : decode cM_spread 16 = .ok (.istore_n 1, 1) := by decide +kernel
theorem dM_spread_17 : decode cM_spread 17 = .ok (.iconst 0, 1) := by decide +kernel
theorem dM_spread_18 : decode cM_spread 18 = .ok (.istore_n 2, 1) := by decide +kernel
theorem dM_spread_19 : decode cM_spread 19 = .ok (.iload_n 2, 1) := by decide +kernel
theorem dM_spread_20 : decode cM_spread 20 = .ok (.sipush 400, 3) := by decide +kernel
theorem dM_spread_23 : decode cM_spread 23 = .ok (.if_icmp .ge 74, 3) := by decide +kernel
theorem dM_spread_26 : decode cM_spread 26 = .ok (.iconst 0, 1) := by decide +kernel
theorem dM_spread_27 : decode cM_spread 27 = .ok (.istore_n 3, 1) := by decide +kernel
theorem dM_spread_28 : decode cM_spread 28 = .ok (.iload_n 3, 1) := by decide +kernel
theorem dM_spread_29 : decode cM_spread 29 = .ok (.sipush 400, 3) := by decide +kernel
theorem dM_spread_32 : decode cM_spread 32 = .ok (.if_icmp .ge 59, 3) := by decide +kernel
theorem dM_spread_35 : decode cM_spread 35 = .ok (.aload_n 0, 1) := by decide +kernel
theorem dM_spread_36 : decode cM_spread 36 = .ok (.getfield 7, 3) := by decide +kernel
theorem dM_spread_39 : decode cM_spread 39 = .ok (.iload_n 2, 1) := by decide +kernel
theorem dM_spread_40 : decode cM_spread 40 = .ok (.baload, 1) := by decide +kernel
theorem dM_spread_41 : decode cM_spread 41 = .ok (.ifCond .eq 50, 3) := by decide +kernel
theorem dM_spread_44 : decode cM_spread 44 = .ok (.aload_n 0, 1) := by decide +kernel
theorem dM_spread_45 : decode cM_spread 45 = .ok (.getfield 31, 3) := by decide +kernel
theorem dM_spread_48 : decode cM_spread 48 = .ok (.iload_n 2, 1) := by decide +kernel
theorem dM_spread_49 : decode cM_spread 49 = .ok (.baload, 1) := by decide +kernel
theorem dM_spread_50 : decode cM_spread 50 = .ok (.ifCond .ne 41, 3) := by decide +kernel
theorem dM_spread_53 : decode cM_spread 53 = .ok (.aload_n 0, 1) := by decide +kernel
theorem dM_spread_54 : decode cM_spread 54 = .ok (.getfield 42, 3) := by decide +kernel
theorem dM_spread_57 : decode cM_spread 57 = .ok (.iload_n 2, 1) := by decide +kernel
theorem dM_spread_58 : decode cM_spread 58 = .ok (.aaload, 1) := by decide +kernel
theorem dM_spread_59 : decode cM_spread 59 = .ok (.iload_n 3, 1) := by decide +kernel
theorem dM_spread_60 : decode cM_spread 60 = .ok (.baload, 1) := by decide +kernel
theorem dM_spread_61 : decode cM_spread 61 = .ok (.ifCond .eq 24, 3) := by decide +kernel
theorem dM_spread_64 : decode cM_spread 64 = .ok (.aload_n 0, 1) := by decide +kernel
theorem dM_spread_65 : decode cM_spread 65 = .ok (.getfield 31, 3) := by decide +kernel
theorem dM_spread_68 : decode cM_spread 68 = .ok (.iload_n 3, 1) := by decide +kernel
theorem dM_spread_69 : decode cM_spread 69 = .ok (.baload, 1) := by decide +kernel
theorem dM_spread_70 : decode cM_spread 70 = .ok (.ifCond .ne 6, 3) := by decide +kernel
theorem dM_spread_73 : decode cM_spread 73 = .ok (.goto 12, 3) := by decide +kernel
theorem dM_spread_76 : decode cM_spread 76 = .ok (.aload_n 0, 1) := by decide +kernel
theorem dM_spread_77 : decode cM_spread 77 = .ok (.getfield 31, 3) := by decide +kernel
theorem dM_spread_80 : decode cM_spread 80 = .ok (.iload_n 2, 1) := by decide +kernel
theorem dM_spread_81 : decode cM_spread 81 = .ok (.iconst 1, 1) := by decide +kernel
theorem dM_spread_82 : decode cM_spread 82 = .ok (.bastore, 1) := by decide +kernel
theorem dM_spread_83 : decode cM_spread 83 = .ok (.iconst 1, 1) := by decide +kernel
theorem dM_spread_84 : decode cM_spread 84 = .ok (.istore_n 1, 1) := by decide +kernel
theorem dM_spread_85 : decode cM_spread 85 = .ok (.iinc 3 1, 3) := by decide +kernel
theorem dM_spread_88 : decode cM_spread 88 = .ok (.goto (-60), 3) := by decide +kernel
theorem dM_spread_91 : decode cM_spread 91 = .ok (.iinc 2 1, 3) := by decide +kernel
theorem dM_spread_94 : decode cM_spread 94 = .ok (.goto (-75), 3) := by decide +kernel
theorem dM_spread_97 : decode cM_spread 97 = .ok (.goto (-86), 3) := by decide +kernel
theorem dM_spread_100 : decode cM_spread 100 = .ok (.iconst 0, 1) := by decide +kernel
theorem dM_spread_101 : decode cM_spread 101 = .ok (.istore_n 2, 1) := by decide +kernel
theorem dM_spread_102 : decode cM_spread 102 = .ok (.iconst 0, 1) := by decide +kernel
theorem dM_spread_103 : decode cM_spread 103 = .ok (.istore_n 3, 1) := by decide +kernel
theorem dM_spread_104 : decode cM_spread 104 = .ok (.iload_n 3, 1) := by decide +kernel
theorem dM_spread_105 : decode cM_spread 105 = .ok (.sipush 400, 3) := by decide +kernel
theorem dM_spread_108 : decode cM_spread 108 = .ok (.if_icmp .ge 35, 3) := by decide +kernel
theorem dM_spread_111 : decode cM_spread 111 = .ok (.aload_n 0, 1) := by decide +kernel
theorem dM_spread_112 : decode cM_spread 112 = .ok (.getfield 31, 3) := by decide +kernel
theorem dM_spread_115 : decode cM_spread 115 = .ok (.iload_n 3, 1) := by decide +kernel
theorem dM_spread_116 : decode cM_spread 116 = .ok (.baload, 1) := by decide +kernel
theorem dM_spread_117 : decode cM_spread 117 = .ok (.ifCond .ne 6, 3) := by decide +kernel
theorem dM_spread_120 : decode cM_spread 120 = .ok (.goto 17, 3) := by decide +kernel
theorem dM_spread_123 : decode cM_spread 123 = .ok (.iinc 2 1, 3) := by decide +kernel
theorem dM_spread_126 : decode cM_spread 126 = .ok (.aload_n 0, 1) := by decide +kernel
theorem dM_spread_127 : decode cM_spread 127 = .ok (.getfield 34, 3) := by decide +kernel
theorem dM_spread_130 : decode cM_spread 130 = .ok (.iload_n 3, 1) := by decide +kernel
theorem dM_spread_131 : decode cM_spread 131 = .ok (.aload_n 0, 1) := by decide +kernel
theorem dM_spread_132 : decode cM_spread 132 = .ok (.iload_n 3, 1) := by decide +kernel
theorem dM_spread_133 : decode cM_spread 133 = .ok (.invokevirtual 81, 3) := by decide +kernel
theorem dM_spread_136 : decode cM_spread 136 = .ok (.bastore, 1) := by decide +kernel
theorem dM_spread_137 : decode cM_spread 137 = .ok (.iinc 3 1, 3) := by decide +kernel
theorem dM_spread_140 : decode cM_spread 140 = .ok (.goto (-36), 3) := by decide +kernel
theorem dM_spread_143 : decode cM_spread 143 = .ok (.iconst 1, 1) := by decide +kernel
theorem dM_spread_144 : decode cM_spread 144 = .ok (.istore_n 1, 1) := by decide +kernel
theorem dM_spread_145 : decode cM_spread 145 = .ok (.iload_n 1, 1) := by decide +kernel
theorem dM_spread_146 : decode cM_spread 146 = .ok (.ifCond .eq 128, 3) := by decide +kernel
theorem dM_spread_149 : decode cM_spread 149 = .ok (.iconst 0, 1) := by decide +kernel
theorem dM_spread_150 : decode cM_spread 150 = .ok (.istore_n 1, 1) := by decide +kernel
theorem dM_spread_151 : decode cM_spread 151 = .ok (.iconst 0, 1) := by decide +kernel
theorem dM_spread_152 : decode cM_spread 152 = .ok (.istore_n 3, 1) := by decide +kernel
theorem dM_spread_153 : decode cM_spread 153 = .ok (.iload_n 3, 1) := by decide +kernel
theorem dM_spread_154 : decode cM_spread 154 = .ok (.sipush 400, 3) := by decide +kernel
theorem dM_spread_157 : decode cM_spread 157 = .ok (.if_icmp .ge 114, 3) := by decide +kernel
theorem dM_spread_160 : decode cM_spread 160 = .ok (.aload_n 0, 1) := by decide +kernel
theorem dM_spread_161 : decode cM_spread 161 = .ok (.getfield 31, 3) := by decide +kernel
theorem dM_spread_164 : decode cM_spread 164 = .ok (.iload_n 3, 1) := by decide +kernel
theorem dM_spread_165 : decode cM_spread 165 = .ok (.baload, 1) := by decide +kernel
theorem dM_spread_166 : decode cM_spread 166 = .ok (.ifCond .eq 99, 3) := by decide +kernel
theorem dM_spread_169 : decode cM_spread 169 = .ok (.aload_n 0, 1) := by decide +kernel
theorem dM_spread_170 : decode cM_spread 170 = .ok (.getfield 34, 3) := by decide +kernel
theorem dM_spread_173 : decode cM_spread 173 = .ok (.iload_n 3, 1) := by decide +kernel
theorem dM_spread_174 : decode cM_spread 174 = .ok (.baload, 1) := by decide +kernel
theorem dM_spread_175 : decode cM_spread 175 = .ok (.ifCond .eq 6, 3) := by decide +kernel
theorem dM_spread_178 : decode cM_spread 178 = .ok (.goto 87, 3) := by decide +kernel
theorem dM_spread_181 : decode cM_spread 181 = .ok (.iconst 0, 1) := by decide +kernel
theorem dM_spread_182 : decode cM_spread 182 = .ok (.istore 4, 2) := by decide +kernel
theorem dM_spread_184 : decode cM_spread 184 = .ok (.iconst 0, 1) := by decide +kernel
theorem dM_spread_185 : decode cM_spread 185 = .ok (.istore 5, 2) := by decide +kernel
theorem dM_spread_187 : decode cM_spread 187 = .ok (.iload 5, 2) := by decide +kernel
theorem dM_spread_189 : decode cM_spread 189 = .ok (.sipush 400, 3) := by decide +kernel
theorem dM_spread_192 : decode cM_spread 192 = .ok (.if_icmp .ge 45, 3) := by decide +kernel
theorem dM_spread_195 : decode cM_spread 195 = .ok (.aload_n 0, 1) := by decide +kernel
theorem dM_spread_196 : decode cM_spread 196 = .ok (.getfield 42, 3) := by decide +kernel
theorem dM_spread_199 : decode cM_spread 199 = .ok (.iload_n 3, 1) := by decide +kernel
theorem dM_spread_200 : decode cM_spread 200 = .ok (.aaload, 1) := by decide +kernel
theorem dM_spread_201 : decode cM_spread 201 = .ok (.iload 5, 2) := by decide +kernel
theorem dM_spread_203 : decode cM_spread 203 = .ok (.baload, 1) := by decide +kernel
theorem dM_spread_204 : decode cM_spread 204 = .ok (.ifCond .eq 27, 3) := by decide +kernel
theorem dM_spread_207 : decode cM_spread 207 = .ok (.aload_n 0, 1) := by decide +kernel
theorem dM_spread_208 : decode cM_spread 208 = .ok (.getfield 31, 3) := by decide +kernel
theorem dM_spread_211 : decode cM_spread 211 = .ok (.iload 5, 2) := by decide +kernel
theorem dM_spread_213 : decode cM_spread 213 = .ok (.baload, 1) := by decide +kernel
theorem dM_spread_214 : decode cM_spread 214 = .ok (.ifCond .eq 17, 3) := by decide +kernel
theorem dM_spread_217 : decode cM_spread 217 = .ok (.iload 4, 2) := by decide +kernel
theorem dM_spread_219 : decode cM_spread 219 = .ok (.aload_n 0, 1) := by decide +kernel
theorem dM_spread_220 : decode cM_spread 220 = .ok (.getfield 37, 3) := by decide +kernel
theorem dM_spread_223 : decode cM_spread 223 = .ok (.iload 5, 2) := by decide +kernel
theorem dM_spread_225 : decode cM_spread 225 = .ok (.iaload, 1) := by decide +kernel
theorem dM_spread_226 : decode cM_spread 226 = .ok (.invokestatic 85, 3) := by decide +kernel
theorem dM_spread_229 : decode cM_spread 229 = .ok (.istore 4, 2) := by decide +kernel
theorem dM_spread_231 : decode cM_spread 231 = .ok (.iinc 5 1, 3) := by decide +kernel
theorem dM_spread_234 : decode cM_spread 234 = .ok (.goto (-47), 3) := by decide +kernel
theorem dM_spread_237 : decode cM_spread 237 = .ok (.aload_n 0, 1) := by decide +kernel
theorem dM_spread_238 : decode cM_spread 238 = .ok (.getfield 37, 3) := by decide +kernel
theorem dM_spread_241 : decode cM_spread 241 = .ok (.iload_n 3, 1) := by decide +kernel
theorem dM_spread_242 : decode cM_spread 242 = .ok (.iaload, 1) := by decide +kernel
theorem dM_spread_243 : decode cM_spread 243 = .ok (.iload 4, 2) := by decide +kernel
theorem dM_spread_245 : decode cM_spread 245 = .ok (.iconst 1, 1) := by decide +kernel
theorem dM_spread_246 : decode cM_spread 246 = .ok (.iadd, 1) := by decide +kernel
theorem dM_spread_247 : decode cM_spread 247 = .ok (.if_icmp .ne 6, 3) := by decide +kernel
theorem dM_spread_250 : decode cM_spread 250 = .ok (.goto 15, 3) := by decide +kernel
theorem dM_spread_253 : decode cM_spread 253 = .ok (.aload_n 0, 1) := by decide +kernel
theorem dM_spread_254 : decode cM_spread 254 = .ok (.getfield 37, 3) := by decide +kernel
theorem dM_spread_257 : decode cM_spread 257 = .ok (.iload_n 3, 1) := by decide +kernel
theorem dM_spread_258 : decode cM_spread 258 = .ok (.iload 4, 2) := by decide +kernel
theorem dM_spread_260 : decode cM_spread 260 = .ok (.iconst 1, 1) := by decide +kernel
theorem dM_spread_261 : decode cM_spread 261 = .ok (.iadd, 1) := by decide +kernel
theorem dM_spread_262 : decode cM_spread 262 = .ok (.iastore, 1) := by decide +kernel
theorem dM_spread_263 : decode cM_spread 263 = .ok (.iconst 1, 1) := by decide +kernel
theorem dM_spread_264 : decode cM_spread 264 = .ok (.istore_n 1, 1) := by decide +kernel
theorem dM_spread_265 : decode cM_spread 265 = .ok (.iinc 3 1, 3) := by decide +kernel
theorem dM_spread_268 : decode cM_spread 268 = .ok (.goto (-115), 3) := by decide +kernel
theorem dM_spread_271 : decode cM_spread 271 = .ok (.goto (-126), 3) := by decide +kernel
theorem dM_spread_274 : decode cM_spread 274 = .ok (.iconst 0, 1) := by decide +kernel
theorem dM_spread_275 : decode cM_spread 275 = .ok (.istore_n 3, 1) := by decide +kernel
theorem dM_spread_276 : decode cM_spread 276 = .ok (.iload_n 3, 1) := by decide +kernel
theorem dM_spread_277 : decode cM_spread 277 = .ok (.sipush 400, 3) := by decide +kernel
theorem dM_spread_280 : decode cM_spread 280 = .ok (.if_icmp .ge 16, 3) := by decide +kernel
theorem dM_spread_283 : decode cM_spread 283 = .ok (.aload_n 0, 1) := by decide +kernel
theorem dM_spread_284 : decode cM_spread 284 = .ok (.getfield 28, 3) := by decide +kernel
theorem dM_spread_287 : decode cM_spread 287 = .ok (.iload_n 3, 1) := by decide +kernel
theorem dM_spread_288 : decode cM_spread 288 = .ok (.iconst 0, 1) := by decide +kernel
theorem dM_spread_289 : decode cM_spread 289 = .ok (.bastore, 1) := by decide +kernel
theorem dM_spread_290 : decode cM_spread 290 = .ok (.iinc 3 1, 3) := by decide +kernel
theorem dM_spread_293 : decode cM_spread 293 = .ok (.goto (-17), 3) := by decide +kernel
theorem dM_spread_296 : decode cM_spread 296 = .ok (.iload_n 2, 1) := by decide +kernel
theorem dM_spread_297 : decode cM_spread 297 = .ok (.ireturn, 1) := by decide +kernel
theorem dM_told_0 : decode cM_told 0 = .ok (.aload_n 0, 1) := by decide +kernel
theorem dM_told_1 : decode cM_told 1 = .ok (.iconst 0, 1) := by decide +kernel
theorem dM_told_2 : decode cM_told 2 = .ok (.putfield 51, 3) := by decide +kernel
theorem dM_told_5 : decode cM_told 5 = .ok (.aload_n 0, 1) := by decide +kernel
theorem dM_told_6 : decode cM_told 6 = .ok (.iload_n 1, 1) := by decide +kernel
theorem dM_told_7 : decode cM_told 7 = .ok (.iload_n 2, 1) := by decide +kernel
theorem dM_told_8 : decode cM_told 8 = .ok (.iconst 1, 1) := by decide +kernel
theorem dM_told_9 : decode cM_told 9 = .ok (.iconst 1, 1) := by decide +kernel
theorem dM_told_10 : decode cM_told 10 = .ok (.invokevirtual 55, 3) := by decide +kernel
theorem dM_told_13 : decode cM_told 13 = .ok (.ifCond .ne 12, 3) := by decide +kernel
theorem dM_told_16 : decode cM_told 16 = .ok (.iload_n 3, 1) := by decide +kernel
theorem dM_told_17 : decode cM_told 17 = .ok (.ifCond .lt 8, 3) := by decide +kernel
theorem dM_told_20 : decode cM_told 20 = .ok (.iload_n 3, 1) := by decide +kernel
theorem dM_told_21 : decode cM_told 21 = .ok (.iconst 2, 1) := by decide +kernel
theorem dM_told_22 : decode cM_told 22 = .ok (.if_icmp .le 9, 3) := by decide +kernel
theorem dM_told_25 : decode cM_told 25 = .ok (.aload_n 0, 1) := by decide +kernel
theorem dM_told_26 : decode cM_told 26 = .ok (.iconst 1, 1) := by decide +kernel
theorem dM_told_27 : decode cM_told 27 = .ok (.invokevirtual 59, 3) := by decide +kernel
theorem dM_told_30 : decode cM_told 30 = .ok (.ireturn, 1) := by decide +kernel
theorem dM_told_31 : decode cM_told 31 = .ok (.bipush 20, 2) := by decide +kernel
theorem dM_told_33 : decode cM_told 33 = .ok (.iload_n 1, 1) := by decide +kernel
theorem dM_told_34 : decode cM_told 34 = .ok (.imul, 1) := by decide +kernel
theorem dM_told_35 : decode cM_told 35 = .ok (.iload_n 2, 1) := by decide +kernel
theorem dM_told_36 : decode cM_told 36 = .ok (.iadd, 1) := by decide +kernel
theorem dM_told_37 : decode cM_told 37 = .ok (.istore 4, 2) := by decide +kernel
theorem dM_told_39 : decode cM_told 39 = .ok (.aload_n 0, 1) := by decide +kernel
theorem dM_told_40 : decode cM_told 40 = .ok (.getfield 7, 3) := by decide +kernel
theorem dM_told_43 : decode cM_told 43 = .ok (.iload 4, 2) := by decide +kernel
theorem dM_told_45 : decode cM_told 45 = .ok (.baload, 1) := by decide +kernel
theorem dM_told_46 : decode cM_told 46 = .ok (.ifCond .ne 9, 3) := by decide +kernel
theorem dM_told_49 : decode cM_told 49 = .ok (.aload_n 0, 1) := by decide +kernel
theorem dM_told_50 : decode cM_told 50 = .ok (.iconst 2, 1) := by decide +kernel
theorem dM_told_51 : decode cM_told 51 = .ok (.invokevirtual 59, 3) := by decide +kernel
theorem dM_told_54 : decode cM_told 54 = .ok (.ireturn, 1) := by decide +kernel
theorem dM_told_55 : decode cM_told 55 = .ok (.iload_n 3, 1) := by decide +kernel
theorem dM_told_56 : decode cM_told 56 = .ok (.ifCond .ne 21, 3) := by decide +kernel
theorem dM_told_59 : decode cM_told 59 = .ok (.aload_n 0, 1) := by decide +kernel
theorem dM_told_60 : decode cM_told 60 = .ok (.getfield 31, 3) := by decide +kernel
theorem dM_told_63 : decode cM_told 63 = .ok (.iload 4, 2) := by decide +kernel
theorem dM_told_65 : decode cM_told 65 = .ok (.baload, 1) := by decide +kernel
theorem dM_told_66 : decode cM_told 66 = .ok (.ifCond .eq 7, 3) := by decide +kernel
theorem dM_told_69 : decode cM_told 69 = .ok (.iconst 1, 1) := by decide +kernel
theorem dM_told_70 : decode cM_told 70 = .ok (.goto 37, 3) := by decide +kernel
theorem dM_told_73 : decode cM_told 73 = .ok (.iconst 0, 1) := by decide +kernel
theorem dM_told_74 : decode cM_told 74 = .ok (.goto 33, 3) := by decide +kernel
theorem dM_told_77 : decode cM_told 77 = .ok (.iload_n 3, 1) := by decide +kernel
theorem dM_told_78 : decode cM_told 78 = .ok (.iconst 1, 1) := by decide +kernel
theorem dM_told_79 : decode cM_told 79 = .ok (.if_icmp .ne 21, 3) := by decide +kernel
theorem dM_told_82 : decode cM_told 82 = .ok (.aload_n 0, 1) := by decide +kernel
theorem dM_told_83 : decode cM_told 83 = .ok (.getfield 34, 3) := by decide +kernel
theorem dM_told_86 : decode cM_told 86 = .ok (.iload 4, 2) := by decide +kernel
theorem dM_told_88 : decode cM_told 88 = .ok (.baload, 1) := by decide +kernel
theorem dM_told_89 : decode cM_told 89 = .ok (.ifCond .eq 7, 3) := by decide +kernel
theorem dM_told_92 : decode cM_told 92 = .ok (.iconst 1, 1) := by decide +kernel
theorem dM_told_93 : decode cM_told 93 = .ok (.goto 14, 3) := by decide +kernel
theorem dM_told_96 : decode cM_told 96 = .ok (.iconst 0, 1) := by decide +kernel
theorem dM_told_97 : decode cM_told 97 = .ok (.goto 10, 3) := by decide +kernel
theorem dM_told_100 : decode cM_told 100 = .ok (.aload_n 0, 1) := by decide +kernel
theorem dM_told_101 : decode cM_told 101 = .ok (.getfield 37, 3) := by decide +kernel
theorem dM_told_104 : decode cM_told 104 = .ok (.iload 4, 2) := by decide +kernel
theorem dM_told_106 : decode cM_told 106 = .ok (.iaload, 1) := by decide +kernel
theorem dM_told_107 : decode cM_told 107 = .ok (.ireturn, 1) := by decide +kernel
theorem dM_owner2_0 : decode cM_owner2 0 = .ok (.aload_n 0, 1) := by decide +kernel
theorem dM_owner2_1 : decode cM_owner2 1 = .ok (.iconst 0, 1) := by decide +kernel
theorem dM_owner2_2 : decode cM_owner2 2 = .ok (.putfield 51, 3) := by decide +kernel
theorem dM_owner2_5 : decode cM_owner2 5 = .ok (.aload_n 0, 1) := by decide +kernel
theorem dM_owner2_6 : decode cM_owner2 6 = .ok (.iload_n 1, 1) := by decide +kernel
theorem dM_owner2_7 : decode cM_owner2 7 = .ok (.iload_n 2, 1) := by decide +kernel
theorem dM_owner2_8 : decode cM_owner2 8 = .ok (.iconst 1, 1) := by decide +kernel
theorem dM_owner2_9 : decode cM_owner2 9 = .ok (.iconst 1, 1) := by decide +kernel
theorem dM_owner2_10 : decode cM_owner2 10 = .ok (.invokevirtual 55, 3) := by decide +kernel
theorem dM_owner2_13 : decode cM_owner2 13 = .ok (.ifCond .eq 11, 3) := by decide +kernel
theorem dM_owner2_16 : decode cM_owner2 16 = .ok (.aload_n 0, 1) := by decide +kernel
theorem dM_owner2_17 : decode cM_owner2 17 = .ok (.iconst 1, 1) := by decide +kernel
theorem dM_owner2_18 : decode cM_owner2 18 = .ok (.invokevirtual 59, 3) := by decide +kernel
theorem dM_owner2_21 : decode cM_owner2 21 = .ok (.goto 13, 3) := by decide +kernel
theorem dM_owner2_24 : decode cM_owner2 24 = .ok (.aload_n 0, 1) := by decide +kernel
theorem dM_owner2_25 : decode cM_owner2 25 = .ok (.bipush 20, 2) := by decide +kernel
theorem dM_owner2_27 : decode cM_owner2 27 = .ok (.iload_n 1, 1) := by decide +kernel
theorem dM_owner2_28 : decode cM_owner2 28 = .ok (.imul, 1) := by decide +kernel
theorem dM_owner2_29 : decode cM_owner2 29 = .ok (.iload_n 2, 1) := by decide +kernel
theorem dM_owner2_30 : decode cM_owner2 30 = .ok (.iadd, 1) := by decide +kernel
theorem dM_owner2_31 : decode cM_owner2 31 = .ok (.invokevirtual 63, 3) := by decide +kernel
theorem dM_owner2_34 : decode cM_owner2 34 = .ok (.ireturn, 1) := by decide +kernel
end
section
/-! decode rows of the law -/
theorem dL_put_0 : decode cL_put 0 = .ok (.aload 5, 2) := by decide +kernel
theorem dL_put_2 : decode cL_put 2 = .ok (.iconst 0, 1) := by decide +kernel
theorem dL_put_3 : decode cL_put 3 = .ok (.aload_n 0, 1) := by decide +kernel
theorem dL_put_4 : decode cL_put 4 = .ok (.iload_n 1, 1) := by decide +kernel
theorem dL_put_5 : decode cL_put 5 = .ok (.iload_n 2, 1) := by decide +kernel
theorem dL_put_6 : decode cL_put 6 = .ok (.iload_n 3, 1) := by decide +kernel
theorem dL_put_7 : decode cL_put 7 = .ok (.iload 4, 2) := by decide +kernel
theorem dL_put_9 : decode cL_put 9 = .ok (.invokevirtual 7, 3) := by decide +kernel
theorem dL_put_12 : decode cL_put 12 = .ok (.i2l, 1) := by decide +kernel
theorem dL_put_13 : decode cL_put 13 = .ok (.lastore, 1) := by decide +kernel
theorem dL_put_14 : decode cL_put 14 = .ok (.goto 11, 3) := by decide +kernel
theorem dL_put_17 : decode cL_put 17 = .ok (.astore 6, 2) := by decide +kernel
theorem dL_put_19 : decode cL_put 19 = .ok (.iconst 1, 1) := by decide +kernel
theorem dL_put_20 : decode cL_put 20 = .ok (.ireturn, 1) := by decide +kernel
theorem dL_put_21 : decode cL_put 21 = .ok (.astore 6, 2) := by decide +kernel
theorem dL_put_23 : decode cL_put 23 = .ok (.iconst 2, 1) := by decide +kernel
theorem dL_put_24 : decode cL_put 24 = .ok (.ireturn, 1) := by decide +kernel
theorem dL_put_25 : decode cL_put 25 = .ok (.iconst 0, 1) := by decide +kernel
theorem dL_put_26 : decode cL_put 26 = .ok (.ireturn, 1) := by decide +kernel
theorem dL_out_0 : decode cL_out 0 = .ok (.aload_n 3, 1) := by decide +kernel
theorem dL_out_1 : decode cL_out 1 = .ok (.iconst 0, 1) := by decide +kernel
theorem dL_out_2 : decode cL_out 2 = .ok (.aload_n 0, 1) := by decide +kernel
theorem dL_out_3 : decode cL_out 3 = .ok (.iload_n 1, 1) := by decide +kernel
theorem dL_out_4 : decode cL_out 4 = .ok (.iload_n 2, 1) := by decide +kernel
theorem dL_out_5 : decode cL_out 5 = .ok (.invokevirtual 17, 3) := by decide +kernel
theorem dL_out_8 : decode cL_out 8 = .ok (.i2l, 1) := by decide +kernel
theorem dL_out_9 : decode cL_out 9 = .ok (.lastore, 1) := by decide +kernel
theorem dL_out_10 : decode cL_out 10 = .ok (.goto 11, 3) := by decide +kernel
theorem dL_out_13 : decode cL_out 13 = .ok (.astore 4, 2) := by decide +kernel
theorem dL_out_15 : decode cL_out 15 = .ok (.iconst 1, 1) := by decide +kernel
theorem dL_out_16 : decode cL_out 16 = .ok (.ireturn, 1) := by decide +kernel
theorem dL_out_17 : decode cL_out 17 = .ok (.astore 4, 2) := by decide +kernel
theorem dL_out_19 : decode cL_out 19 = .ok (.iconst 2, 1) := by decide +kernel
theorem dL_out_20 : decode cL_out 20 = .ok (.ireturn, 1) := by decide +kernel
theorem dL_out_21 : decode cL_out 21 = .ok (.iconst 0, 1) := by decide +kernel
theorem dL_out_22 : decode cL_out 22 = .ok (.ireturn, 1) := by decide +kernel
theorem dL_speak_0 : decode cL_speak 0 = .ok (.aload 7, 2) := by decide +kernel
theorem dL_speak_2 : decode cL_speak 2 = .ok (.iconst 0, 1) := by decide +kernel
theorem dL_speak_3 : decode cL_speak 3 = .ok (.aload_n 0, 1) := by decide +kernel
theorem dL_speak_4 : decode cL_speak 4 = .ok (.iload_n 1, 1) := by decide +kernel
theorem dL_speak_5 : decode cL_speak 5 = .ok (.iload_n 2, 1) := by decide +kernel
theorem dL_speak_6 : decode cL_speak 6 = .ok (.iload_n 3, 1) := by decide +kernel
theorem dL_speak_7 : decode cL_speak 7 = .ok (.iload 4, 2) := by decide +kernel
theorem dL_speak_9 : decode cL_speak 9 = .ok (.iload 5, 2) := by decide +kernel
theorem dL_speak_11 : decode cL_speak 11 = .ok (.iload 6, 2) := by decide +kernel
theorem dL_speak_13 : decode cL_speak 13 = .ok (.invokevirtual 23, 3) := by decide +kernel
theorem dL_speak_16 : decode cL_speak 16 = .ok (.i2l, 1) := by decide +kernel
theorem dL_speak_17 : decode cL_speak 17 = .ok (.lastore, 1) := by decide +kernel
theorem dL_speak_18 : decode cL_speak 18 = .ok (.goto 15, 3) := by decide +kernel
theorem dL_speak_21 : decode cL_speak 21 = .ok (.astore 8, 2) := by decide +kernel
theorem dL_speak_23 : decode cL_speak 23 = .ok (.iconst 1, 1) := by decide +kernel
theorem dL_speak_24 : decode cL_speak 24 = .ok (.ireturn, 1) := by decide +kernel
theorem dL_speak_25 : decode cL_speak 25 = .ok (.astore 8, 2) := by decide +kernel
theorem dL_speak_27 : decode cL_speak 27 = .ok (.iconst 2, 1) := by decide +kernel
theorem dL_speak_28 : decode cL_speak 28 = .ok (.ireturn, 1) := by decide +kernel
theorem dL_speak_29 : decode cL_speak 29 = .ok (.astore 8, 2) := by decide +kernel
theorem dL_speak_31 : decode cL_speak 31 = .ok (.iconst 3, 1) := by decide +kernel
theorem dL_speak_32 : decode cL_speak 32 = .ok (.ireturn, 1) := by decide +kernel
theorem dL_speak_33 : decode cL_speak 33 = .ok (.iconst 0, 1) := by decide +kernel
theorem dL_speak_34 : decode cL_speak 34 = .ok (.ireturn, 1) := by decide +kernel
theorem dL_touch_0 : decode cL_touch 0 = .ok (.aload_n 0, 1) := by decide +kernel
theorem dL_touch_1 : decode cL_touch 1 = .ok (.iload_n 1, 1) := by decide +kernel
theorem dL_touch_2 : decode cL_touch 2 = .ok (.iload_n 2, 1) := by decide +kernel
theorem dL_touch_3 : decode cL_touch 3 = .ok (.invokevirtual 29, 3) := by decide +kernel
theorem dL_touch_6 : decode cL_touch 6 = .ok (.goto 6, 3) := by decide +kernel
theorem dL_touch_9 : decode cL_touch 9 = .ok (.astore_n 3, 1) := by decide +kernel
theorem dL_touch_10 : decode cL_touch 10 = .ok (.iconst 1, 1) := by decide +kernel
theorem dL_touch_11 : decode cL_touch 11 = .ok (.ireturn, 1) := by decide +kernel
theorem dL_touch_12 : decode cL_touch 12 = .ok (.iconst 0, 1) := by decide +kernel
theorem dL_touch_13 : decode cL_touch 13 = .ok (.ireturn, 1) := by decide +kernel
theorem dL_told_0 : decode cL_told 0 = .ok (.aload 4, 2) := by decide +kernel
theorem dL_told_2 : decode cL_told 2 = .ok (.iconst 0, 1) := by decide +kernel
theorem dL_told_3 : decode cL_told 3 = .ok (.aload_n 0, 1) := by decide +kernel
theorem dL_told_4 : decode cL_told 4 = .ok (.iload_n 1, 1) := by decide +kernel
theorem dL_told_5 : decode cL_told 5 = .ok (.iload_n 2, 1) := by decide +kernel
theorem dL_told_6 : decode cL_told 6 = .ok (.iload_n 3, 1) := by decide +kernel
theorem dL_told_7 : decode cL_told 7 = .ok (.invokevirtual 33, 3) := by decide +kernel
theorem dL_told_10 : decode cL_told 10 = .ok (.i2l, 1) := by decide +kernel
theorem dL_told_11 : decode cL_told 11 = .ok (.lastore, 1) := by decide +kernel
theorem dL_told_12 : decode cL_told 12 = .ok (.goto 11, 3) := by decide +kernel
theorem dL_told_15 : decode cL_told 15 = .ok (.astore 5, 2) := by decide +kernel
theorem dL_told_17 : decode cL_told 17 = .ok (.iconst 1, 1) := by decide +kernel
theorem dL_told_18 : decode cL_told 18 = .ok (.ireturn, 1) := by decide +kernel
theorem dL_told_19 : decode cL_told 19 = .ok (.astore 5, 2) := by decide +kernel
theorem dL_told_21 : decode cL_told 21 = .ok (.iconst 2, 1) := by decide +kernel
theorem dL_told_22 : decode cL_told 22 = .ok (.ireturn, 1) := by decide +kernel
theorem dL_told_23 : decode cL_told 23 = .ok (.iconst 0, 1) := by decide +kernel
theorem dL_told_24 : decode cL_told 24 = .ok (.ireturn, 1) := by decide +kernel
theorem dL_owner_0 : decode cL_owner 0 = .ok (.aload_n 3, 1) := by decide +kernel
theorem dL_owner_1 : decode cL_owner 1 = .ok (.iconst 0, 1) := by decide +kernel
theorem dL_owner_2 : decode cL_owner 2 = .ok (.aload_n 0, 1) := by decide +kernel
theorem dL_owner_3 : decode cL_owner 3 = .ok (.iload_n 1, 1) := by decide +kernel
theorem dL_owner_4 : decode cL_owner 4 = .ok (.iload_n 2, 1) := by decide +kernel
theorem dL_owner_5 : decode cL_owner 5 = .ok (.invokevirtual 37, 3) := by decide +kernel
theorem dL_owner_8 : decode cL_owner 8 = .ok (.i2l, 1) := by decide +kernel
theorem dL_owner_9 : decode cL_owner 9 = .ok (.lastore, 1) := by decide +kernel
theorem dL_owner_10 : decode cL_owner 10 = .ok (.goto 7, 3) := by decide +kernel
theorem dL_owner_13 : decode cL_owner 13 = .ok (.astore 4, 2) := by decide +kernel
theorem dL_owner_15 : decode cL_owner 15 = .ok (.iconst 1, 1) := by decide +kernel
theorem dL_owner_16 : decode cL_owner 16 = .ok (.ireturn, 1) := by decide +kernel
theorem dL_owner_17 : decode cL_owner 17 = .ok (.iconst 0, 1) := by decide +kernel
theorem dL_owner_18 : decode cL_owner 18 = .ok (.ireturn, 1) := by decide +kernel
theorem dL_law_0 : decode code 0 = .ok (.new 8, 3) := by decide +kernel
theorem dL_law_3 : decode code 3 = .ok (.dup, 1) := by decide +kernel
theorem dL_law_4 : decode code 4 = .ok (.invokespecial 40, 3) := by decide +kernel
theorem dL_law_7 : decode code 7 = .ok (.astore_n 1, 1) := by decide +kernel
theorem dL_law_8 : decode code 8 = .ok (.new 41, 3) := by decide +kernel
theorem dL_law_11 : decode code 11 = .ok (.dup, 1) := by decide +kernel
theorem dL_law_12 : decode code 12 = .ok (.invokespecial 43, 3) := by decide +kernel
theorem dL_law_15 : decode code 15 = .ok (.astore_n 2, 1) := by decide +kernel
theorem dL_law_16 : decode code 16 = .ok (.iconst 1, 1) := by decide +kernel
theorem dL_law_17 : decode code 17 = .ok (.newarray .long, 2) := by decide +kernel
theorem dL_law_19 : decode code 19 = .ok (.astore_n 3, 1) := by decide +kernel
theorem dL_law_20 : decode code 20 = .ok (.iconst 0, 1) := by decide +kernel
theorem dL_law_21 : decode code 21 = .ok (.istore 4, 2) := by decide +kernel
theorem dL_law_23 : decode code 23 = .ok (.iload 4, 2) := by decide +kernel
theorem dL_law_25 : decode code 25 = .ok (.aload_n 0, 1) := by decide +kernel
theorem dL_law_26 : decode code 26 = .ok (.arraylength, 1) := by decide +kernel
theorem dL_law_27 : decode code 27 = .ok (.bipush 7, 2) := by decide +kernel
theorem dL_law_29 : decode code 29 = .ok (.isub, 1) := by decide +kernel
theorem dL_law_30 : decode code 30 = .ok (.if_icmp .gt 547, 3) := by decide +kernel
theorem dL_law_33 : decode code 33 = .ok (.aload_n 0, 1) := by decide +kernel
theorem dL_law_34 : decode code 34 = .ok (.iload 4, 2) := by decide +kernel
theorem dL_law_36 : decode code 36 = .ok (.iaload, 1) := by decide +kernel
theorem dL_law_37 : decode code 37 = .ok (.bipush 7, 2) := by decide +kernel
theorem dL_law_39 : decode code 39 = .ok (.iand, 1) := by decide +kernel
theorem dL_law_40 : decode code 40 = .ok (.tableswitch 531 0 6 #[44, 136, 204, 322, 370, 383, 463], 44) := by decide +kernel
theorem dL_law_84 : decode code 84 = .ok (.aload_n 1, 1) := by decide +kernel
theorem dL_law_85 : decode code 85 = .ok (.aload_n 0, 1) := by decide +kernel
theorem dL_law_86 : decode code 86 = .ok (.iload 4, 2) := by decide +kernel
theorem dL_law_88 : decode code 88 = .ok (.iconst 1, 1) := by decide +kernel
theorem dL_law_89 : decode code 89 = .ok (.iadd, 1) := by decide +kernel
theorem dL_law_90 : decode code 90 = .ok (.iaload, 1) := by decide +kernel
theorem dL_law_91 : decode code 91 = .ok (.aload_n 0, 1) := by decide +kernel
theorem dL_law_92 : decode code 92 = .ok (.iload 4, 2) := by decide +kernel
theorem dL_law_94 : decode code 94 = .ok (.iconst 2, 1) := by decide +kernel
theorem dL_law_95 : decode code 95 = .ok (.iadd, 1) := by decide +kernel
theorem dL_law_96 : decode code 96 = .ok (.iaload, 1) := by decide +kernel
theorem dL_law_97 : decode code 97 = .ok (.aload_n 0, 1) := by decide +kernel
theorem dL_law_98 : decode code 98 = .ok (.iload 4, 2) := by decide +kernel
theorem dL_law_100 : decode code 100 = .ok (.iconst 3, 1) := by decide +kernel
theorem dL_law_101 : decode code 101 = .ok (.iadd, 1) := by decide +kernel
theorem dL_law_102 : decode code 102 = .ok (.iaload, 1) := by decide +kernel
theorem dL_law_103 : decode code 103 = .ok (.aload_n 0, 1) := by decide +kernel
theorem dL_law_104 : decode code 104 = .ok (.iload 4, 2) := by decide +kernel
theorem dL_law_106 : decode code 106 = .ok (.iconst 4, 1) := by decide +kernel
theorem dL_law_107 : decode code 107 = .ok (.iadd, 1) := by decide +kernel
theorem dL_law_108 : decode code 108 = .ok (.iaload, 1) := by decide +kernel
theorem dL_law_109 : decode code 109 = .ok (.aload_n 3, 1) := by decide +kernel
theorem dL_law_110 : decode code 110 = .ok (.invokestatic 44, 3) := by decide +kernel
theorem dL_law_113 : decode code 113 = .ok (.istore 5, 2) := by decide +kernel
theorem dL_law_115 : decode code 115 = .ok (.aload_n 2, 1) := by decide +kernel
theorem dL_law_116 : decode code 116 = .ok (.aload_n 0, 1) := by decide +kernel
theorem dL_law_117 : decode code 117 = .ok (.iload 4, 2) := by decide +kernel
theorem dL_law_119 : decode code 119 = .ok (.iconst 1, 1) := by decide +kernel
theorem dL_law_120 : decode code 120 = .ok (.iadd, 1) := by decide +kernel
theorem dL_law_121 : decode code 121 = .ok (.iaload, 1) := by decide +kernel
theorem dL_law_122 : decode code 122 = .ok (.aload_n 0, 1) := by decide +kernel
theorem dL_law_123 : decode code 123 = .ok (.iload 4, 2) := by decide +kernel
theorem dL_law_125 : decode code 125 = .ok (.iconst 2, 1) := by decide +kernel
theorem dL_law_126 : decode code 126 = .ok (.iadd, 1) := by decide +kernel
theorem dL_law_127 : decode code 127 = .ok (.iaload, 1) := by decide +kernel
theorem dL_law_128 : decode code 128 = .ok (.aload_n 0, 1) := by decide +kernel
theorem dL_law_129 : decode code 129 = .ok (.iload 4, 2) := by decide +kernel
theorem dL_law_131 : decode code 131 = .ok (.iconst 3, 1) := by decide +kernel
theorem dL_law_132 : decode code 132 = .ok (.iadd, 1) := by decide +kernel
theorem dL_law_133 : decode code 133 = .ok (.iaload, 1) := by decide +kernel
theorem dL_law_134 : decode code 134 = .ok (.aload_n 0, 1) := by decide +kernel
theorem dL_law_135 : decode code 135 = .ok (.iload 4, 2) := by decide +kernel
theorem dL_law_137 : decode code 137 = .ok (.iconst 4, 1) := by decide +kernel
theorem dL_law_138 : decode code 138 = .ok (.iadd, 1) := by decide +kernel
theorem dL_law_139 : decode code 139 = .ok (.iaload, 1) := by decide +kernel
theorem dL_law_140 : decode code 140 = .ok (.invokevirtual 49, 3) := by decide +kernel
theorem dL_law_143 : decode code 143 = .ok (.istore 6, 2) := by decide +kernel
theorem dL_law_145 : decode code 145 = .ok (.aload_n 2, 1) := by decide +kernel
theorem dL_law_146 : decode code 146 = .ok (.invokevirtual 50, 3) := by decide +kernel
theorem dL_law_149 : decode code 149 = .ok (.iload 5, 2) := by decide +kernel
theorem dL_law_151 : decode code 151 = .ok (.if_icmp .eq 5, 3) := by decide +kernel
theorem dL_law_154 : decode code 154 = .ok (.iconst 0, 1) := by decide +kernel
theorem dL_law_155 : decode code 155 = .ok (.ireturn, 1) := by decide +kernel
theorem dL_law_156 : decode code 156 = .ok (.iload 5, 2) := by decide +kernel
theorem dL_law_158 : decode code 158 = .ok (.ifCond .ne 15, 3) := by decide +kernel
theorem dL_law_161 : decode code 161 = .ok (.aload_n 3, 1) := by decide +kernel
theorem dL_law_162 : decode code 162 = .ok (.iconst 0, 1) := by decide +kernel
theorem dL_law_163 : decode code 163 = .ok (.laload, 1) := by decide +kernel
theorem dL_law_164 : decode code 164 = .ok (.iload 6, 2) := by decide +kernel
theorem dL_law_166 : decode code 166 = .ok (.i2l, 1) := by decide +kernel
theorem dL_law_167 : decode code 167 = .ok (.lcmp, 1) := by decide +kernel
theorem dL_law_168 : decode code 168 = .ok (.ifCond .eq 5, 3) := by decide +kernel
theorem dL_law_171 : decode code 171 = .ok (.iconst 0, 1) := by decide +kernel
theorem dL_law_172 : decode code 172 = .ok (.ireturn, 1) := by decide +kernel
theorem dL_law_173 : decode code 173 = .ok (.goto 398, 3) := by decide +kernel
theorem dL_law_176 : decode code 176 = .ok (.aload_n 1, 1) := by decide +kernel
theorem dL_law_177 : decode code 177 = .ok (.aload_n 0, 1) := by decide +kernel
theorem dL_law_178 : decode code 178 = .ok (.iload 4, 2) := by decide +kernel
theorem dL_law_180 : decode code 180 = .ok (.iconst 1, 1) := by decide +kernel
theorem dL_law_181 : decode code 181 = .ok (.iadd, 1) := by decide +kernel
theorem dL_law_182 : decode code 182 = .ok (.iaload, 1) := by decide +kernel
theorem dL_law_183 : decode code 183 = .ok (.aload_n 0, 1) := by decide +kernel
theorem dL_law_184 : decode code 184 = .ok (.iload 4, 2) := by decide +kernel
theorem dL_law_186 : decode code 186 = .ok (.iconst 2, 1) := by decide +kernel
theorem dL_law_187 : decode code 187 = .ok (.iadd, 1) := by decide +kernel
theorem dL_law_188 : decode code 188 = .ok (.iaload, 1) := by decide +kernel
theorem dL_law_189 : decode code 189 = .ok (.aload_n 3, 1) := by decide +kernel
theorem dL_law_190 : decode code 190 = .ok (.invokestatic 54, 3) := by decide +kernel
theorem dL_law_193 : decode code 193 = .ok (.istore 5, 2) := by decide +kernel
theorem dL_law_195 : decode code 195 = .ok (.aload_n 2, 1) := by decide +kernel
theorem dL_law_196 : decode code 196 = .ok (.aload_n 0, 1) := by decide +kernel
theorem dL_law_197 : decode code 197 = .ok (.iload 4, 2) := by decide +kernel
theorem dL_law_199 : decode code 199 = .ok (.iconst 1, 1) := by decide +kernel
theorem dL_law_200 : decode code 200 = .ok (.iadd, 1) := by decide +kernel
theorem dL_law_201 : decode code 201 = .ok (.iaload, 1) := by decide +kernel
theorem dL_law_202 : decode code 202 = .ok (.aload_n 0, 1) := by decide +kernel
theorem dL_law_203 : decode code 203 = .ok (.iload 4, 2) := by decide +kernel
theorem dL_law_205 : decode code 205 = .ok (.iconst 2, 1) := by decide +kernel
theorem dL_law_206 : decode code 206 = .ok (.iadd, 1) := by decide +kernel
theorem dL_law_207 : decode code 207 = .ok (.iaload, 1) := by decide +kernel
theorem dL_law_208 : decode code 208 = .ok (.invokevirtual 57, 3) := by decide +kernel
theorem dL_law_211 : decode code 211 = .ok (.istore 6, 2) := by decide +kernel
theorem dL_law_213 : decode code 213 = .ok (.aload_n 2, 1) := by decide +kernel
theorem dL_law_214 : decode code 214 = .ok (.invokevirtual 50, 3) := by decide +kernel
theorem dL_law_217 : decode code 217 = .ok (.iload 5, 2) := by decide +kernel
theorem dL_law_219 : decode code 219 = .ok (.if_icmp .eq 5, 3) := by decide +kernel
theorem dL_law_222 : decode code 222 = .ok (.iconst 0, 1) := by decide +kernel
theorem dL_law_223 : decode code 223 = .ok (.ireturn, 1) := by decide +kernel
theorem dL_law_224 : decode code 224 = .ok (.iload 5, 2) := by decide +kernel
theorem dL_law_226 : decode code 226 = .ok (.ifCond .ne 15, 3) := by decide +kernel
theorem dL_law_229 : decode code 229 = .ok (.aload_n 3, 1) := by decide +kernel
theorem dL_law_230 : decode code 230 = .ok (.iconst 0, 1) := by decide +kernel
theorem dL_law_231 : decode code 231 = .ok (.laload, 1) := by decide +kernel
theorem dL_law_232 : decode code 232 = .ok (.iload 6, 2) := by decide +kernel
theorem dL_law_234 : decode code 234 = .ok (.i2l, 1) := by decide +kernel
theorem dL_law_235 : decode code 235 = .ok (.lcmp, 1) := by decide +kernel
theorem dL_law_236 : decode code 236 = .ok (.ifCond .eq 5, 3) := by decide +kernel
theorem dL_law_239 : decode code 239 = .ok (.iconst 0, 1) := by decide +kernel
theorem dL_law_240 : decode code 240 = .ok (.ireturn, 1) := by decide +kernel
theorem dL_law_241 : decode code 241 = .ok (.goto 330, 3) := by decide +kernel
theorem dL_law_244 : decode code 244 = .ok (.aload_n 1, 1) := by decide +kernel
theorem dL_law_245 : decode code 245 = .ok (.aload_n 0, 1) := by decide +kernel
theorem dL_law_246 : decode code 246 = .ok (.iload 4, 2) := by decide +kernel
theorem dL_law_248 : decode code 248 = .ok (.iconst 1, 1) := by decide +kernel
theorem dL_law_249 : decode code 249 = .ok (.iadd, 1) := by decide +kernel
theorem dL_law_250 : decode code 250 = .ok (.iaload, 1) := by decide +kernel
theorem dL_law_251 : decode code 251 = .ok (.aload_n 0, 1) := by decide +kernel
theorem dL_law_252 : decode code 252 = .ok (.iload 4, 2) := by decide +kernel
theorem dL_law_254 : decode code 254 = .ok (.iconst 2, 1) := by decide +kernel
theorem dL_law_255 : decode code 255 = .ok (.iadd, 1) := by decide +kernel
theorem dL_law_256 : decode code 256 = .ok (.iaload, 1) := by decide +kernel
theorem dL_law_257 : decode code 257 = .ok (.aload_n 0, 1) := by decide +kernel
theorem dL_law_258 : decode code 258 = .ok (.iload 4, 2) := by decide +kernel
theorem dL_law_260 : decode code 260 = .ok (.iconst 3, 1) := by decide +kernel
theorem dL_law_261 : decode code 261 = .ok (.iadd, 1) := by decide +kernel
theorem dL_law_262 : decode code 262 = .ok (.iaload, 1) := by decide +kernel
theorem dL_law_263 : decode code 263 = .ok (.aload_n 0, 1) := by decide +kernel
theorem dL_law_264 : decode code 264 = .ok (.iload 4, 2) := by decide +kernel
theorem dL_law_266 : decode code 266 = .ok (.iconst 4, 1) := by decide +kernel
theorem dL_law_267 : decode code 267 = .ok (.iadd, 1) := by decide +kernel
theorem dL_law_268 : decode code 268 = .ok (.iaload, 1) := by decide +kernel
theorem dL_law_269 : decode code 269 = .ok (.aload_n 0, 1) := by decide +kernel
theorem dL_law_270 : decode code 270 = .ok (.iload 4, 2) := by decide +kernel
theorem dL_law_272 : decode code 272 = .ok (.iconst 5, 1) := by decide +kernel
theorem dL_law_273 : decode code 273 = .ok (.iadd, 1) := by decide +kernel
theorem dL_law_274 : decode code 274 = .ok (.iaload, 1) := by decide +kernel
theorem dL_law_275 : decode code 275 = .ok (.aload_n 0, 1) := by decide +kernel
theorem dL_law_276 : decode code 276 = .ok (.iload 4, 2) := by decide +kernel
theorem dL_law_278 : decode code 278 = .ok (.bipush 6, 2) := by decide +kernel
theorem dL_law_280 : decode code 280 = .ok (.iadd, 1) := by decide +kernel
theorem dL_law_281 : decode code 281 = .ok (.iaload, 1) := by decide +kernel
theorem dL_law_282 : decode code 282 = .ok (.aload_n 3, 1) := by decide +kernel
theorem dL_law_283 : decode code 283 = .ok (.invokestatic 58, 3) := by decide +kernel
theorem dL_law_286 : decode code 286 = .ok (.istore 5, 2) := by decide +kernel
theorem dL_law_288 : decode code 288 = .ok (.aload_n 2, 1) := by decide +kernel
theorem dL_law_289 : decode code 289 = .ok (.aload_n 0, 1) := by decide +kernel
theorem dL_law_290 : decode code 290 = .ok (.iload 4, 2) := by decide +kernel
theorem dL_law_292 : decode code 292 = .ok (.iconst 1, 1) := by decide +kernel
theorem dL_law_293 : decode code 293 = .ok (.iadd, 1) := by decide +kernel
theorem dL_law_294 : decode code 294 = .ok (.iaload, 1) := by decide +kernel
theorem dL_law_295 : decode code 295 = .ok (.aload_n 0, 1) := by decide +kernel
theorem dL_law_296 : decode code 296 = .ok (.iload 4, 2) := by decide +kernel
theorem dL_law_298 : decode code 298 = .ok (.iconst 2, 1) := by decide +kernel
theorem dL_law_299 : decode code 299 = .ok (.iadd, 1) := by decide +kernel
theorem dL_law_300 : decode code 300 = .ok (.iaload, 1) := by decide +kernel
theorem dL_law_301 : decode code 301 = .ok (.aload_n 0, 1) := by decide +kernel
theorem dL_law_302 : decode code 302 = .ok (.iload 4, 2) := by decide +kernel
theorem dL_law_304 : decode code 304 = .ok (.iconst 3, 1) := by decide +kernel
theorem dL_law_305 : decode code 305 = .ok (.iadd, 1) := by decide +kernel
theorem dL_law_306 : decode code 306 = .ok (.iaload, 1) := by decide +kernel
theorem dL_law_307 : decode code 307 = .ok (.aload_n 0, 1) := by decide +kernel
theorem dL_law_308 : decode code 308 = .ok (.iload 4, 2) := by decide +kernel
theorem dL_law_310 : decode code 310 = .ok (.iconst 4, 1) := by decide +kernel
theorem dL_law_311 : decode code 311 = .ok (.iadd, 1) := by decide +kernel
theorem dL_law_312 : decode code 312 = .ok (.iaload, 1) := by decide +kernel
theorem dL_law_313 : decode code 313 = .ok (.aload_n 0, 1) := by decide +kernel
theorem dL_law_314 : decode code 314 = .ok (.iload 4, 2) := by decide +kernel
theorem dL_law_316 : decode code 316 = .ok (.iconst 5, 1) := by decide +kernel
theorem dL_law_317 : decode code 317 = .ok (.iadd, 1) := by decide +kernel
theorem dL_law_318 : decode code 318 = .ok (.iaload, 1) := by decide +kernel
theorem dL_law_319 : decode code 319 = .ok (.aload_n 0, 1) := by decide +kernel
theorem dL_law_320 : decode code 320 = .ok (.iload 4, 2) := by decide +kernel
theorem dL_law_322 : decode code 322 = .ok (.bipush 6, 2) := by decide +kernel
theorem dL_law_324 : decode code 324 = .ok (.iadd, 1) := by decide +kernel
theorem dL_law_325 : decode code 325 = .ok (.iaload, 1) := by decide +kernel
theorem dL_law_326 : decode code 326 = .ok (.invokevirtual 61, 3) := by decide +kernel
theorem dL_law_329 : decode code 329 = .ok (.istore 6, 2) := by decide +kernel
theorem dL_law_331 : decode code 331 = .ok (.aload_n 2, 1) := by decide +kernel
theorem dL_law_332 : decode code 332 = .ok (.invokevirtual 50, 3) := by decide +kernel
theorem dL_law_335 : decode code 335 = .ok (.iload 5, 2) := by decide +kernel
theorem dL_law_337 : decode code 337 = .ok (.if_icmp .eq 5, 3) := by decide +kernel
theorem dL_law_340 : decode code 340 = .ok (.iconst 0, 1) := by decide +kernel
theorem dL_law_341 : decode code 341 = .ok (.ireturn, 1) := by decide +kernel
theorem dL_law_342 : decode code 342 = .ok (.iload 5, 2) := by decide +kernel
theorem dL_law_344 : decode code 344 = .ok (.ifCond .ne 15, 3) := by decide +kernel
theorem dL_law_347 : decode code 347 = .ok (.aload_n 3, 1) := by decide +kernel
theorem dL_law_348 : decode code 348 = .ok (.iconst 0, 1) := by decide +kernel
theorem dL_law_349 : decode code 349 = .ok (.laload, 1) := by decide +kernel
theorem dL_law_350 : decode code 350 = .ok (.iload 6, 2) := by decide +kernel
theorem dL_law_352 : decode code 352 = .ok (.i2l, 1) := by decide +kernel
theorem dL_law_353 : decode code 353 = .ok (.lcmp, 1) := by decide +kernel
theorem dL_law_354 : decode code 354 = .ok (.ifCond .eq 5, 3) := by decide +kernel
theorem dL_law_357 : decode code 357 = .ok (.iconst 0, 1) := by decide +kernel
theorem dL_law_358 : decode code 358 = .ok (.ireturn, 1) := by decide +kernel
theorem dL_law_359 : decode code 359 = .ok (.goto 212, 3) := by decide +kernel
theorem dL_law_362 : decode code 362 = .ok (.aload_n 1, 1) := by decide +kernel
theorem dL_law_363 : decode code 363 = .ok (.aload_n 0, 1) := by decide +kernel
theorem dL_law_364 : decode code 364 = .ok (.iload 4, 2) := by decide +kernel
theorem dL_law_366 : decode code 366 = .ok (.iconst 1, 1) := by decide +kernel
theorem dL_law_367 : decode code 367 = .ok (.iadd, 1) := by decide +kernel
theorem dL_law_368 : decode code 368 = .ok (.iaload, 1) := by decide +kernel
theorem dL_law_369 : decode code 369 = .ok (.aload_n 0, 1) := by decide +kernel
theorem dL_law_370 : decode code 370 = .ok (.iload 4, 2) := by decide +kernel
theorem dL_law_372 : decode code 372 = .ok (.iconst 2, 1) := by decide +kernel
theorem dL_law_373 : decode code 373 = .ok (.iadd, 1) := by decide +kernel
theorem dL_law_374 : decode code 374 = .ok (.iaload, 1) := by decide +kernel
theorem dL_law_375 : decode code 375 = .ok (.invokestatic 62, 3) := by decide +kernel
theorem dL_law_378 : decode code 378 = .ok (.istore 5, 2) := by decide +kernel
theorem dL_law_380 : decode code 380 = .ok (.aload_n 2, 1) := by decide +kernel
theorem dL_law_381 : decode code 381 = .ok (.aload_n 0, 1) := by decide +kernel
theorem dL_law_382 : decode code 382 = .ok (.iload 4, 2) := by decide +kernel
theorem dL_law_384 : decode code 384 = .ok (.iconst 1, 1) := by decide +kernel
theorem dL_law_385 : decode code 385 = .ok (.iadd, 1) := by decide +kernel
theorem dL_law_386 : decode code 386 = .ok (.iaload, 1) := by decide +kernel
theorem dL_law_387 : decode code 387 = .ok (.aload_n 0, 1) := by decide +kernel
theorem dL_law_388 : decode code 388 = .ok (.iload 4, 2) := by decide +kernel
theorem dL_law_390 : decode code 390 = .ok (.iconst 2, 1) := by decide +kernel
theorem dL_law_391 : decode code 391 = .ok (.iadd, 1) := by decide +kernel
theorem dL_law_392 : decode code 392 = .ok (.iaload, 1) := by decide +kernel
theorem dL_law_393 : decode code 393 = .ok (.invokevirtual 65, 3) := by decide +kernel
theorem dL_law_396 : decode code 396 = .ok (.aload_n 2, 1) := by decide +kernel
theorem dL_law_397 : decode code 397 = .ok (.invokevirtual 50, 3) := by decide +kernel
theorem dL_law_400 : decode code 400 = .ok (.iload 5, 2) := by decide +kernel
theorem dL_law_402 : decode code 402 = .ok (.if_icmp .eq 5, 3) := by decide +kernel
theorem dL_law_405 : decode code 405 = .ok (.iconst 0, 1) := by decide +kernel
theorem dL_law_406 : decode code 406 = .ok (.ireturn, 1) := by decide +kernel
theorem dL_law_407 : decode code 407 = .ok (.goto 164, 3) := by decide +kernel
theorem dL_law_410 : decode code 410 = .ok (.aload_n 1, 1) := by decide +kernel
theorem dL_law_411 : decode code 411 = .ok (.invokevirtual 66, 3) := by decide +kernel
theorem dL_law_414 : decode code 414 = .ok (.aload_n 2, 1) := by decide +kernel
theorem dL_law_415 : decode code 415 = .ok (.invokevirtual 69, 3) := by decide +kernel
theorem dL_law_418 : decode code 418 = .ok (.if_icmp .eq 153, 3) := by decide +kernel
theorem dL_law_421 : decode code 421 = .ok (.iconst 0, 1) := by decide +kernel
theorem dL_law_422 : decode code 422 = .ok (.ireturn, 1) := by decide +kernel
theorem dL_law_423 : decode code 423 = .ok (.aload_n 1, 1) := by decide +kernel
theorem dL_law_424 : decode code 424 = .ok (.aload_n 0, 1) := by decide +kernel
theorem dL_law_425 : decode code 425 = .ok (.iload 4, 2) := by decide +kernel
theorem dL_law_427 : decode code 427 = .ok (.iconst 1, 1) := by decide +kernel
theorem dL_law_428 : decode code 428 = .ok (.iadd, 1) := by decide +kernel
theorem dL_law_429 : decode code 429 = .ok (.iaload, 1) := by decide +kernel
theorem dL_law_430 : decode code 430 = .ok (.aload_n 0, 1) := by decide +kernel
theorem dL_law_431 : decode code 431 = .ok (.iload 4, 2) := by decide +kernel
theorem dL_law_433 : decode code 433 = .ok (.iconst 2, 1) := by decide +kernel
theorem dL_law_434 : decode code 434 = .ok (.iadd, 1) := by decide +kernel
theorem dL_law_435 : decode code 435 = .ok (.iaload, 1) := by decide +kernel
theorem dL_law_436 : decode code 436 = .ok (.aload_n 0, 1) := by decide +kernel
theorem dL_law_437 : decode code 437 = .ok (.iload 4, 2) := by decide +kernel
theorem dL_law_439 : decode code 439 = .ok (.iconst 3, 1) := by decide +kernel
theorem dL_law_440 : decode code 440 = .ok (.iadd, 1) := by decide +kernel
theorem dL_law_441 : decode code 441 = .ok (.iaload, 1) := by decide +kernel
theorem dL_law_442 : decode code 442 = .ok (.aload_n 3, 1) := by decide +kernel
theorem dL_law_443 : decode code 443 = .ok (.invokestatic 70, 3) := by decide +kernel
theorem dL_law_446 : decode code 446 = .ok (.istore 5, 2) := by decide +kernel
theorem dL_law_448 : decode code 448 = .ok (.aload_n 2, 1) := by decide +kernel
theorem dL_law_449 : decode code 449 = .ok (.aload_n 0, 1) := by decide +kernel
theorem dL_law_450 : decode code 450 = .ok (.iload 4, 2) := by decide +kernel
theorem dL_law_452 : decode code 452 = .ok (.iconst 1, 1) := by decide +kernel
theorem dL_law_453 : decode code 453 = .ok (.iadd, 1) := by decide +kernel
theorem dL_law_454 : decode code 454 = .ok (.iaload, 1) := by decide +kernel
theorem dL_law_455 : decode code 455 = .ok (.aload_n 0, 1) := by decide +kernel
theorem dL_law_456 : decode code 456 = .ok (.iload 4, 2) := by decide +kernel
theorem dL_law_458 : decode code 458 = .ok (.iconst 2, 1) := by decide +kernel
theorem dL_law_459 : decode code 459 = .ok (.iadd, 1) := by decide +kernel
theorem dL_law_460 : decode code 460 = .ok (.iaload, 1) := by decide +kernel
theorem dL_law_461 : decode code 461 = .ok (.aload_n 0, 1) := by decide +kernel
theorem dL_law_462 : decode code 462 = .ok (.iload 4, 2) := by decide +kernel
theorem dL_law_464 : decode code 464 = .ok (.iconst 3, 1) := by decide +kernel
theorem dL_law_465 : decode code 465 = .ok (.iadd, 1) := by decide +kernel
theorem dL_law_466 : decode code 466 = .ok (.iaload, 1) := by decide +kernel
theorem dL_law_467 : decode code 467 = .ok (.invokevirtual 73, 3) := by decide +kernel
theorem dL_law_470 : decode code 470 = .ok (.istore 6, 2) := by decide +kernel
theorem dL_law_472 : decode code 472 = .ok (.aload_n 2, 1) := by decide +kernel
theorem dL_law_473 : decode code 473 = .ok (.invokevirtual 50, 3) := by decide +kernel
theorem dL_law_476 : decode code 476 = .ok (.iload 5, 2) := by decide +kernel
theorem dL_law_478 : decode code 478 = .ok (.if_icmp .eq 5, 3) := by decide +kernel
theorem dL_law_481 : decode code 481 = .ok (.iconst 0, 1) := by decide +kernel
theorem dL_law_482 : decode code 482 = .ok (.ireturn, 1) := by decide +kernel
theorem dL_law_483 : decode code 483 = .ok (.iload 5, 2) := by decide +kernel
theorem dL_law_485 : decode code 485 = .ok (.ifCond .ne 15, 3) := by decide +kernel
theorem dL_law_488 : decode code 488 = .ok (.aload_n 3, 1) := by decide +kernel
theorem dL_law_489 : decode code 489 = .ok (.iconst 0, 1) := by decide +kernel
theorem dL_law_490 : decode code 490 = .ok (.laload, 1) := by decide +kernel
theorem dL_law_491 : decode code 491 = .ok (.iload 6, 2) := by decide +kernel
theorem dL_law_493 : decode code 493 = .ok (.i2l, 1) := by decide +kernel
theorem dL_law_494 : decode code 494 = .ok (.lcmp, 1) := by decide +kernel
theorem dL_law_495 : decode code 495 = .ok (.ifCond .eq 5, 3) := by decide +kernel
theorem dL_law_498 : decode code 498 = .ok (.iconst 0, 1) := by decide +kernel
theorem dL_law_499 : decode code 499 = .ok (.ireturn, 1) := by decide +kernel
theorem dL_law_500 : decode code 500 = .ok (.goto 71, 3) := by decide +kernel
theorem dL_law_503 : decode code 503 = .ok (.aload_n 1, 1) := by decide +kernel
theorem dL_law_504 : decode code 504 = .ok (.aload_n 0, 1) := by decide +kernel
theorem dL_law_505 : decode code 505 = .ok (.iload 4, 2) := by decide +kernel
theorem dL_law_507 : decode code 507 = .ok (.iconst 1, 1) := by decide +kernel
theorem dL_law_508 : decode code 508 = .ok (.iadd, 1) := by decide +kernel
theorem dL_law_509 : decode code 509 = .ok (.iaload, 1) := by decide +kernel
theorem dL_law_510 : decode code 510 = .ok (.aload_n 0, 1) := by decide +kernel
theorem dL_law_511 : decode code 511 = .ok (.iload 4, 2) := by decide +kernel
theorem dL_law_513 : decode code 513 = .ok (.iconst 2, 1) := by decide +kernel
theorem dL_law_514 : decode code 514 = .ok (.iadd, 1) := by decide +kernel
theorem dL_law_515 : decode code 515 = .ok (.iaload, 1) := by decide +kernel
theorem dL_law_516 : decode code 516 = .ok (.aload_n 3, 1) := by decide +kernel
theorem dL_law_517 : decode code 517 = .ok (.invokestatic 74, 3) := by decide +kernel
theorem dL_law_520 : decode code 520 = .ok (.istore 5, 2) := by decide +kernel
theorem dL_law_522 : decode code 522 = .ok (.aload_n 2, 1) := by decide +kernel
theorem dL_law_523 : decode code 523 = .ok (.aload_n 0, 1) := by decide +kernel
theorem dL_law_524 : decode code 524 = .ok (.iload 4, 2) := by decide +kernel
theorem dL_law_526 : decode code 526 = .ok (.iconst 1, 1) := by decide +kernel
theorem dL_law_527 : decode code 527 = .ok (.iadd, 1) := by decide +kernel
theorem dL_law_528 : decode code 528 = .ok (.iaload, 1) := by decide +kernel
theorem dL_law_529 : decode code 529 = .ok (.aload_n 0, 1) := by decide +kernel
theorem dL_law_530 : decode code 530 = .ok (.iload 4, 2) := by decide +kernel
theorem dL_law_532 : decode code 532 = .ok (.iconst 2, 1) := by decide +kernel
theorem dL_law_533 : decode code 533 = .ok (.iadd, 1) := by decide +kernel
theorem dL_law_534 : decode code 534 = .ok (.iaload, 1) := by decide +kernel
theorem dL_law_535 : decode code 535 = .ok (.invokevirtual 76, 3) := by decide +kernel
theorem dL_law_538 : decode code 538 = .ok (.istore 6, 2) := by decide +kernel
theorem dL_law_540 : decode code 540 = .ok (.aload_n 2, 1) := by decide +kernel
theorem dL_law_541 : decode code 541 = .ok (.invokevirtual 50, 3) := by decide +kernel
theorem dL_law_544 : decode code 544 = .ok (.iload 5, 2) := by decide +kernel
theorem dL_law_546 : decode code 546 = .ok (.if_icmp .eq 5, 3) := by decide +kernel
theorem dL_law_549 : decode code 549 = .ok (.iconst 0, 1) := by decide +kernel
theorem dL_law_550 : decode code 550 = .ok (.ireturn, 1) := by decide +kernel
theorem dL_law_551 : decode code 551 = .ok (.iload 5, 2) := by decide +kernel
theorem dL_law_553 : decode code 553 = .ok (.ifCond .ne 15, 3) := by decide +kernel
theorem dL_law_556 : decode code 556 = .ok (.aload_n 3, 1) := by decide +kernel
theorem dL_law_557 : decode code 557 = .ok (.iconst 0, 1) := by decide +kernel
theorem dL_law_558 : decode code 558 = .ok (.laload, 1) := by decide +kernel
theorem dL_law_559 : decode code 559 = .ok (.iload 6, 2) := by decide +kernel
theorem dL_law_561 : decode code 561 = .ok (.i2l, 1) := by decide +kernel
theorem dL_law_562 : decode code 562 = .ok (.lcmp, 1) := by decide +kernel
theorem dL_law_563 : decode code 563 = .ok (.ifCond .eq 5, 3) := by decide +kernel
theorem dL_law_566 : decode code 566 = .ok (.iconst 0, 1) := by decide +kernel
theorem dL_law_567 : decode code 567 = .ok (.ireturn, 1) := by decide +kernel
theorem dL_law_568 : decode code 568 = .ok (.goto 3, 3) := by decide +kernel
theorem dL_law_571 : decode code 571 = .ok (.iinc 4 7, 3) := by decide +kernel
theorem dL_law_574 : decode code 574 = .ok (.goto (-551), 3) := by decide +kernel
theorem dL_law_577 : decode code 577 = .ok (.iconst 1, 1) := by decide +kernel
theorem dL_law_578 : decode code 578 = .ok (.ireturn, 1) := by decide +kernel
end
section
/-! ===== BEGIN words of one list among another's, by their places ===== -/
theorem goodIn_r {big : List Cond} (ws : List Cond) (ps : List Nat) (hp : ws = ps.filterMap (fun i => big[i]?)) (h : ws.all goodWord = true) : GoodIn big ws := by
  intro w hw
  have h1 := List.all_eq_true.mp h w hw
  rw [hp] at hw
  obtain ⟨i, -, hi⟩ := List.mem_filterMap.mp hw
  have hm : w ∈ big := by first | exact List.mem_of_getElem? hi | exact List.getElem?_mem hi
  exact ⟨hm, good_of_word h1⟩
theorem goodIn_app {big a b : List Cond} (ha : GoodIn big a) (hb : GoodIn big b) : GoodIn big (a ++ b) := fun w h => (List.mem_append.mp h).elim (ha w) (hb w)
theorem goodIn_ca {big a b : List Cond} {c : Cond} (ha : GoodIn big (c :: a)) (hb : GoodIn big b) : GoodIn big (c :: (a ++ b)) := fun w h => (List.mem_cons.mp h).elim (fun e => ha w (List.mem_cons.mpr (Or.inl e))) (fun h => (List.mem_append.mp h).elim (fun h => ha w (List.mem_cons.mpr (Or.inr h))) (hb w))
theorem goodIn_sub {big ws : List Cond} (hm : ∀ w ∈ ws, w ∈ big) (h : ws.all goodWord = true) : GoodIn big ws := fun w hw => ⟨hm w hw, good_of_word (List.all_eq_true.mp h w hw)⟩
/-! ===== END ===== -/

/-! ===== BEGIN exceptions that leave a method, and their catching by the caller (launches without stack traces) ===== -/
section VXA
/-! The laws vx_back, vx_callV, vx_callS, vx_callSW, vx_throw0, vx_throwS follow proofs of the library, with one case more: JvmDerived/Free/Laws.lean (Back.of_free), Shelf42/LK1.lean (callV, callS), Shelf/KitTraced.lean (throwNew0V, throwNewS). -/
/-- where a method has thrown q: the class by its name, the cell, what was written, the world -/
def vx_T (XC : String → State → State → Prop) (st : State) (q : Addr) (t : State) (mc ms : Nat) (free : Addr → Prop) : Prop :=
  ∃ (E : String) (ce : Cell) (L : List Loc), XC E st t ∧ t.heap[q]? = some ce ∧ ce.vm = .none ∧ st.vm.findClass E = some ce.cls ∧ st.WarmedH t.vm ∧ st.sameButNew ({ t with vm := st.vm } : State) L mc ms ∧ ∀ z ∈ L, free z.base
def vx_Q (Qc : Array Value → State → Outcome → State → Prop) (XC : String → State → State → Prop) (mc ms : Nat) (free : Addr → Prop) : Array Value → State → Outcome → State → Prop := fun a st o t =>
  (Qc a st o t ∧ ∃ L, FrameEnd st o t L mc ms ∧ ∀ q ∈ L, free q.base) ∨ ∃ q, o = .threw q ∧ vx_T XC st q t mc ms free
/-- a callee that returns or throws -/
def vx_Met (l : Launch) (y : MethodName) (ws : List Cond) (rm : Room) (Pc : Array Value → State → Prop) (Qc : Array Value → State → Outcome → State → Prop) (XC : String → State → State → Prop) (mc ms : Nat) (free : Addr → Prop) : Prop :=
  MetFree l y (headSpec ws rm) Pc (fun _ _ _ _ _ => True) (vx_Q Qc XC mc ms free)
def vx_Post (XC : String → State → State → Prop) (mc ms : Nat) (free : Addr → Prop) : Pt → Array Value → Addr → Pt → Prop := fun A a q B =>
  ∃ (g : JFrame) (mk : MethodId) (t : State) (L : List Loc) (E : String) (ce : Cell), B.U.heap = t.heap ∧ B.U.vm = t.vm ∧ XC E (A.U.calling g mk a) t ∧ t.heap[q]? = some ce ∧ ce.vm = .none ∧ A.U.vm.findClass E = some ce.cls ∧ B.locs = A.locs ++ L ∧ (∀ z ∈ L, free z.base) ∧ B.cells = A.cells + mc ∧ B.slots = A.slots + ms
def vx_Back (l : Launch) (R : Room) (p : Program) (e : Env) (below : List Frame) (s : State) (sargs : Array Value) (y : MethodName) (len W9 : Nat)
    (Pre : Pt → Array Value → Prop) (Post : Pt → Array Value → Option Value → Pt → Prop) (PostX : Pt → Array Value → Addr → Pt → Prop) : Prop :=
  ∀ (m : MethodId) (meth : Method) (c : Code) (A : Pt) (g : JFrame) (ig : Instr) (mk : MethodId) (a : Array Value),
    Stand p l e R s m sargs below meth c A.U A.locs A.cells A.slots → g.method = m → g.locals.size = c.maxLocals → decode c.code g.pc = .ok (ig, len) →
    2 * g.monitorRoom + (g.stack.map fun v => v.category).sum ≤ W9 → A.U.methodNamed? y = some mk → Pre A a →
    (∃ (v : Option Value) (B : Pt), Stand p l e R s m sargs below meth c B.U B.locs B.cells B.slots ∧ Post A a v B ∧
      Steps p.tables e below (doInvoke e (A.U.setTop g) [] mk a).1 (B.U.setTop { g with pc := g.pc + len, stack := v.toList ++ g.stack })) ∨
    (∃ (q : Addr) (B : Pt), Stand p l e R s m sargs below meth c B.U B.locs B.cells B.slots ∧ PostX A a q B ∧
      Steps p.tables e below (doInvoke e (A.U.setTop g) [] mk a).1 ((B.U.setTop g).pushFrame (.throwing q)))
section Payer
variable {l : Launch} {R : Room} {p : Program} {e : Env} {below : List Frame} {s : State} {sargs : Array Value} {y : MethodName} {len W9 : Nat}
theorem vx_back {ws : List Cond} {rm : Room} {Pc : Array Value → State → Prop} {Qc : Array Value → State → Outcome → State → Prop} {XC : String → State → State → Prop} {mc ms : Nat} {free : Addr → Prop} {bytes : ByteArray} {maxL : Nat} {ret : Option FieldType}
    (hM : vx_Met l y ws rm Pc Qc XC mc ms free) (hblind : FrameBlind Pc) (hrc : rm.cells = mc) (hrs : rm.slots = ms)
    (hframes : rm.frames + 1 ≤ R.frames) (hlocals : W9 + (maxL + 11) + rm.locals ≤ R.locals)
    (hws : ∀ w ∈ ws, ∀ a' U, s.WarmedH U.vm → w.before a' U = true) (hcode : Cond.code y bytes maxL ret ∈ ws) (hinit : ∀ a' U, s.WarmedH U.vm → (Cond.initialized y.cls).before a' U = true) :
    vx_Back l R p e below s sargs y len W9 (PreOf R mc ms Pc) (PostOf Qc mc ms free) (vx_Post XC mc ms free) := by
  intro m meth c A g ig mk a X hg hsize hdg hW hn hp
  have h1 : (headSpec ws rm).pre.before a A.U = true := atoms_intro fun w hw => hws w hw _ _ X.warmed
  have h2 : (Cond.code y bytes maxL ret).before a A.U = true := hws _ hcode _ _ X.warmed
  have h3 : (Cond.initialized y.cls).before a A.U = true := hinit _ _ X.warmed
  have h4 : A.cells + (headSpec ws rm).room.cells ≤ R.cells := by rw [show (headSpec ws rm).room.cells = mc from hrc]; exact hp.1
  have h5 : A.slots + (headSpec ws rm).room.slots ≤ R.slots := by rw [show (headSpec ws rm).room.slots = ms from hrs]; exact hp.2.1
  have hPc : Pc a (A.U.calling g mk a) := hblind _ _ _ _ hp.2.2
  obtain ⟨U, Ls, c0, s0⟩ := A
  dsimp only [Pt.U, Pt.locs, Pt.cells, Pt.slots] at h1 h2 h3 h4 h5 X hn hPc ⊢
  obtain ⟨methY, cY, hmY, hcY, -, hlY, -, -, -, -⟩ := Cond.code_spec hn h2
  obtain ⟨kY, hkY, -⟩ := className_of_methodNamed hn
  have hinitY : kY.init = .initialized := Cond.initialized_spec (findClass_of_methodNamed hn) hkY h3
  have h : At U g.method c below := by rw [hg]; exact X.here
  have hlocals9 : W9 + (maxL + 11) + (headSpec ws rm).room.locals ≤ R.locals := hlocals
  have happ : (headSpec ws rm).appliesLoose y e.platform (U.calling g mk a) = true :=
    Spec.appliesLoose_calling (g := g) h hdg hn hkY hinitY
      (X.room_calling (g := g) (R' := (headSpec ws rm).room) hsize hmY hcY hframes (by rw [hlY]; omega) h4 h5) h1
  obtain ⟨mid, hmid⟩ := h.above
  have hfr : (U.setTop g).frames = (.java g :: mid) ++ below := by rw [State.frames_setTop' g h.top, hmid]; rfl
  obtain ⟨o, s₂, hsteps, -, hend, hq⟩ := Steps.callFree hM p X.admits X.cas X.clock (acts := []) hfr happ hPc trivial
  have hq' : vx_Q Qc XC mc ms free a (U.calling g mk a) o s₂ := hq
  rw [State.frames_setTop' g h.top] at hend
  obtain ⟨g₀, hg0⟩ := Option.isSome_iff_exists.mp h.top
  obtain ⟨r, hr⟩ := State.topJava?_eq_some.mp hg0
  have hr' : (({ U with heap := s₂.heap, slotsUsed := s₂.slotsUsed } : State).setVm s₂.vm).frames = .java g₀ :: r := hr
  rcases hq' with ⟨hqc, L, hfe, hL⟩ | ⟨q, rfl, E, ce, L, hx, hce, hcv, hcl, hW₂, hsm, hL⟩
  · obtain ⟨⟨v, rfl⟩, hW₂, e2, q2, q3, q4, q5, q6⟩ := id hfe
    have e3 : s₂ = ({ (U.calling g mk a).setFrames s₂.frames with heap := s₂.heap, slotsUsed := s₂.slotsUsed } : State).setVm s₂.vm := by
      have : s₂ = ({ s₂ with vm := (U.calling g mk a).vm } : State).setVm s₂.vm := rfl
      rw [e2] at this
      exact this
    obtain ⟨c₂, i₂, len₂, hc₂, hd₂, hf₂⟩ := hend
    have hW' : U.WarmedH s₂.vm := hW₂
    have hcc : c₂ = c := by
      have h1 : s₂.code? g.method = U.code? g.method := by
        rw [State.code?_eq, State.code?_eq, hW'.alike.method?]
      exact Option.some.inj (hc₂.symm.trans (h1.trans h.code))
    subst hcc
    have hlen : len₂ = len := by rw [hdg] at hd₂; cases hd₂; rfl
    subst hlen
    have hs₂ : s₂ = (({ U with heap := s₂.heap, slotsUsed := s₂.slotsUsed } : State).setVm s₂.vm).setTop { g with pc := g.pc + len₂, stack := v.toList ++ g.stack } := by
      refine e3.trans ?_
      rw [hf₂, State.calling_eq h.top, State.setFrames_setFrames, State.setTop_of_frames _ hr', hr]
      rfl
    have hsame : U.sameButNew ({ U with heap := s₂.heap, slotsUsed := s₂.slotsUsed } : State) L mc ms := by
      refine ⟨?_, q2, q3, q4, q5, q6⟩
      obtain ⟨t, ht, -⟩ := State.frames_cons hr
      show ({ U with heap := s₂.heap, slotsUsed := s₂.slotsUsed } : State) = { U.setFrames U.frames with heap := s₂.heap, slotsUsed := s₂.slotsUsed }
      rw [State.setFrames_self ht]
    subst hg
    refine Or.inl ⟨v, ⟨(({ U with heap := s₂.heap, slotsUsed := s₂.slotsUsed } : State).setVm s₂.vm), Ls ++ L, c0 + mc, s0 + ms⟩,
      ⟨X.admits, X.cas, X.clock, X.frames, X.room, X.hears, X.method, X.code, (X.here.setHeapUsed s₂.heap s₂.slotsUsed).setVm hW'.alike, X.tail, State.WarmedH.trans X.warmed hW', X.limits, X.bytes, X.same.trans (hsame.setVm s.vm)⟩,
      ⟨g, mk, s₂, L, rfl, rfl, hqc, rfl, hL, rfl, rfl⟩, ?_⟩
    show Steps p.tables e below _ ((({ U with heap := s₂.heap, slotsUsed := s₂.slotsUsed } : State).setVm s₂.vm).setTop { g with pc := g.pc + len₂, stack := v.toList ++ g.stack })
    rw [← hs₂]
    exact hsteps
  · obtain ⟨e2, q2, q3, q4, q5, q6⟩ := id hsm
    have e3 : s₂ = ({ (U.calling g mk a).setFrames s₂.frames with heap := s₂.heap, slotsUsed := s₂.slotsUsed } : State).setVm s₂.vm := by
      have : s₂ = ({ s₂ with vm := (U.calling g mk a).vm } : State).setVm s₂.vm := rfl
      rw [e2] at this
      exact this
    have hf₂ : s₂.frames = .throwing q :: .java g :: U.frames.tail := hend
    have hW' : U.WarmedH s₂.vm := hW₂
    have hs₂ : s₂ = ((({ U with heap := s₂.heap, slotsUsed := s₂.slotsUsed } : State).setVm s₂.vm).setTop g).pushFrame (.throwing q) := by
      refine e3.trans ?_
      rw [hf₂, State.calling_eq h.top, State.setFrames_setFrames, State.pushFrame, State.frames_setTop _ hr', State.setTop_of_frames _ hr', State.setFrames_setFrames, hr]
      rfl
    have hsame : U.sameButNew ({ U with heap := s₂.heap, slotsUsed := s₂.slotsUsed } : State) L mc ms := by
      refine ⟨?_, q2, q3, q4, q5, q6⟩
      obtain ⟨t, ht, -⟩ := State.frames_cons hr
      show ({ U with heap := s₂.heap, slotsUsed := s₂.slotsUsed } : State) = { U.setFrames U.frames with heap := s₂.heap, slotsUsed := s₂.slotsUsed }
      rw [State.setFrames_self ht]
    subst hg
    refine Or.inr ⟨q, ⟨(({ U with heap := s₂.heap, slotsUsed := s₂.slotsUsed } : State).setVm s₂.vm), Ls ++ L, c0 + mc, s0 + ms⟩,
      ⟨X.admits, X.cas, X.clock, X.frames, X.room, X.hears, X.method, X.code, (X.here.setHeapUsed s₂.heap s₂.slotsUsed).setVm hW'.alike, X.tail, State.WarmedH.trans X.warmed hW', X.limits, X.bytes, X.same.trans (hsame.setVm s.vm)⟩,
      ⟨g, mk, s₂, L, E, ce, rfl, rfl, hx, hce, hcv, hcl, rfl, hL, rfl, rfl⟩, ?_⟩
    show Steps p.tables e below _ (((({ U with heap := s₂.heap, slotsUsed := s₂.slotsUsed } : State).setVm s₂.vm).setTop g).pushFrame (.throwing q))
    rw [← hs₂]
    exact hsteps
end Payer
section Calls
variable {p : Program} {l : Launch} {e : Env} {R : Room} {s : State} {m : MethodId} {args : Array Value} {below : List Frame} {meth : Method} {c : Code} {T : State} {locs : List Loc} {cells slots : Nat}
theorem vx_callV (X : Stand p l e R s m args below meth c T locs cells slots) (hexec : p.tables.exec = Jvm.exec) {own C : String} {index : Nat} {y : MethodName} {bytes : ByteArray} {maxL : Nat} {ret : Option FieldType}
    (hown : s.vm.findClass own = some m.cls) (hlink : (Cond.methodLink own index y).before args s = true) (hinst : (Cond.instanceMethod y).before args s = true) (hsel : (Cond.selects C y y).before args s = true)
    (hcode : (Cond.code y bytes maxL ret).before args s = true) (hy : y.cls ≠ "java/lang/invoke/MethodHandle" ∧ y.cls ≠ "java/lang/invoke/VarHandle")
    {W9 : Nat} {Pre : Pt → Array Value → Prop} {Post : Pt → Array Value → Option Value → Pt → Prop} {PostX : Pt → Array Value → Addr → Pt → Prop} (hK : vx_Back l R p e below s args y 3 W9 Pre Post PostX)
    {b : Addr} {cellB : Cell} (hcell : T.heap[b]? = some cellB) (hobj : cellB.vm.isStatics = false) (hcls : s.vm.findClass C = some cellB.cls)
    {g : JFrame} (hg : g.method = m) (hsize : g.locals.size = c.maxLocals) {argsL rest : List Value} (hlen : ∀ sig, parseMethodDescriptor y.desc = some sig → argsL.length = sig.parameters.length)
    (hstack : g.stack = argsL.reverse ++ .ref b :: rest) (hW : 2 * g.monitorRoom + (rest.map fun v => v.category).sum ≤ W9) (hdg : decode c.code g.pc = .ok (.invokevirtual index, 3))
    (hpre : ∀ vm₁, s.WarmedH vm₁ → Pre ⟨T.setVm vm₁, locs, cells, slots⟩ (Value.ref b :: argsL).toArray) :
    (∃ (v : Option Value) (vm₁ : Vm) (B : Pt), s.WarmedH vm₁ ∧ Stand p l e R s m args below meth c B.U B.locs B.cells B.slots ∧ Post ⟨T.setVm vm₁, locs, cells, slots⟩ (Value.ref b :: argsL).toArray v B ∧
      ∀ target, Steps p.tables e below (B.U.setTop { g with pc := g.pc + 3, stack := v.toList ++ rest }) target → Steps p.tables e below (T.setTop g) target) ∨
    (∃ (q : Addr) (vm₁ : Vm) (B : Pt), s.WarmedH vm₁ ∧ Stand p l e R s m args below meth c B.U B.locs B.cells B.slots ∧ PostX ⟨T.setVm vm₁, locs, cells, slots⟩ (Value.ref b :: argsL).toArray q B ∧
      Steps p.tables e below (T.setTop g) ((B.U.setTop { g with stack := rest }).pushFrame (.throwing q))) := by
  obtain ⟨mk, methM, hnamed, hmethM, hstM, habM⟩ := Cond.instanceMethod_spec hinst
  obtain ⟨methM', cM, hmethM', -, -, -, -, -, -, hsigM⟩ := Cond.code_spec hnamed hcode
  cases hmethM.symm.trans hmethM'
  obtain ⟨c2, r2, m2, q1, q2, q3, q4, kP, hkP, hkPi⟩ := Cond.selects_spec hsel
  cases hcls.symm.trans q1
  cases (State.methodFound?_of_named hnamed hy).symm.trans q2
  cases hnamed.symm.trans q3
  have hselP : selectMethod e.platform s.vm cellB.cls mk = .method mk := by rw [Launch.admits_selectMethod X.admits]; exact q4
  obtain ⟨vm₁, X₁, hstep₁⟩ := X.invokevirtual hexec hown hlink hnamed hmethM hstM hkP hkPi hy (a := b) (cell := cellB) hcell
    (fun z h => by rw [h] at hobj; cases hobj) hselP hmethM habM hkP hkPi (g := g) hg (argsL := argsL) (rest := rest) (hlen _ hsigM) hstack hdg
  rcases hK m meth c ⟨T.setVm vm₁, locs, cells, slots⟩ { g with stack := rest } (.invokevirtual index) mk (Value.ref b :: argsL).toArray X₁ hg hsize hdg hW (X₁.named hnamed) (hpre vm₁ X₁.warmed) with ⟨v, B, X', hpost, hsteps⟩ | ⟨q, B, X', hpost, hsteps⟩
  · exact Or.inl ⟨v, vm₁, B, X₁.warmed, X', hpost, fun target h => hstep₁ _ fun acts => by rw [doInvoke_state]; exact hsteps.trans h⟩
  · exact Or.inr ⟨q, vm₁, B, X₁.warmed, X', hpost, hstep₁ _ fun acts => by rw [doInvoke_state]; exact hsteps⟩
theorem vx_callS (X : Stand p l e R s m args below meth c T locs cells slots) (hexec : p.tables.exec = Jvm.exec) {own : String} {index : Nat} {y : MethodName} {bytes : ByteArray} {maxL : Nat} {ret : Option FieldType}
    (hown : s.vm.findClass own = some m.cls) (hlink : (Cond.methodLink own index y).before args s = true) (hstat : (Cond.static y).before args s = true) (hinit : (Cond.initialized y.cls).before args s = true)
    (hcode : (Cond.code y bytes maxL ret).before args s = true) (hy : y.cls ≠ "java/lang/invoke/MethodHandle" ∧ y.cls ≠ "java/lang/invoke/VarHandle")
    {W9 : Nat} {Pre : Pt → Array Value → Prop} {Post : Pt → Array Value → Option Value → Pt → Prop} {PostX : Pt → Array Value → Addr → Pt → Prop} (hK : vx_Back l R p e below s args y 3 W9 Pre Post PostX)
    {g : JFrame} (hg : g.method = m) (hsize : g.locals.size = c.maxLocals) {argsL rest : List Value} (hlen : ∀ sig, parseMethodDescriptor y.desc = some sig → argsL.length = sig.parameters.length)
    (hstack : g.stack = argsL.reverse ++ rest) (hW : 2 * g.monitorRoom + (rest.map fun v => v.category).sum ≤ W9) (hdg : decode c.code g.pc = .ok (.invokestatic index, 3))
    (hpre : ∀ vm₁, s.WarmedH vm₁ → Pre ⟨T.setVm vm₁, locs, cells, slots⟩ argsL.toArray) :
    (∃ (v : Option Value) (vm₁ : Vm) (B : Pt), s.WarmedH vm₁ ∧ Stand p l e R s m args below meth c B.U B.locs B.cells B.slots ∧ Post ⟨T.setVm vm₁, locs, cells, slots⟩ argsL.toArray v B ∧
      ∀ target, Steps p.tables e below (B.U.setTop { g with pc := g.pc + 3, stack := v.toList ++ rest }) target → Steps p.tables e below (T.setTop g) target) ∨
    (∃ (q : Addr) (vm₁ : Vm) (B : Pt), s.WarmedH vm₁ ∧ Stand p l e R s m args below meth c B.U B.locs B.cells B.slots ∧ PostX ⟨T.setVm vm₁, locs, cells, slots⟩ argsL.toArray q B ∧
      Steps p.tables e below (T.setTop g) ((B.U.setTop { g with stack := rest }).pushFrame (.throwing q))) := by
  obtain ⟨mk, hnamed⟩ := Cond.code_named hcode
  obtain ⟨methM, cM, hmethM, -, -, -, -, -, -, hsigM⟩ := Cond.code_spec hnamed hcode
  have hstatic : methM.isStatic = true := Cond.static_spec hnamed hmethM hstat
  obtain ⟨kP, hkP, -⟩ := className_of_methodNamed hnamed
  have hinitP : kP.init = .initialized := Cond.initialized_spec (findClass_of_methodNamed hnamed) hkP hinit
  obtain ⟨vm₁, X₁, hstep₁⟩ := X.invokestatic hexec hown hlink hnamed hmethM hstatic hkP hinitP hy (g := g) hg (argsL := argsL) (rest := rest) (hlen _ hsigM) hstack hdg
  rcases hK m meth c ⟨T.setVm vm₁, locs, cells, slots⟩ { g with stack := rest } (.invokestatic index) mk argsL.toArray X₁ hg hsize hdg hW (X₁.named hnamed) (hpre vm₁ X₁.warmed) with ⟨v, B, X', hpost, hsteps⟩ | ⟨q, B, X', hpost, hsteps⟩
  · exact Or.inl ⟨v, vm₁, B, X₁.warmed, X', hpost, fun target h => hstep₁ _ fun acts => by rw [doInvoke_state]; exact hsteps.trans h⟩
  · exact Or.inr ⟨q, vm₁, B, X₁.warmed, X', hpost, hstep₁ _ fun acts => by rw [doInvoke_state]; exact hsteps⟩
end Calls
theorem vx_cls {s : State} {T : State} {vm₁ : Vm} {E : String} {k : ClassId} (hW : s.WarmedH vm₁) (h : (T.setVm vm₁).vm.findClass E = some k) : s.vm.findClass E = some k := by
  have h1 : vm₁.findClass E = some k := h
  rw [hW.alike.findClass] at h1
  exact h1
/-- the method's frame g, with q thrown over it -/
def vx_W (p : Program) (l : Launch) (e : Env) (R : Room) (s : State) (m : MethodId) (args : Array Value) (below : List Frame) (meth : Method) (c : Code) (H : Heap) (locs : List Loc) (cells slots : Nat) (Q : State → Prop) (g : JFrame) (q : Addr) : Prop :=
  ∀ T : State, T.heap = H → Stand p l e R s m args below meth c T locs cells slots → ∃ t, Steps p.tables e below ((T.setTop g).pushFrame (.throwing q)) t ∧ Q t
def vx_Run (p : Program) (l : Launch) (e : Env) (R : Room) (s : State) (m : MethodId) (args : Array Value) (below : List Frame) (meth : Method) (c : Code) (H : Heap) (locs : List Loc) (cells slots mc ms : Nat) (g : JFrame) (rest : List Value) (Qa : State → Outcome → State → Prop) (XC : String → State → State → Prop) (free : Addr → Prop) : Prop :=
  ∀ T : State, T.heap = H → Stand p l e R s m args below meth c T locs cells slots →
    (∃ (v : Option Value) (st₀ t T' : State) (L : List Loc), st₀.heap = H ∧ Stand p l e R s m args below meth c T' (locs ++ L) (cells + mc) (slots + ms) ∧ (∀ q ∈ L, free q.base) ∧ T'.heap = t.heap ∧ T'.vm = t.vm ∧ Qa st₀ (.returned v) t ∧
      Goes p e below T g T' { g with pc := g.pc + 3, stack := v.toList ++ rest }) ∨
    (∃ (q : Addr) (st₀ t T' : State) (L : List Loc) (E : String) (ce : Cell), st₀.heap = H ∧ Stand p l e R s m args below meth c T' (locs ++ L) (cells + mc) (slots + ms) ∧ (∀ z ∈ L, free z.base) ∧ T'.heap = t.heap ∧ T'.vm = t.vm ∧ XC E st₀ t ∧ t.heap[q]? = some ce ∧ ce.vm = .none ∧ s.vm.findClass E = some ce.cls ∧
      Steps p.tables e below (T.setTop g) ((T'.setTop { g with stack := rest }).pushFrame (.throwing q)))
def vx_X {S : Type} (px : S → Prop) (B : String → S → State → Prop) (A : Nat → Prop) : String → State → State → Prop := fun E st t => ∃ u : S, px u ∧ B E u t ∧ va_F A st t
section Runs
variable {p : Program} {l : Launch} {e : Env} {R : Room} {s : State} {m : MethodId} {args : Array Value} {below : List Frame} {meth : Method} {c : Code} {H : Heap} {locs : List Loc} {cells slots : Nat}
variable {y : MethodName} {bytes cc : ByteArray} {maxL nL mc ms n index : Nat} {ret : Option FieldType} {ws : List Cond} {rm : Room} {Pc : Array Value → State → Prop} {Qc : Array Value → State → Outcome → State → Prop} {XC : String → State → State → Prop} {free : Addr → Prop} {Ts : List Cond} {own C : String} {b : Addr} {As rest : List Value} {g : JFrame}
theorem vx_callBack (cb : CallB R s args own index y bytes maxL ret ws rm mc ms n) (hM : vx_Met l y ws rm Pc Qc XC mc ms free) (hbl : FrameBlind Pc) : vx_Back l R p e below s args y 3 8 (PreOf R mc ms Pc) (PostOf Qc mc ms free) (vx_Post XC mc ms free) := by
  obtain ⟨hrc, hrs, hfr, hlo, hws, hcw, -, hini, -⟩ := cb
  exact vx_back (bytes := bytes) (maxL := maxL) (ret := ret) hM hbl hrc hrs hfr hlo hws hcw (fun a' U hW => word_at hW (Or.inl (by first | rfl | simp [Cond.onTables, Cond.keeps, Cond.steady])) hini)
theorem vx_runV (S : CallFix p m c cc nL s args Ts own) (hM : vx_Met l y ws rm Pc Qc XC mc ms free) (cw : CallW R s args own C index y bytes maxL ret ws rm mc ms n) (hp : PreV s H C b Pc As)
    (hg : g.method = m) (hn : As.length = n) (hsize : g.locals.size = nL) (hstack : g.stack = As.reverse ++ .ref b :: rest) (hW : 2 * g.monitorRoom + (rest.map fun v => v.category).sum ≤ 8) (hdg : decode cc g.pc = .ok (.invokevirtual index, 3)) (hf : cells + mc ≤ R.cells ∧ slots + ms ≤ R.slots) :
    vx_Run p l e R s m args below meth c H locs cells slots mc ms g rest (Qc (Value.ref b :: As).toArray) XC free := by
  have hK : vx_Back l R p e below s args y 3 8 (PreOf R mc ms Pc) (PostOf Qc mc ms free) (vx_Post XC mc ms free) := vx_callBack cw.1 hM hp.1
  obtain ⟨⟨-, -, -, -, -, -, hcode, -, hy, hlen, hl⟩, hin, hse⟩ := cw
  obtain ⟨hx, hb, hml, ho, -⟩ := S
  obtain ⟨-, ⟨cellB, hcB, hoB, hclB⟩, hPc⟩ := hp
  intro T hT X
  rcases vx_callV X hx (C := C) (bytes := bytes) (maxL := maxL) (ret := ret) ho hl hin hse hcode hy hK (by rw [hT]; exact hcB) hoB hclB hg (hsize.trans hml.symm) (argsL := As) (rest := rest) (fun sig h => hn.trans (hlen sig h)) hstack hW (by rw [hb]; exact hdg)
    (fun vm₁ hW₁ => ⟨hf.1, hf.2, hPc (T.setVm vm₁) hT hW₁⟩) with ⟨v, vm₁, ⟨U', l2, c2, s2⟩, hW₁, X', ⟨g', mk, t, L, e1, e2, hq, h1, hL, h2, h3⟩, st⟩ | ⟨q, vm₁, ⟨U', l2, c2, s2⟩, hW₁, X', ⟨g', mk, t, L, E, ce, e1, e2, hq, hce, hcv, hcl, h1, hL, h2, h3⟩, st⟩
  · dsimp only [Pt.U, Pt.locs, Pt.cells, Pt.slots] at X' e1 e2 h1 h2 h3 st
    subst h1; subst h2; subst h3
    exact Or.inl ⟨v, (T.setVm vm₁).calling g' mk (Value.ref b :: As).toArray, t, U', L, hT, X', hL, e1, e2, hq, st⟩
  · dsimp only [Pt.U, Pt.locs, Pt.cells, Pt.slots] at X' e1 e2 h1 h2 h3 st hcl
    subst h1; subst h2; subst h3
    exact Or.inr ⟨q, (T.setVm vm₁).calling g' mk (Value.ref b :: As).toArray, t, U', L, E, ce, hT, X', hL, e1, e2, hq, hce, hcv, vx_cls hW₁ hcl, st⟩
theorem vx_runS (S : CallFix p m c cc nL s args Ts own) (hM : vx_Met l y ws rm Pc Qc XC mc ms free) (cw : CallB R s args own index y bytes maxL ret ws rm mc ms n ∧ (Cond.static y).before args s = true) (hp : PreS s H Pc As)
    (hg : g.method = m) (hn : As.length = n) (hsize : g.locals.size = nL) (hstack : g.stack = As.reverse ++ rest) (hW : 2 * g.monitorRoom + (rest.map fun v => v.category).sum ≤ 8) (hdg : decode cc g.pc = .ok (.invokestatic index, 3)) (hf : cells + mc ≤ R.cells ∧ slots + ms ≤ R.slots) :
    vx_Run p l e R s m args below meth c H locs cells slots mc ms g rest (Qc As.toArray) XC free := by
  have hK : vx_Back l R p e below s args y 3 8 (PreOf R mc ms Pc) (PostOf Qc mc ms free) (vx_Post XC mc ms free) := vx_callBack cw.1 hM hp.1
  obtain ⟨⟨-, -, -, -, -, -, hcode, hini, hy, hlen, hl⟩, hstt⟩ := cw
  obtain ⟨hx, hb, hml, ho, -⟩ := S
  intro T hT X
  rcases vx_callS X hx (bytes := bytes) (maxL := maxL) (ret := ret) ho hl hstt hini hcode hy hK hg (hsize.trans hml.symm) (argsL := As) (rest := rest) (fun sig h => hn.trans (hlen sig h)) hstack hW (by rw [hb]; exact hdg)
    (fun vm₁ hW₁ => ⟨hf.1, hf.2, hp.2 (T.setVm vm₁) hT hW₁⟩) with ⟨v, vm₁, ⟨U', l2, c2, s2⟩, hW₁, X', ⟨g', mk, t, L, e1, e2, hq, h1, hL, h2, h3⟩, st⟩ | ⟨q, vm₁, ⟨U', l2, c2, s2⟩, hW₁, X', ⟨g', mk, t, L, E, ce, e1, e2, hq, hce, hcv, hcl, h1, hL, h2, h3⟩, st⟩
  · dsimp only [Pt.U, Pt.locs, Pt.cells, Pt.slots] at X' e1 e2 h1 h2 h3 st
    subst h1; subst h2; subst h3
    exact Or.inl ⟨v, (T.setVm vm₁).calling g' mk As.toArray, t, U', L, hT, X', hL, e1, e2, hq, st⟩
  · dsimp only [Pt.U, Pt.locs, Pt.cells, Pt.slots] at X' e1 e2 h1 h2 h3 st hcl
    subst h1; subst h2; subst h3
    exact Or.inr ⟨q, (T.setVm vm₁).calling g' mk As.toArray, t, U', L, E, ce, hT, X', hL, e1, e2, hq, hce, hcv, vx_cls hW₁ hcl, st⟩
end Runs
section Rows
variable {p : Program} {l : Launch} {e : Env} {R : Room} {s : State} {m : MethodId} {args : Array Value} {below : List Frame} {meth : Method} {c : Code} {H : Heap} {locs : List Loc} {cells slots : Nat} {Q : State → Prop}
variable {mc ms : Nat} {free : Addr → Prop} {A0 A1 : Nat → Prop} {H0 : Heap} {a : Array Value} {pc : Nat} {ls : Array Slot} {st0 rest : List Value}
theorem vx_keep {st₀ t T' : State} {L : List Loc} (h0 : st₀.heap = H) (e1 : T'.heap = t.heap) (hS : va_S A0 H0 H locs) (hA : ∀ q, q < H.size → A1 q → A0 q) (hf : ∀ q, free q → A0 q) (hL : ∀ q ∈ L, free q.base) (hF : va_F A1 st₀ t) :
    H.size ≤ T'.heap.size ∧ (∀ q : Nat, q < H.size → ¬ A1 q → T'.heap[q]? = H[q]?) ∧ va_S A0 H0 T'.heap (locs ++ L) := by
  obtain ⟨hz, hk⟩ := hF
  rw [h0] at hz hk
  exact ⟨by rw [e1]; exact hz, fun q h1 h2 => by rw [e1]; exact hk q h1 h2,
    ⟨Nat.le_trans hS.1 (by rw [e1]; exact hz), fun q h1 h2 => by rw [e1, hk q (Nat.lt_of_lt_of_le h1 hS.1) (fun z => h2 (hA q (Nat.lt_of_lt_of_le h1 hS.1) z))]; exact hS.2.1 q h1 h2, fun q hq => by
      rcases List.mem_append.mp hq with h | h
      · exact hS.2.2 q h
      · exact hf _ (hL q h)⟩⟩
theorem vx_calli {S SX : Type} {post : Int32 → S → Prop} {px : SX → Prop} {B : S → State → Prop} {BX : String → SX → State → Prop} {AX : Nat → Prop} (hr : vx_Run p l e R s m args below meth c H locs cells slots mc ms (F0 m pc ls st0) rest (va_Qi post B A1 a) (vx_X px BX AX) free) (hS : va_S A0 H0 H locs) (hA : ∀ q, q < H.size → A1 q → A0 q) (hf : ∀ q, free q → A0 q) (hAX : ∀ q, q < H.size → AX q → A0 q)
    (kx : ∀ (E : String) (ce : Cell) (q9 : Addr) (u : SX) (t : State) (H1 : Heap) (locs1 : List Loc), t.heap = H1 → s.vm.Alike t.vm → px u → BX E u t → H.size ≤ H1.size → (∀ q : Nat, q < H.size → ¬ AX q → H1[q]? = H[q]?) → va_S A0 H0 H1 locs1 → H1[q9]? = some ce → ce.vm = .none → s.vm.findClass E = some ce.cls → vx_W p l e R s m args below meth c H1 locs1 (cells + mc) (slots + ms) Q (F0 m pc ls rest) q9)
    (kk : ∀ (r : Int32) (u : S) (t : State) (H1 : Heap) (locs1 : List Loc), t.heap = H1 → s.vm.Alike t.vm → post r u → B u t → H.size ≤ H1.size → (∀ q : Nat, q < H.size → ¬ A1 q → H1[q]? = H[q]?) → va_S A0 H0 H1 locs1 → W p l e R s m args below meth c H1 locs1 (cells + mc) (slots + ms) Q (F0 m (pc + 3) ls (.int r :: rest))) : W p l e R s m args below meth c H locs cells slots Q (F0 m pc ls st0) := by
  intro T hT X
  rcases hr T hT X with ⟨v, st₀, t, T', L, h0, X', hL, e1, e2, ⟨⟨r, u, hv, hp, hb⟩, hF⟩, st⟩ | ⟨q, st₀, t, T', L, E, ce, h0, X', hL, e1, e2, ⟨u, hp, hb, hF⟩, hce, hcv, hcl, st⟩
  · cases hv
    obtain ⟨k1, k2, k3⟩ := vx_keep h0 e1 hS hA hf hL hF
    obtain ⟨t2, a1, b1⟩ := kk r u t T'.heap (locs ++ L) e1.symm (by rw [← e2]; exact X'.warmed.alike) hp hb k1 k2 k3 T' rfl X'
    exact ⟨t2, st t2 a1, b1⟩
  · obtain ⟨k1, k2, k3⟩ := vx_keep h0 e1 hS hAX hf hL hF
    obtain ⟨t2, a1, b1⟩ := kx E ce q u t T'.heap (locs ++ L) e1.symm (by rw [← e2]; exact X'.warmed.alike) hp hb k1 k2 k3 (by rw [e1]; exact hce) hcv hcl T' rfl X'
    exact ⟨t2, st.trans a1, b1⟩
theorem vx_calll {S SX : Type} {post : Int64 → S → Prop} {px : SX → Prop} {B : S → State → Prop} {BX : String → SX → State → Prop} {AX : Nat → Prop} (hr : vx_Run p l e R s m args below meth c H locs cells slots mc ms (F0 m pc ls st0) rest (va_Ql post B A1 a) (vx_X px BX AX) free) (hS : va_S A0 H0 H locs) (hA : ∀ q, q < H.size → A1 q → A0 q) (hf : ∀ q, free q → A0 q) (hAX : ∀ q, q < H.size → AX q → A0 q)
    (kx : ∀ (E : String) (ce : Cell) (q9 : Addr) (u : SX) (t : State) (H1 : Heap) (locs1 : List Loc), t.heap = H1 → s.vm.Alike t.vm → px u → BX E u t → H.size ≤ H1.size → (∀ q : Nat, q < H.size → ¬ AX q → H1[q]? = H[q]?) → va_S A0 H0 H1 locs1 → H1[q9]? = some ce → ce.vm = .none → s.vm.findClass E = some ce.cls → vx_W p l e R s m args below meth c H1 locs1 (cells + mc) (slots + ms) Q (F0 m pc ls rest) q9)
    (kk : ∀ (r : Int64) (u : S) (t : State) (H1 : Heap) (locs1 : List Loc), t.heap = H1 → s.vm.Alike t.vm → post r u → B u t → H.size ≤ H1.size → (∀ q : Nat, q < H.size → ¬ A1 q → H1[q]? = H[q]?) → va_S A0 H0 H1 locs1 → W p l e R s m args below meth c H1 locs1 (cells + mc) (slots + ms) Q (F0 m (pc + 3) ls (.long r :: rest))) : W p l e R s m args below meth c H locs cells slots Q (F0 m pc ls st0) := by
  intro T hT X
  rcases hr T hT X with ⟨v, st₀, t, T', L, h0, X', hL, e1, e2, ⟨⟨r, u, hv, hp, hb⟩, hF⟩, st⟩ | ⟨q, st₀, t, T', L, E, ce, h0, X', hL, e1, e2, ⟨u, hp, hb, hF⟩, hce, hcv, hcl, st⟩
  · cases hv
    obtain ⟨k1, k2, k3⟩ := vx_keep h0 e1 hS hA hf hL hF
    obtain ⟨t2, a1, b1⟩ := kk r u t T'.heap (locs ++ L) e1.symm (by rw [← e2]; exact X'.warmed.alike) hp hb k1 k2 k3 T' rfl X'
    exact ⟨t2, st t2 a1, b1⟩
  · obtain ⟨k1, k2, k3⟩ := vx_keep h0 e1 hS hAX hf hL hF
    obtain ⟨t2, a1, b1⟩ := kx E ce q u t T'.heap (locs ++ L) e1.symm (by rw [← e2]; exact X'.warmed.alike) hp hb k1 k2 k3 (by rw [e1]; exact hce) hcv hcl T' rfl X'
    exact ⟨t2, st.trans a1, b1⟩
theorem vx_callf {S SX : Type} {post : UInt32 → S → Prop} {px : SX → Prop} {B : S → State → Prop} {BX : String → SX → State → Prop} {AX : Nat → Prop} (hr : vx_Run p l e R s m args below meth c H locs cells slots mc ms (F0 m pc ls st0) rest (va_Qf post B A1 a) (vx_X px BX AX) free) (hS : va_S A0 H0 H locs) (hA : ∀ q, q < H.size → A1 q → A0 q) (hf : ∀ q, free q → A0 q) (hAX : ∀ q, q < H.size → AX q → A0 q)
    (kx : ∀ (E : String) (ce : Cell) (q9 : Addr) (u : SX) (t : State) (H1 : Heap) (locs1 : List Loc), t.heap = H1 → s.vm.Alike t.vm → px u → BX E u t → H.size ≤ H1.size → (∀ q : Nat, q < H.size → ¬ AX q → H1[q]? = H[q]?) → va_S A0 H0 H1 locs1 → H1[q9]? = some ce → ce.vm = .none → s.vm.findClass E = some ce.cls → vx_W p l e R s m args below meth c H1 locs1 (cells + mc) (slots + ms) Q (F0 m pc ls rest) q9)
    (kk : ∀ (r : UInt32) (u : S) (t : State) (H1 : Heap) (locs1 : List Loc), t.heap = H1 → s.vm.Alike t.vm → post r u → B u t → H.size ≤ H1.size → (∀ q : Nat, q < H.size → ¬ A1 q → H1[q]? = H[q]?) → va_S A0 H0 H1 locs1 → W p l e R s m args below meth c H1 locs1 (cells + mc) (slots + ms) Q (F0 m (pc + 3) ls (.float r :: rest))) : W p l e R s m args below meth c H locs cells slots Q (F0 m pc ls st0) := by
  intro T hT X
  rcases hr T hT X with ⟨v, st₀, t, T', L, h0, X', hL, e1, e2, ⟨⟨r, u, hv, hp, hb⟩, hF⟩, st⟩ | ⟨q, st₀, t, T', L, E, ce, h0, X', hL, e1, e2, ⟨u, hp, hb, hF⟩, hce, hcv, hcl, st⟩
  · cases hv
    obtain ⟨k1, k2, k3⟩ := vx_keep h0 e1 hS hA hf hL hF
    obtain ⟨t2, a1, b1⟩ := kk r u t T'.heap (locs ++ L) e1.symm (by rw [← e2]; exact X'.warmed.alike) hp hb k1 k2 k3 T' rfl X'
    exact ⟨t2, st t2 a1, b1⟩
  · obtain ⟨k1, k2, k3⟩ := vx_keep h0 e1 hS hAX hf hL hF
    obtain ⟨t2, a1, b1⟩ := kx E ce q u t T'.heap (locs ++ L) e1.symm (by rw [← e2]; exact X'.warmed.alike) hp hb k1 k2 k3 (by rw [e1]; exact hce) hcv hcl T' rfl X'
    exact ⟨t2, st.trans a1, b1⟩
theorem vx_calld {S SX : Type} {post : UInt64 → S → Prop} {px : SX → Prop} {B : S → State → Prop} {BX : String → SX → State → Prop} {AX : Nat → Prop} (hr : vx_Run p l e R s m args below meth c H locs cells slots mc ms (F0 m pc ls st0) rest (va_Qd post B A1 a) (vx_X px BX AX) free) (hS : va_S A0 H0 H locs) (hA : ∀ q, q < H.size → A1 q → A0 q) (hf : ∀ q, free q → A0 q) (hAX : ∀ q, q < H.size → AX q → A0 q)
    (kx : ∀ (E : String) (ce : Cell) (q9 : Addr) (u : SX) (t : State) (H1 : Heap) (locs1 : List Loc), t.heap = H1 → s.vm.Alike t.vm → px u → BX E u t → H.size ≤ H1.size → (∀ q : Nat, q < H.size → ¬ AX q → H1[q]? = H[q]?) → va_S A0 H0 H1 locs1 → H1[q9]? = some ce → ce.vm = .none → s.vm.findClass E = some ce.cls → vx_W p l e R s m args below meth c H1 locs1 (cells + mc) (slots + ms) Q (F0 m pc ls rest) q9)
    (kk : ∀ (r : UInt64) (u : S) (t : State) (H1 : Heap) (locs1 : List Loc), t.heap = H1 → s.vm.Alike t.vm → post r u → B u t → H.size ≤ H1.size → (∀ q : Nat, q < H.size → ¬ A1 q → H1[q]? = H[q]?) → va_S A0 H0 H1 locs1 → W p l e R s m args below meth c H1 locs1 (cells + mc) (slots + ms) Q (F0 m (pc + 3) ls (.double r :: rest))) : W p l e R s m args below meth c H locs cells slots Q (F0 m pc ls st0) := by
  intro T hT X
  rcases hr T hT X with ⟨v, st₀, t, T', L, h0, X', hL, e1, e2, ⟨⟨r, u, hv, hp, hb⟩, hF⟩, st⟩ | ⟨q, st₀, t, T', L, E, ce, h0, X', hL, e1, e2, ⟨u, hp, hb, hF⟩, hce, hcv, hcl, st⟩
  · cases hv
    obtain ⟨k1, k2, k3⟩ := vx_keep h0 e1 hS hA hf hL hF
    obtain ⟨t2, a1, b1⟩ := kk r u t T'.heap (locs ++ L) e1.symm (by rw [← e2]; exact X'.warmed.alike) hp hb k1 k2 k3 T' rfl X'
    exact ⟨t2, st t2 a1, b1⟩
  · obtain ⟨k1, k2, k3⟩ := vx_keep h0 e1 hS hAX hf hL hF
    obtain ⟨t2, a1, b1⟩ := kx E ce q u t T'.heap (locs ++ L) e1.symm (by rw [← e2]; exact X'.warmed.alike) hp hb k1 k2 k3 (by rw [e1]; exact hce) hcv hcl T' rfl X'
    exact ⟨t2, st.trans a1, b1⟩
theorem vx_callv {S SX : Type} {post : S → Prop} {px : SX → Prop} {B : S → State → Prop} {BX : String → SX → State → Prop} {AX : Nat → Prop} (hr : vx_Run p l e R s m args below meth c H locs cells slots mc ms (F0 m pc ls st0) rest (va_Qv post B A1 a) (vx_X px BX AX) free) (hS : va_S A0 H0 H locs) (hA : ∀ q, q < H.size → A1 q → A0 q) (hf : ∀ q, free q → A0 q) (hAX : ∀ q, q < H.size → AX q → A0 q)
    (kx : ∀ (E : String) (ce : Cell) (q9 : Addr) (u : SX) (t : State) (H1 : Heap) (locs1 : List Loc), t.heap = H1 → s.vm.Alike t.vm → px u → BX E u t → H.size ≤ H1.size → (∀ q : Nat, q < H.size → ¬ AX q → H1[q]? = H[q]?) → va_S A0 H0 H1 locs1 → H1[q9]? = some ce → ce.vm = .none → s.vm.findClass E = some ce.cls → vx_W p l e R s m args below meth c H1 locs1 (cells + mc) (slots + ms) Q (F0 m pc ls rest) q9)
    (kk : ∀ (u : S) (t : State) (H1 : Heap) (locs1 : List Loc), t.heap = H1 → s.vm.Alike t.vm → post u → B u t → H.size ≤ H1.size → (∀ q : Nat, q < H.size → ¬ A1 q → H1[q]? = H[q]?) → va_S A0 H0 H1 locs1 → W p l e R s m args below meth c H1 locs1 (cells + mc) (slots + ms) Q (F0 m (pc + 3) ls (rest))) : W p l e R s m args below meth c H locs cells slots Q (F0 m pc ls st0) := by
  intro T hT X
  rcases hr T hT X with ⟨v, st₀, t, T', L, h0, X', hL, e1, e2, ⟨⟨u, hv, hp, hb⟩, hF⟩, st⟩ | ⟨q, st₀, t, T', L, E, ce, h0, X', hL, e1, e2, ⟨u, hp, hb, hF⟩, hce, hcv, hcl, st⟩
  · cases hv
    obtain ⟨k1, k2, k3⟩ := vx_keep h0 e1 hS hA hf hL hF
    obtain ⟨t2, a1, b1⟩ := kk u t T'.heap (locs ++ L) e1.symm (by rw [← e2]; exact X'.warmed.alike) hp hb k1 k2 k3 T' rfl X'
    exact ⟨t2, st t2 a1, b1⟩
  · obtain ⟨k1, k2, k3⟩ := vx_keep h0 e1 hS hAX hf hL hF
    obtain ⟨t2, a1, b1⟩ := kx E ce q u t T'.heap (locs ++ L) e1.symm (by rw [← e2]; exact X'.warmed.alike) hp hb k1 k2 k3 (by rw [e1]; exact hce) hcv hcl T' rfl X'
    exact ⟨t2, st.trans a1, b1⟩
/-- caught by the row x of this method's table; the rows ahead don't take it -/
theorem vx_catch {own name : String} {E : String} {ce : Cell} {q : Addr} (hown : s.vm.findClass own = some m.cls) (pre : List ExceptionTableEntry) (x : ExceptionTableEntry) (suf : List ExceptionTableEntry) (hsplit : c.exceptionTable.toList = pre ++ x :: suf)
    (hpass : ∀ z ∈ pre, covers z pc = false ∨ (z.catchType ≠ 0 ∧ ∃ nm : String, (Cond.classLink own z.catchType nm).before args s = true ∧ va_Nc E nm s)) (hx : covers x pc = true) (h0 : x.catchType ≠ 0)
    (hlink : (Cond.classLink own x.catchType name).before args s = true) (hcast : (Cond.castable E name).before args s = true) (hcell : H[q]? = some ce) (hv : ce.vm = .none) (hcl : s.vm.findClass E = some ce.cls)
    (kk : W p l e R s m args below meth c H locs cells slots Q (F0 m x.handlerPc ls [.ref q])) : vx_W p l e R s m args below meth c H locs cells slots Q (F0 m pc ls rest) q := by
  intro T hT X
  have hpl : e.platform.magicAccessors = ({} : Platform).magicAccessors := by rw [X.admits.platform]
  obtain ⟨c3, c4, hc3, hc4, hasg⟩ := Cond.castable_spec hcast
  cases Option.some.inj (hc3.symm.trans hcl)
  obtain ⟨c5, hc5, hcl5⟩ := Cond.classLink_spec hown hlink e.platform hpl
  cases Option.some.inj (hc4.symm.trans hc5)
  obtain ⟨vm', X', st⟩ := X.thenCaughtThrough q (g := F0 m pc ls rest) rfl (Steps.refl _) (by rw [hT]; exact hcell) (by rw [hv]; rfl) (by obtain ⟨k9, h9, -⟩ := Vm.findClass_spec hcl; exact ⟨k9, h9⟩) pre x suf hsplit
    (fun z hz => by
      rcases hpass z hz with h | ⟨hz0, nm, hl1, hn1⟩
      · exact Or.inl h
      · obtain ⟨c6, hc6, hcl6⟩ := Cond.classLink_spec hown hl1 e.platform hpl
        obtain ⟨a8, b8, h1, h2, h3⟩ := hn1
        cases Option.some.inj (h1.symm.trans hcl)
        cases Option.some.inj (h2.symm.trans hc6)
        exact Or.inr ⟨hz0, _, hcl6, h3⟩) hx (Or.inr ⟨h0, c4, hcl5, hasg⟩)
  obtain ⟨t, a1, b1⟩ := kk (T.setVm vm') hT X'
  exact ⟨t, st.trans a1, b1⟩
end Rows
section Ends
variable {p : Program} {l : Launch} {e : Env} {R : Room} {s : State} {m : MethodId} {args : Array Value} {below : List Frame} {meth : Method} {c : Code} {H : Heap} {locs : List Loc} {cells slots : Nat} {Q : State → Prop}
variable {mc ms : Nat} {free : Addr → Prop} {A0 A1 : Nat → Prop} {H0 : Heap} {a : Array Value} {ls : Array Slot} {st0 rest : List Value}
variable {Qc : Array Value → State → Outcome → State → Prop} {XC : String → State → State → Prop}
/-- what a body that may throw owes at its end -/
def vx_MQ (below : List Frame) (Qc : Array Value → State → Outcome → State → Prop) (XC : String → State → State → Prop) (a : Array Value) (s : State) (mc ms : Nat) (free : Addr → Prop) : State → Prop := fun t =>
  ∃ o, t.status = .running ∧ Ended t below o ∧ vx_Q Qc XC mc ms free a s o t
theorem vx_ret {g : JFrame} {mc ms : Nat} (k : W p l e R s m args below meth c H locs cells slots (MQ below Qc args s mc ms free) g) : W p l e R s m args below meth c H locs cells slots (vx_MQ below Qc XC args s mc ms free) g := by
  intro T hT X
  obtain ⟨t, a1, o, b1, b2, b3, b4⟩ := k T hT X
  exact ⟨t, a1, o, b1, b2, Or.inl ⟨b3, b4⟩⟩
/-- not caught here: it goes on to the caller -/
theorem vx_widen {g : JFrame} {q : Addr} {k n : Nat} (h1 : cells ≤ k) (h2 : slots ≤ n) (kk : vx_W p l e R s m args below meth c H locs k n Q g q) : vx_W p l e R s m args below meth c H locs cells slots Q g q := fun T hT X => kk T hT (stand_widen X h1 h2)
theorem vx_out {pc : Nat} {E : String} {ce : Cell} {q : Addr} {mc ms : Nat} (hout : ∀ x ∈ c.exceptionTable.toList, covers x pc = false) (hlocks : meth.locks = false) (hcell : H[q]? = some ce) (hv : ce.vm = .none) (hcl : s.vm.findClass E = some ce.cls)
    (hx : ∀ t : State, t.heap = H → s.vm.Alike t.vm → XC E s t) (hf : ∀ z ∈ locs, free z.base) (hc : cells ≤ mc) (hs : slots ≤ ms) :
    vx_W p l e R s m args below meth c H locs cells slots (vx_MQ below Qc XC args s mc ms free) (F0 m pc ls rest) q := by
  intro T hT X
  obtain ⟨st1, hrun, hend, hW, hsm⟩ := X.leaveThrown q (g := F0 m pc ls rest) rfl rfl rfl hout hlocks
  have hcell9 : (T.setFrames (.throwing q :: below)).heap[q]? = some ce := by
    show T.heap[q]? = some ce
    rw [hT]; exact hcell
  exact ⟨_, st1, .threw q, hrun, hend, Or.inr ⟨q, rfl, E, ce, locs, hx _ hT hW.alike, hcell9, hv, hcl, hW, hsm.mono hc hs, hf⟩⟩
theorem vx_frame {U : State} {k n : Nat} (h : s.sameButNew ({ U with vm := s.vm } : State) locs k n) : s.heap.size ≤ U.heap.size ∧ ∀ q : Nat, q < s.heap.size → (∀ z ∈ locs, z.base ≠ q) → U.heap[q]? = s.heap[q]? := by
  obtain ⟨-, h2, -, -, -, h6⟩ := h
  refine ⟨h2, fun q hq hz => ?_⟩
  obtain ⟨c9, e1, e2, e3, e4⟩ := h6 q _ (Array.getElem?_eq_getElem hq)
  have hs : c9.slots = (s.heap[q]).slots := Array.ext_getElem? fun i => e4 i fun hm => hz _ hm rfl
  have h9 : c9 = s.heap[q] := by
    rw [hs] at e2
    exact e2
  have e5 : U.heap[q]? = some c9 := e1
  rw [e5, h9, Array.getElem?_eq_getElem hq]
/-- the words of a throw but the four that speak of the heap -/
def vx_no (w : Cond) : Bool := decide (w ≠ .isRef (.static Bundle.tN "UNASSIGNED_STACK" Bundle.steD)) && decide (w ≠ .isRef (.static Bundle.tN "SUPPRESSED_SENTINEL" Bundle.listD)) && decide (w ≠ .laysStatic Bundle.tN "UNASSIGNED_STACK" Bundle.steD) && decide (w ≠ .laysStatic Bundle.tN "SUPPRESSED_SENTINEL" Bundle.listD)
def vx_at0 (own : String) (ic : Nat) (X : String) (names : List String) : List Cond := (Bundle.ownAtoms0 own ic X names).filter vx_no
def vx_atS (own : String) (ic : Nat) (X : String) (names : List String) : List Cond := (Bundle.ownAtoms own ic X names).filter vx_no
/-- a word that the tables alone decide, or a good one -/
def vx_ot (w : Cond) : Bool := w.onTables || goodWord w
theorem vx_ot_at {args a' : Array Value} {s U : State} {w : Cond} (hW : s.WarmedH U.vm) (hvm : s.vm = U.vm) (hg : vx_ot w = true) (h : w.before args s = true) : w.before a' U = true := by
  simp only [vx_ot, Bool.or_eq_true] at hg
  rcases hg with hg | hg
  · exact va_tabs hg hvm h
  · exact word_at hW (good_of_word hg) h
/-- a list's words: the good ones out of the method's own list, the others by premises of their own -/
theorem vx_hat {args : Array Value} {s : State} {L B : List Cond} (h1 : ∀ w ∈ L.filter goodWord, w.before args s = true) (h2 : ∀ w ∈ L.filter (fun w => !goodWord w), w ∈ B) (h3 : ∀ w ∈ B, w.before args s = true) : ∀ w ∈ L, w.before args s = true := by
  intro w hw
  by_cases g : goodWord w = true
  · exact h1 w (List.mem_filter.mpr ⟨hw, g⟩)
  · refine h3 w (h2 w (List.mem_filter.mpr ⟨hw, ?_⟩))
    show (!goodWord w) = true
    cases hgw : goodWord w
    · rfl
    · exact absurd hgw g
theorem vx_c {args : Array Value} {s : State} {w : Cond} {B : List Cond} (h : w.before args s = true) (t : ∀ w ∈ B, w.before args s = true) : ∀ w' ∈ w :: B, w'.before args s = true := fun w' h' => (List.mem_cons.mp h').elim (fun e => by rw [e]; exact h) (t w')
theorem vx_n {args : Array Value} {s : State} : ∀ w ∈ ([] : List Cond), w.before args s = true := fun _ h => nomatch h
theorem vx_own {args : Array Value} {s : State} {L : List Cond} (h1 : ∀ w ∈ L.filter vx_no, w.before args s = true)
    (hU : (Cond.isRef (.static Bundle.tN "UNASSIGNED_STACK" Bundle.steD)).before args s = true) (hN : (Cond.isRef (.static Bundle.tN "SUPPRESSED_SENTINEL" Bundle.listD)).before args s = true)
    (lU : (Cond.laysStatic Bundle.tN "UNASSIGNED_STACK" Bundle.steD).before args s = true) (lN : (Cond.laysStatic Bundle.tN "SUPPRESSED_SENTINEL" Bundle.listD).before args s = true) : ∀ w ∈ L, w.before args s = true := by
  intro w hw
  by_cases e1 : w = .isRef (.static Bundle.tN "UNASSIGNED_STACK" Bundle.steD)
  · rw [e1]; exact hU
  · by_cases e2 : w = .isRef (.static Bundle.tN "SUPPRESSED_SENTINEL" Bundle.listD)
    · rw [e2]; exact hN
    · by_cases e3 : w = .laysStatic Bundle.tN "UNASSIGNED_STACK" Bundle.steD
      · rw [e3]; exact lU
      · by_cases e4 : w = .laysStatic Bundle.tN "SUPPRESSED_SENTINEL" Bundle.listD
        · rw [e4]; exact lN
        · exact h1 w (List.mem_filter.mpr ⟨hw, by unfold vx_no; rw [decide_eq_true e1, decide_eq_true e2, decide_eq_true e3, decide_eq_true e4]; rfl⟩)
/-- where a static field lies, its class's statics cell in H -/
def vx_L (C n d : String) (A : Nat → Prop) (U : State) (H : Heap) : Prop := ∃ (c : ClassId) (k : Class) (i : Nat) (f : Field) (a : Nat) (cell : Cell), U.vm.findClass C = some c ∧ U.fieldFound? C n d = some (c, k, i, f) ∧ f.isStatic = true ∧ k.statics = some a ∧ H[a]? = some cell ∧ cell.vm.isStatics = true ∧ cell.cls = c ∧ f.slot < cell.slots.size ∧ k.staticTypes[f.slot]? = some f.type ∧ ¬ A a
theorem vx_L.moved {C n d : String} {A : Nat → Prop} {u U : State} {H : Heap} (hvm : u.vm.Alike U.vm) (h : vx_L C n d A u H) : vx_L C n d A U H := by
  obtain ⟨c, k, i, f, a, cell, h1, h2, h3, h4, h5, h6, h7, h8, h9, h10⟩ := h
  obtain ⟨k', hi', he⟩ := State.fieldFound?_setVm hvm h2
  exact ⟨c, k', i, f, a, cell, by rw [hvm.findClass]; exact h1, hi', h3, by rw [he]; exact h4, h5, h6, h7, h8, by rw [he]; exact h9, h10⟩
theorem vx_L.kept {C n d : String} {A : Nat → Prop} {U : State} {H H1 : Heap} (h : vx_L C n d A U H) (hq : ∀ a : Nat, a < H.size → ¬ A a → H1[a]? = H[a]?) : vx_L C n d A U H1 := by
  obtain ⟨c, k, i, f, a, cell, h1, h2, h3, h4, h5, h6, h7, h8, h9, h10⟩ := h
  exact ⟨c, k, i, f, a, cell, h1, h2, h3, h4, by rw [hq a (Array.getElem?_eq_some_iff.mp h5).1 h10]; exact h5, h6, h7, h8, h9, h10⟩
theorem vx_L.narrow {C n d : String} {A B : Nat → Prop} {U : State} {H : Heap} (h : vx_L C n d A U H) (hAB : ∀ q, B q → A q) : vx_L C n d B U H := by
  obtain ⟨c, k, i, f, a, cell, h1, h2, h3, h4, h5, h6, h7, h8, h9, h10⟩ := h
  exact ⟨c, k, i, f, a, cell, h1, h2, h3, h4, h5, h6, h7, h8, h9, fun z => h10 (hAB _ z)⟩
theorem vx_L.word {C n d : String} {A : Nat → Prop} {s : State} {args : Array Value} (h : vx_L C n d A s s.heap) : (Cond.laysStatic C n d).before args s = true := by
  obtain ⟨c, k, i, f, a, cell, h1, h2, h3, h4, h5, h6, h7, h8, h9, -⟩ := h
  show (Cond.laysStatic C n d).holds args s none s [] = true
  exact Cond.laysStatic_of h1 h2 h3 h4 h5 h6 h7 h8 h9
/-- .. and what it holds: null or some reference -/
def vx_Zq (C n d : String) (A : Nat → Prop) (U : State) (H : Heap) : Prop := va_Zq C n d A U H ∧ vx_L C n d A U H
theorem vx_Zq.moved {C n d : String} {A : Nat → Prop} {u U : State} {H : Heap} (hvm : u.vm.Alike U.vm) (h : vx_Zq C n d A u H) : vx_Zq C n d A U H := ⟨va_Zq.moved hvm h.1, vx_L.moved hvm h.2⟩
theorem vx_Zq.kept {C n d : String} {A : Nat → Prop} {U : State} {H H1 : Heap} (h : vx_Zq C n d A U H) (hq : ∀ a : Nat, a < H.size → ¬ A a → H1[a]? = H[a]?) : vx_Zq C n d A U H1 := ⟨va_Zq.kept h.1 hq, vx_L.kept h.2 hq⟩
theorem vx_Zq.narrow {C n d : String} {A B : Nat → Prop} {U : State} {H : Heap} (h : vx_Zq C n d A U H) (hAB : ∀ q, B q → A q) : vx_Zq C n d B U H := ⟨va_Zq.narrow h.1 hAB, vx_L.narrow h.2 hAB⟩
theorem vx_Zqof {args : Array Value} {s : State} {C n d : String} {A : Nat → Prop} (hl : (Cond.laysStatic C n d).before args s = true) (hini : (Cond.initialized C).before args s = true) (h : (Cond.isRef (.static C n d)).before args s = true) (hA : ∀ a : Nat, a < s.heap.size → ¬ A a) : vx_Zq C n d A s s.heap := by
  refine ⟨va_Zqof hl hini h hA, ?_⟩
  obtain ⟨c, k, i, f, a, cell, h1, h2, h3, h4, h5, h6, h7, h8, h9⟩ := Cond.laysStatic_spec hl
  exact ⟨c, k, i, f, a, cell, h1, h2, h3, h4, h5, h6, h7, h8, h9, hA a (Array.getElem?_eq_some_iff.mp h5).1⟩
theorem vx_isRef {C n d : String} {v : Value} {A : Nat → Prop} {s : State} {args : Array Value} (h : va_Z C n d v A s s.heap) (hv : v.isRef = true) : (Cond.isRef (.static C n d)).before args s = true := by
  obtain ⟨cf, kf, fi, f, a, cell, h1, h2, h3, h4, h5, h6, h7, -⟩ := h
  have he : (Term.static C n d).eval args s none [] s = some v := by
    simp [Term.eval, State.fieldNamed?, h1, h2, h4, h5, h6, h7]
  simp only [Cond.before, Cond.holds, Cond.value, he]
  cases v <;> simp_all [Value.isRef]
theorem vx_isRefq {C n d : String} {A : Nat → Prop} {s : State} {args : Array Value} (h : va_Zq C n d A s s.heap) : (Cond.isRef (.static C n d)).before args s = true := by
  rcases h with h | ⟨t, h⟩
  · exact vx_isRef h rfl
  · exact vx_isRef h rfl
/-- the same frame, seen from here: as if the method were called anew in this heap -/
theorem vx_rebase {T : State} (X : Stand p l e R s m args below meth c T locs cells slots) {R' : Room} (hf : R'.frames ≤ R.frames) (hl : R'.locals ≤ R.locals) (hc : cells + R'.cells ≤ R.cells) (hs : slots + R'.slots ≤ R.slots) :
    Stand p l e R' ((T.setVm s.vm).setFrames (.invoking m args :: below)) m args below meth c T [] 0 0 := by
  have htop : (T.setVm s.vm).topJava?.isSome := X.here.top
  have hF : ((T.setVm s.vm).setFrames (.invoking m args :: below)).frames = .invoking m args :: below := State.frames_setFrames _ (State.cur_lt_of_top htop)
  obtain ⟨g₀, hg0⟩ := Option.isSome_iff_exists.mp htop
  obtain ⟨r, hr⟩ := State.topJava?_eq_some.mp hg0
  have hl9 : e.platform.stackLimits (T.setVm s.vm).me = e.platform.stackLimits s.me := X.limits
  have hb9 : (T.setVm s.vm).me.stackBytes = s.me.stackBytes := X.bytes
  refine ⟨X.admits, X.cas, X.clock, hF, ?_, X.hears, X.method, X.code, X.here, X.tail, X.warmed, ?_, ?_, ?_⟩
  · have h := X.room
    have hU : ((T.setVm s.vm).setFrames (.invoking m args :: below)).localsInUse = s.localsInUse := by
      rw [State.localsInUse_invoking hF (meth := meth) (c := c) X.method X.code, State.localsInUse_invoking X.frames X.method X.code]
    simp only [State.hasRoom, Bool.and_eq_true, decide_eq_true_eq] at h ⊢
    obtain ⟨⟨⟨⟨h1, h2, h3, h4, h5, h6⟩, h7⟩, h8⟩, h9⟩ := h
    rw [X.frames, List.length_cons] at h2 h3
    have q1 := X.heapSize
    have q2 := X.used
    simp only [hF, hU, List.length_cons, State.stackLimits_setFrames, State.stackBytes_setFrames, hl9, hb9]
    refine ⟨⟨⟨⟨by omega, by omega, by omega, by omega, by omega, h6⟩, ?_⟩, ?_⟩, X.book⟩
    · show T.heap.size + R'.cells ≤ e.platform.maxCells
      omega
    · show T.slotsUsed + R'.slots ≤ e.platform.maxSlots
      omega
  · rw [State.stackLimits_setFrames]; rfl
  · rw [State.stackBytes_setFrames]; rfl
  · refine ⟨?_, Nat.le_refl _, Nat.le_refl _, ?_, ?_, fun a c9 h9 => ⟨c9, h9, rfl, rfl, fun _ _ => rfl⟩⟩
    · obtain ⟨t, ht, -⟩ := State.frames_cons hr
      show T.setVm s.vm = { ((T.setVm s.vm).setFrames (.invoking m args :: below)).setFrames (T.setVm s.vm).frames with heap := T.heap, slotsUsed := T.slotsUsed }
      rw [State.setFrames_setFrames, State.setFrames_self ht]
      rfl
    · show T.slotsUsed = T.slotsUsed + ((T.heap.toList.drop T.heap.size).map (·.slots.size)).sum
      rw [List.drop_eq_nil_of_le (Nat.le_of_eq Array.length_toList)]
      rfl
    · show ((T.heap.toList.drop T.heap.size).map (·.slots.size)).sum ≤ 0
      rw [List.drop_eq_nil_of_le (Nat.le_of_eq Array.length_toList)]
      exact Nat.le_refl _
/-- 'throw new E()': new; dup; invokespecial; athrow -/
theorem vx_throw0 {cc : ByteArray} {pc : Nat} (hexec : p.tables.exec = Jvm.exec) (hb : c.code = cc) (hl : l.stackTraces = false) {own cls : String} {names : List String} {ik ic mc ms : Nat} {A : Nat → Prop}
    (hown : s.vm.findClass own = some m.cls) (hcls : Bundle.fit cls = true) (hnames : ∀ n ∈ names, Bundle.fit n = true)
    (hk : (Cond.classLink own ik cls).before args s = true) (hini : (Cond.initialized cls).before args s = true) (hat : ∀ w ∈ vx_at0 own ic cls names, w.before args s = true)
    (hgood : ∀ w ∈ Cond.classLink own ik cls :: Cond.initialized cls :: vx_at0 own ic cls names, vx_ot w = true)
    (hU : vx_Zq Bundle.tN "UNASSIGNED_STACK" Bundle.steD A s s.heap) (hN : vx_Zq Bundle.tN "SUPPRESSED_SENTINEL" Bundle.listD A s s.heap) (hS : va_S A s.heap H locs) (hsize : ls.size = c.maxLocals)
    (d0 : decode cc pc = .ok (.new ik, 3)) (d3 : decode cc (pc + 3) = .ok (.dup, 1)) (d4 : decode cc (pc + 4) = .ok (.invokespecial ic, 3)) (d7 : decode cc (pc + 7) = .ok (.athrow, 1))
    (hout : ∀ x ∈ c.exceptionTable.toList, covers x (pc + 7) = false)
    (hRframes : names.length + 3 < R.frames) (hRlocals : (rest.map fun v => v.category).sum + (13 * (names.length + 1) + 42) ≤ R.locals) (hRcells : cells + 1 ≤ R.cells) (hRslots : slots + 6 ≤ R.slots) (hlocks : meth.locks = false)
    (hx : ∀ t : State, s.vm.Alike t.vm → H.size ≤ t.heap.size → (∀ q : Nat, q < H.size → t.heap[q]? = H[q]?) → XC cls s t)
    (hf : ∀ z ∈ locs, free z.base) (hc : cells + 1 ≤ mc) (hs : slots + 6 ≤ ms) :
    W p l e R s m args below meth c H locs cells slots (vx_MQ below Qc XC args s mc ms free) (F0 m pc ls rest) := by
  intro T hT X
  have htr : e.platform.stackTraces = false := (show e.platform.stackTraces = l.stackTraces by rw [X.admits.platform]).trans hl
  have Y := vx_rebase X (R' := { frames := R.frames, locals := R.locals, cells := 1, slots := 6 }) (Nat.le_refl _) (Nat.le_refl _) hRcells hRslots
  obtain ⟨s', hA⟩ : ∃ z, z = (T.setVm s.vm).setFrames (.invoking m args :: below) := ⟨_, rfl⟩
  rw [← hA] at Y
  have hvm : s'.vm = s.vm := by rw [hA]; rfl
  have hhp : s'.heap = H := by rw [hA]; exact hT
  have hW0 : s.WarmedH s'.vm := by rw [hvm]; exact State.WarmedH.refl s
  have hat' : ∀ w ∈ vx_at0 own ic cls names, w.before args s' = true := fun w hw => vx_ot_at hW0 hvm.symm (hgood w (List.mem_cons_of_mem _ (List.mem_cons_of_mem _ hw))) (hat w hw)
  have hk' : (Cond.classLink own ik cls).before args s' = true := vx_ot_at hW0 hvm.symm (hgood _ List.mem_cons_self) hk
  have hini' : (Cond.initialized cls).before args s' = true := vx_ot_at hW0 hvm.symm (hgood _ (List.mem_cons_of_mem _ List.mem_cons_self)) hini
  have hU' : vx_Zq Bundle.tN "UNASSIGNED_STACK" Bundle.steD A s' s'.heap := by rw [hhp]; exact vx_Zq.moved hW0.alike (hU.kept hS.2.1)
  have hN' : vx_Zq Bundle.tN "SUPPRESSED_SENTINEL" Bundle.listD A s' s'.heap := by rw [hhp]; exact vx_Zq.moved hW0.alike (hN.kept hS.2.1)
  have h : ∀ w ∈ Bundle.ownAtoms0 own ic cls names, w.before args s' = true := vx_own hat' (vx_isRefq hU'.1) (vx_isRefq hN'.1) hU'.2.word hN'.2.word
  have hown' : s'.vm.findClass own = some m.cls := by rw [hvm]; exact hown
  have hins : (Cond.instantiable cls 6).before args s' = true := h _ (by simp [Bundle.ownAtoms0])
  obtain ⟨vm₁, cX, kX, hfX, hkX, -, -, X₁, st1⟩ := Y.newCold hexec (own := own) (C := cls) (index := ik) (n := 6) hown' hk' hins hini'
    (g := F0 m pc ls rest) rfl (by rw [hb]; exact d0) (Nat.le_refl _) (Nat.le_refl _)
  generalize hT1 : (T.setVm vm₁).pushCell { cls := cX, slots := kX.instanceTypes.map defaultValue, vm := .none } = T1 at X₁ st1
  have hcat : (Value.ref T.heap.size).category = 1 := rfl
  have hcellA : T1.heap[T.heap.size]? = some (freshCell cX kX) := by rw [← hT1]; exact State.heap_pushCell_size _ _
  have d3' : decode c.code (pc + 3) = .ok (.dup, 1) := by rw [hb]; exact d3
  obtain ⟨U, hsteps, hrun, hend, hW, hsame, ce, hce, hO⟩ := X₁.ctorThrow0 hexec htr (own := own) (cls := cls) (names := names) (ic := ic) hown' hcls hnames h (fun x hx => nomatch hx) hfX hkX hcellA (by rw [hhp, hT]; exact Nat.le_refl _)
    (g := { method := m, pc := pc + 4, locals := ls, stack := .ref T.heap.size :: .ref T.heap.size :: rest, locked := none }) rfl hsize rfl rfl (rest := rest) rfl
    (by rw [hb]; exact d4) (by rw [hb]; exact d7) hout hRframes (by simp only [List.map_cons, List.sum_cons, hcat]; omega) hlocks
  obtain ⟨f1, f2⟩ := vx_frame hsame
  rw [hhp] at f1 f2
  have hWs : s.WarmedH U.vm := State.WarmedH.trans hW0 hW
  have hcl : s.vm.findClass cls = some ce.cls := by
    have h9 := hO.cls
    rw [hvm] at h9
    exact h9
  have hall : s.sameButNew ({ U with vm := s.vm } : State) locs mc ms := by
    subst hA
    obtain ⟨e1, e2⟩ := hsame
    rw [State.setFrames_setFrames] at e1
    have h2 : (T.setVm s.vm).sameButNew ({ U with vm := s.vm } : State) [] (0 + 1) (0 + 6) := ⟨e1, e2⟩
    have h3 := X.same.trans h2
    rw [List.append_nil] at h3
    exact h3.mono hc hs
  refine ⟨U, ?_, .threw T.heap.size, hrun, hend, Or.inr ⟨T.heap.size, rfl, cls, ce, locs, hx U hWs.alike f1 (fun q hq => f2 q hq (fun z hz => nomatch hz)), hce, hO.vm, hcl, hWs, hall, hf⟩⟩
  refine st1 _ ?_
  show Steps p.tables e below (T1.setTop { method := m, pc := pc + 3, locals := ls, stack := .ref T.heap.size :: rest, locked := none }) _
  jvm_step X₁.here [X₁.here.top, hexec, d3', Value.category]
  exact hsteps
/-- 'throw new E("text")': new; dup; ldc; invokespecial; athrow -/
theorem vx_throwS {cc : ByteArray} {pc : Nat} (hexec : p.tables.exec = Jvm.exec) (hb : c.code = cc) (hl : l.stackTraces = false) {own cls text : String} {names : List String} {ik is ic mc ms sa : Nat} {A : Nat → Prop}
    (hown : s.vm.findClass own = some m.cls) (hcls : Bundle.fit cls = true) (hnames : ∀ n ∈ names, Bundle.fit n = true)
    (hk : (Cond.classLink own ik cls).before args s = true) (hini : (Cond.initialized cls).before args s = true) (hstr : vk_R own is text sa s) (hat : ∀ w ∈ vx_atS own ic cls names, w.before args s = true)
    (hgood : ∀ w ∈ Cond.classLink own ik cls :: Cond.initialized cls :: vx_atS own ic cls names, vx_ot w = true)
    (hU : vx_Zq Bundle.tN "UNASSIGNED_STACK" Bundle.steD A s s.heap) (hN : vx_Zq Bundle.tN "SUPPRESSED_SENTINEL" Bundle.listD A s s.heap) (hS : va_S A s.heap H locs) (hsize : ls.size = c.maxLocals)
    (d0 : decode cc pc = .ok (.new ik, 3)) (d3 : decode cc (pc + 3) = .ok (.dup, 1)) (d4 : decode cc (pc + 4) = .ok (.ldc is, 2)) (d6 : decode cc (pc + 6) = .ok (.invokespecial ic, 3)) (d9 : decode cc (pc + 9) = .ok (.athrow, 1))
    (hout : ∀ x ∈ c.exceptionTable.toList, covers x (pc + 9) = false)
    (hRframes : names.length + 3 < R.frames) (hRlocals : (rest.map fun v => v.category).sum + (13 * (names.length + 1) + 43) ≤ R.locals) (hRcells : cells + 1 ≤ R.cells) (hRslots : slots + 6 ≤ R.slots) (hlocks : meth.locks = false)
    (hx : ∀ t : State, s.vm.Alike t.vm → H.size ≤ t.heap.size → (∀ q : Nat, q < H.size → t.heap[q]? = H[q]?) → XC cls s t)
    (hf : ∀ z ∈ locs, free z.base) (hc : cells + 1 ≤ mc) (hs : slots + 6 ≤ ms) :
    W p l e R s m args below meth c H locs cells slots (vx_MQ below Qc XC args s mc ms free) (F0 m pc ls rest) := by
  intro T hT X
  have htr : e.platform.stackTraces = false := (show e.platform.stackTraces = l.stackTraces by rw [X.admits.platform]).trans hl
  have Y := vx_rebase X (R' := { frames := R.frames, locals := R.locals, cells := 1, slots := 6 }) (Nat.le_refl _) (Nat.le_refl _) hRcells hRslots
  obtain ⟨s', hA⟩ : ∃ z, z = (T.setVm s.vm).setFrames (.invoking m args :: below) := ⟨_, rfl⟩
  rw [← hA] at Y
  have hvm : s'.vm = s.vm := by rw [hA]; rfl
  have hhp : s'.heap = H := by rw [hA]; exact hT
  have hW0 : s.WarmedH s'.vm := by rw [hvm]; exact State.WarmedH.refl s
  have hat' : ∀ w ∈ vx_atS own ic cls names, w.before args s' = true := fun w hw => vx_ot_at hW0 hvm.symm (hgood w (List.mem_cons_of_mem _ (List.mem_cons_of_mem _ hw))) (hat w hw)
  have hk' : (Cond.classLink own ik cls).before args s' = true := vx_ot_at hW0 hvm.symm (hgood _ List.mem_cons_self) hk
  have hini' : (Cond.initialized cls).before args s' = true := vx_ot_at hW0 hvm.symm (hgood _ (List.mem_cons_of_mem _ List.mem_cons_self)) hini
  have hU' : vx_Zq Bundle.tN "UNASSIGNED_STACK" Bundle.steD A s' s'.heap := by rw [hhp]; exact vx_Zq.moved hW0.alike (hU.kept hS.2.1)
  have hN' : vx_Zq Bundle.tN "SUPPRESSED_SENTINEL" Bundle.listD A s' s'.heap := by rw [hhp]; exact vx_Zq.moved hW0.alike (hN.kept hS.2.1)
  have h : ∀ w ∈ Bundle.ownAtoms own ic cls names, w.before args s' = true := vx_own hat' (vx_isRefq hU'.1) (vx_isRefq hN'.1) hU'.2.word hN'.2.word
  have hown' : s'.vm.findClass own = some m.cls := by rw [hvm]; exact hown
  have hins : (Cond.instantiable cls 6).before args s' = true := h _ (by simp [Bundle.ownAtoms])
  obtain ⟨vm₁, cX, kX, hfX, hkX, -, -, X₁, st1⟩ := Y.newCold hexec (own := own) (C := cls) (index := ik) (n := 6) hown' hk' hins hini'
    (g := F0 m pc ls rest) rfl (by rw [hb]; exact d0) (Nat.le_refl _) (Nat.le_refl _)
  generalize hT1 : (T.setVm vm₁).pushCell { cls := cX, slots := kX.instanceTypes.map defaultValue, vm := .none } = T1 at X₁ st1
  have hcat : (Value.ref T.heap.size).category = 1 := rfl
  have hcellA : T1.heap[T.heap.size]? = some (freshCell cX kX) := by rw [← hT1]; exact State.heap_pushCell_size _ _
  have d3' : decode c.code (pc + 3) = .ok (.dup, 1) := by rw [hb]; exact d3
  have d4' : decode c.code (pc + 4) = .ok (.ldc is, 2) := by rw [hb]; exact d4
  have hstr' : vk_R own is text sa s' := vk_R.warm hW0 hstr
  obtain ⟨U, hsteps, hrun, hend, hW, hsame, ce, hce, hO⟩ := X₁.ctorThrowS hexec htr (own := own) (cls := cls) (names := names) (ic := ic) hown' hcls hnames h (fun x hx => nomatch hx) hfX hkX hcellA (by rw [hhp, hT]; exact Nat.le_refl _) (msg := .ref sa) rfl
    (g := { method := m, pc := pc + 6, locals := ls, stack := .ref sa :: .ref T.heap.size :: .ref T.heap.size :: rest, locked := none }) rfl hsize rfl rfl (rest := rest) rfl
    (by rw [hb]; exact d6) (by rw [hb]; exact d9) hout hRframes (by simp only [List.map_cons, List.sum_cons, hcat]; omega) hlocks
  obtain ⟨f1, f2⟩ := vx_frame hsame
  rw [hhp] at f1 f2
  have hWs : s.WarmedH U.vm := State.WarmedH.trans hW0 hW
  have hcl : s.vm.findClass cls = some ce.cls := by
    have h9 := hO.cls
    rw [hvm] at h9
    exact h9
  have hall : s.sameButNew ({ U with vm := s.vm } : State) locs mc ms := by
    subst hA
    obtain ⟨e1, e2⟩ := hsame
    rw [State.setFrames_setFrames] at e1
    have h2 : (T.setVm s.vm).sameButNew ({ U with vm := s.vm } : State) [] (0 + 1) (0 + 6) := ⟨e1, e2⟩
    have h3 := X.same.trans h2
    rw [List.append_nil] at h3
    exact h3.mono hc hs
  refine ⟨U, ?_, .threw T.heap.size, hrun, hend, Or.inr ⟨T.heap.size, rfl, cls, ce, locs, hx U hWs.alike f1 (fun q hq => f2 q hq (fun z hz => nomatch hz)), hce, hO.vm, hcl, hWs, hall, hf⟩⟩
  refine st1 _ ?_
  show Steps p.tables e below (T1.setTop { method := m, pc := pc + 3, locals := ls, stack := .ref T.heap.size :: rest, locked := none }) _
  jvm_step X₁.here [X₁.here.top, hexec, d3', Value.category]
  exact X₁.ldcString hexec (own := own) (text := text) (index := is) (a := sa) hown' hstr'.1 hstr'.2
    (g := { method := m, pc := pc + 4, locals := ls, stack := .ref T.heap.size :: .ref T.heap.size :: rest, locked := none }) rfl d4' _ hsteps
/-- 'throw new E("text")', the text by a wide index -/
theorem vx_throwSW {cc : ByteArray} {pc : Nat} (hexec : p.tables.exec = Jvm.exec) (hb : c.code = cc) (hl : l.stackTraces = false) {own cls text : String} {names : List String} {ik is ic mc ms sa : Nat} {A : Nat → Prop}
    (hown : s.vm.findClass own = some m.cls) (hcls : Bundle.fit cls = true) (hnames : ∀ n ∈ names, Bundle.fit n = true)
    (hk : (Cond.classLink own ik cls).before args s = true) (hini : (Cond.initialized cls).before args s = true) (hstr : vk_R own is text sa s) (hat : ∀ w ∈ vx_atS own ic cls names, w.before args s = true)
    (hgood : ∀ w ∈ Cond.classLink own ik cls :: Cond.initialized cls :: vx_atS own ic cls names, vx_ot w = true)
    (hU : vx_Zq Bundle.tN "UNASSIGNED_STACK" Bundle.steD A s s.heap) (hN : vx_Zq Bundle.tN "SUPPRESSED_SENTINEL" Bundle.listD A s s.heap) (hS : va_S A s.heap H locs) (hsize : ls.size = c.maxLocals)
    (d0 : decode cc pc = .ok (.new ik, 3)) (d3 : decode cc (pc + 3) = .ok (.dup, 1)) (d4 : decode cc (pc + 4) = .ok (.ldc_w is, 3)) (d7 : decode cc (pc + 7) = .ok (.invokespecial ic, 3)) (d10 : decode cc (pc + 10) = .ok (.athrow, 1))
    (hout : ∀ x ∈ c.exceptionTable.toList, covers x (pc + 10) = false)
    (hRframes : names.length + 3 < R.frames) (hRlocals : (rest.map fun v => v.category).sum + (13 * (names.length + 1) + 43) ≤ R.locals) (hRcells : cells + 1 ≤ R.cells) (hRslots : slots + 6 ≤ R.slots) (hlocks : meth.locks = false)
    (hx : ∀ t : State, s.vm.Alike t.vm → H.size ≤ t.heap.size → (∀ q : Nat, q < H.size → t.heap[q]? = H[q]?) → XC cls s t)
    (hf : ∀ z ∈ locs, free z.base) (hc : cells + 1 ≤ mc) (hs : slots + 6 ≤ ms) :
    W p l e R s m args below meth c H locs cells slots (vx_MQ below Qc XC args s mc ms free) (F0 m pc ls rest) := by
  intro T hT X
  have htr : e.platform.stackTraces = false := (show e.platform.stackTraces = l.stackTraces by rw [X.admits.platform]).trans hl
  have Y := vx_rebase X (R' := { frames := R.frames, locals := R.locals, cells := 1, slots := 6 }) (Nat.le_refl _) (Nat.le_refl _) hRcells hRslots
  obtain ⟨s', hA⟩ : ∃ z, z = (T.setVm s.vm).setFrames (.invoking m args :: below) := ⟨_, rfl⟩
  rw [← hA] at Y
  have hvm : s'.vm = s.vm := by rw [hA]; rfl
  have hhp : s'.heap = H := by rw [hA]; exact hT
  have hW0 : s.WarmedH s'.vm := by rw [hvm]; exact State.WarmedH.refl s
  have hat' : ∀ w ∈ vx_atS own ic cls names, w.before args s' = true := fun w hw => vx_ot_at hW0 hvm.symm (hgood w (List.mem_cons_of_mem _ (List.mem_cons_of_mem _ hw))) (hat w hw)
  have hk' : (Cond.classLink own ik cls).before args s' = true := vx_ot_at hW0 hvm.symm (hgood _ List.mem_cons_self) hk
  have hini' : (Cond.initialized cls).before args s' = true := vx_ot_at hW0 hvm.symm (hgood _ (List.mem_cons_of_mem _ List.mem_cons_self)) hini
  have hU' : vx_Zq Bundle.tN "UNASSIGNED_STACK" Bundle.steD A s' s'.heap := by rw [hhp]; exact vx_Zq.moved hW0.alike (hU.kept hS.2.1)
  have hN' : vx_Zq Bundle.tN "SUPPRESSED_SENTINEL" Bundle.listD A s' s'.heap := by rw [hhp]; exact vx_Zq.moved hW0.alike (hN.kept hS.2.1)
  have h : ∀ w ∈ Bundle.ownAtoms own ic cls names, w.before args s' = true := vx_own hat' (vx_isRefq hU'.1) (vx_isRefq hN'.1) hU'.2.word hN'.2.word
  have hown' : s'.vm.findClass own = some m.cls := by rw [hvm]; exact hown
  have hins : (Cond.instantiable cls 6).before args s' = true := h _ (by simp [Bundle.ownAtoms])
  obtain ⟨vm₁, cX, kX, hfX, hkX, -, -, X₁, st1⟩ := Y.newCold hexec (own := own) (C := cls) (index := ik) (n := 6) hown' hk' hins hini'
    (g := F0 m pc ls rest) rfl (by rw [hb]; exact d0) (Nat.le_refl _) (Nat.le_refl _)
  generalize hT1 : (T.setVm vm₁).pushCell { cls := cX, slots := kX.instanceTypes.map defaultValue, vm := .none } = T1 at X₁ st1
  have hcat : (Value.ref T.heap.size).category = 1 := rfl
  have hcellA : T1.heap[T.heap.size]? = some (freshCell cX kX) := by rw [← hT1]; exact State.heap_pushCell_size _ _
  have d3' : decode c.code (pc + 3) = .ok (.dup, 1) := by rw [hb]; exact d3
  have d4' : decode c.code (pc + 4) = .ok (.ldc_w is, 3) := by rw [hb]; exact d4
  have hstr' : vk_R own is text sa s' := vk_R.warm hW0 hstr
  obtain ⟨U, hsteps, hrun, hend, hW, hsame, ce, hce, hO⟩ := X₁.ctorThrowS hexec htr (own := own) (cls := cls) (names := names) (ic := ic) hown' hcls hnames h (fun x hx => nomatch hx) hfX hkX hcellA (by rw [hhp, hT]; exact Nat.le_refl _) (msg := .ref sa) rfl
    (g := { method := m, pc := pc + 7, locals := ls, stack := .ref sa :: .ref T.heap.size :: .ref T.heap.size :: rest, locked := none }) rfl hsize rfl rfl (rest := rest) rfl
    (by rw [hb]; exact d7) (by rw [hb]; exact d10) hout hRframes (by simp only [List.map_cons, List.sum_cons, hcat]; omega) hlocks
  obtain ⟨f1, f2⟩ := vx_frame hsame
  rw [hhp] at f1 f2
  have hWs : s.WarmedH U.vm := State.WarmedH.trans hW0 hW
  have hcl : s.vm.findClass cls = some ce.cls := by
    have h9 := hO.cls
    rw [hvm] at h9
    exact h9
  have hall : s.sameButNew ({ U with vm := s.vm } : State) locs mc ms := by
    subst hA
    obtain ⟨e1, e2⟩ := hsame
    rw [State.setFrames_setFrames] at e1
    have h2 : (T.setVm s.vm).sameButNew ({ U with vm := s.vm } : State) [] (0 + 1) (0 + 6) := ⟨e1, e2⟩
    have h3 := X.same.trans h2
    rw [List.append_nil] at h3
    exact h3.mono hc hs
  refine ⟨U, ?_, .threw T.heap.size, hrun, hend, Or.inr ⟨T.heap.size, rfl, cls, ce, locs, hx U hWs.alike f1 (fun q hq => f2 q hq (fun z hz => nomatch hz)), hce, hO.vm, hcl, hWs, hall, hf⟩⟩
  refine st1 _ ?_
  show Steps p.tables e below (T1.setTop { method := m, pc := pc + 3, locals := ls, stack := .ref T.heap.size :: rest, locked := none }) _
  jvm_step X₁.here [X₁.here.top, hexec, d3', Value.category]
  exact X₁.ldcStringW hexec (own := own) (text := text) (index := is) (a := sa) hown' hstr'.1 hstr'.2
    (g := { method := m, pc := pc + 4, locals := ls, stack := .ref T.heap.size :: .ref T.heap.size :: rest, locked := none }) rfl d4' _ hsteps
end Ends
section Bodies
variable {l : Launch}
theorem vx_ofW {y : MethodName} {ws ws' : List Cond} {rm : Room} {Pc : Array Value → State → Prop} {Qc : Array Value → State → Outcome → State → Prop} {XC : String → State → State → Prop} {mc ms : Nat} {free : Addr → Prop} {cc : ByteArray} {maxL : Nat} {ret : Option FieldType}
    (hy : plainName y.cls = true) (hw : ws = Cond.code y cc maxL ret :: ws')
    (body : ∀ p e s m args below meth c s₁, BodyLoose p l y (headSpec ws rm) cc maxL ret e s m args below meth c s₁ → c.maxLocals = maxL → (∀ x ∈ c.exceptionTable.toList, False) → Pc args s →
      W p l e (headSpec ws rm).room s m args below meth c s.heap [] 0 0 (vx_MQ below Qc XC args s mc ms free) (entryFrame m args maxL)) : vx_Met l y ws rm Pc Qc XC mc ms free := by
  refine MetFree.of_bodyS (code := cc) (maxLocals := maxL) (ret := ret) hy ?_ ?_
  · intro args s m h hn
    obtain ⟨meth, c, h1, h2, h3, h4, h5, h6, -, -⟩ := Cond.code_spec hn (atoms_spec (ws := ws) h _ (by rw [hw]; exact List.mem_cons_self))
    exact ⟨meth, c, h1, h2, h3, h4, h5, h6⟩
  · intro p e s m args below meth c s₁ B hml hP _
    have hh0 : s₁.heap = s.heap := by rw [B.state]; rfl
    have ht : ∀ x ∈ c.exceptionTable.toList, False := by
      obtain ⟨meth9, c9, h1, h2, -, -, -, -, h7, -⟩ := Cond.code_spec B.named (atoms_spec (ws := ws) B.pre _ (by rw [hw]; exact List.mem_cons_self))
      cases Option.some.inj (h1.symm.trans B.method)
      cases Option.some.inj (h2.symm.trans (Stand.of_body B).code)
      intro x hx
      rw [Array.isEmpty_iff.mp h7] at hx
      cases hx
    obtain ⟨t, a1, o, b1, b2, b3⟩ := body p e s m args below meth c s₁ B hml ht hP s₁ hh0 (Stand.of_body B)
    exact ⟨t, o, a1, b1, b2, b3⟩
/-- the table of a body with handlers -/
theorem vx_table {p : Program} {x y : MethodName} {S : Spec} {cc bytes : ByteArray} {maxL maxL' : Nat} {ret ret' : Option FieldType} {e : Env} {s s₁ : State} {m : MethodId} {args : Array Value} {below : List Frame} {meth : Method} {c : Code} {hh : List (Nat × Nat × Nat × Nat)}
    (B : BodyLoose p l y S cc maxL ret e s m args below meth c s₁) (h : (Cond.codeWith y bytes maxL' ret' hh).before args s = true) : c.exceptionTable.toList = tableOf hh := by
  obtain ⟨m9, meth9, c9, hn9, h1, h2, -, -, h6, -⟩ := Cond.codeWith_spec h
  cases Option.some.inj (hn9.symm.trans B.named)
  cases Option.some.inj (h1.symm.trans B.method)
  cases Option.some.inj (h2.symm.trans (Stand.of_body B).code)
  rw [← h6, table_eq]
end Bodies
end VXA
/-! ===== END ===== -/
/-! ===== BEGIN a static call of a method with an exception table ===== -/
section VXS
variable {p : Program} {l : Launch} {e : Env} {R : Room} {s : State} {m : MethodId} {args : Array Value} {below : List Frame} {meth : Method} {c : Code} {T : State} {H : Heap} {locs : List Loc} {cells slots : Nat}
abbrev vx_CSW (R : Room) (s : State) (args : Array Value) (own : String) (index : Nat) (y : MethodName) (bytes : ByteArray) (maxL : Nat) (ret : Option FieldType) (hh : List (Nat × Nat × Nat × Nat)) (ws : List Cond) (rm : Room) (mc ms n : Nat) : Prop :=
  (rm.cells = mc ∧ rm.slots = ms ∧ rm.frames + 1 ≤ R.frames ∧ 8 + (maxL + 11) + rm.locals ≤ R.locals ∧ (∀ w ∈ ws, ∀ (a' : Array Value) (U : State), s.WarmedH U.vm → w.before a' U = true) ∧ Cond.codeWith y bytes maxL ret hh ∈ ws) ∧
  (Cond.codeWith y bytes maxL ret hh).before args s = true ∧ (Cond.initialized y.cls).before args s = true ∧ (y.cls ≠ "java/lang/invoke/MethodHandle" ∧ y.cls ≠ "java/lang/invoke/VarHandle") ∧
  (∀ sig, parseMethodDescriptor y.desc = some sig → n = sig.parameters.length) ∧ (Cond.methodLink own index y).before args s = true ∧ (Cond.static y).before args s = true
theorem vx_cwSW {own : String} {index maxL mc ms : Nat} {y : MethodName} {bytes : ByteArray} {ret : Option FieldType} {hh : List (Nat × Nat × Nat × Nat)} {Ts ws ws' : List Cond} {rm : Room} (n : Nat) (ht : ∀ w ∈ Ts, w.before args s = true) (hT : GoodIn Ts (va_wsS own index y ws)) (hw : ws = Cond.codeWith y bytes maxL ret hh :: ws') (hrc : rm.cells = mc) (hrs : rm.slots = ms)
    (hd : y.cls ≠ "java/lang/invoke/MethodHandle" ∧ y.cls ≠ "java/lang/invoke/VarHandle" ∧ (parseMethodDescriptor y.desc).map (fun d => d.parameters.length) = some n) (hR : rm.frames + 1 ≤ R.frames ∧ 8 + (maxL + 11) + rm.locals ≤ R.locals) :
    vx_CSW R s args own index y bytes maxL ret hh ws rm mc ms n := by
  have ok : ∀ w ∈ va_wsS own index y ws, w.before args s = true := fun w h => ht w (hT w h).1
  have hG : GoodIn Ts ws := fun w h => hT w (by unfold va_wsS; exact List.mem_append_right _ h)
  have hc : Cond.codeWith y bytes maxL ret hh ∈ ws := by rw [hw]; exact List.mem_cons_self
  refine ⟨⟨hrc, hrs, hR.1, hR.2, pay_in ht hG, hc⟩, ht _ (hG _ hc).1, ok _ (by simp [va_wsS]), ⟨hd.1, hd.2.1⟩, fun sig h => ?_, ok _ (by simp [va_wsS]), ok _ (by simp [va_wsS])⟩
  have h2 := hd.2.2
  rw [h] at h2
  exact (Option.some.inj h2).symm
theorem vx_callSW (X : Stand p l e R s m args below meth c T locs cells slots) (hexec : p.tables.exec = Jvm.exec) {own : String} {index : Nat} {y : MethodName} {bytes : ByteArray} {maxL : Nat} {ret : Option FieldType} {hh : List (Nat × Nat × Nat × Nat)}
    (hown : s.vm.findClass own = some m.cls) (hlink : (Cond.methodLink own index y).before args s = true) (hstat : (Cond.static y).before args s = true) (hinit : (Cond.initialized y.cls).before args s = true)
    (hcode : (Cond.codeWith y bytes maxL ret hh).before args s = true) (hy : y.cls ≠ "java/lang/invoke/MethodHandle" ∧ y.cls ≠ "java/lang/invoke/VarHandle")
    {W9 : Nat} {Pre : Pt → Array Value → Prop} {Post : Pt → Array Value → Option Value → Pt → Prop} (hK : Back l R p e below s args y 3 W9 Pre Post)
    {g : JFrame} (hg : g.method = m) (hsize : g.locals.size = c.maxLocals) {argsL rest : List Value} (hlen : ∀ sig, parseMethodDescriptor y.desc = some sig → argsL.length = sig.parameters.length)
    (hstack : g.stack = argsL.reverse ++ rest) (hW : 2 * g.monitorRoom + (rest.map fun v => v.category).sum ≤ W9) (hdg : decode c.code g.pc = .ok (.invokestatic index, 3))
    (hpre : ∀ vm₁, s.WarmedH vm₁ → Pre ⟨T.setVm vm₁, locs, cells, slots⟩ argsL.toArray) :
    ∃ (v : Option Value) (vm₁ : Vm) (B : Pt), s.WarmedH vm₁ ∧ Stand p l e R s m args below meth c B.U B.locs B.cells B.slots ∧ Post ⟨T.setVm vm₁, locs, cells, slots⟩ argsL.toArray v B ∧
      ∀ target, Steps p.tables e below (B.U.setTop { g with pc := g.pc + 3, stack := v.toList ++ rest }) target → Steps p.tables e below (T.setTop g) target := by
  obtain ⟨mk, methM, cM, hnamed, hmethM, -, -, -, -, -, -, hsigM⟩ := Cond.codeWith_spec hcode
  have hstatic : methM.isStatic = true := Cond.static_spec hnamed hmethM hstat
  obtain ⟨kP, hkP, -⟩ := className_of_methodNamed hnamed
  have hinitP : kP.init = .initialized := Cond.initialized_spec (findClass_of_methodNamed hnamed) hkP hinit
  obtain ⟨vm₁, X₁, hstep₁⟩ := X.invokestatic hexec hown hlink hnamed hmethM hstatic hkP hinitP hy (g := g) hg (argsL := argsL) (rest := rest) (hlen _ hsigM) hstack hdg
  obtain ⟨v, B, X', hpost, hsteps⟩ := hK m meth c ⟨T.setVm vm₁, locs, cells, slots⟩ { g with stack := rest } (.invokestatic index) mk argsL.toArray X₁ hg hsize hdg hW (X₁.named hnamed) (hpre vm₁ X₁.warmed)
  exact ⟨v, vm₁, B, X₁.warmed, X', hpost, fun target h => hstep₁ _ fun acts => by rw [doInvoke_state]; exact hsteps.trans h⟩
theorem vx_runSW {y : MethodName} {bytes cc : ByteArray} {maxL nL mc ms n index : Nat} {ret : Option FieldType} {hh : List (Nat × Nat × Nat × Nat)} {ws : List Cond} {rm : Room} {Pc : Array Value → State → Prop} {Qc : Array Value → State → Outcome → State → Prop} {free : Addr → Prop} {Ts : List Cond} {own : String} {As rest : List Value} {g : JFrame}
    (S : CallFix p m c cc nL s args Ts own) (hM : Met l y ws rm Pc Qc mc ms free) (cw : vx_CSW R s args own index y bytes maxL ret hh ws rm mc ms n) (hp : PreS s H Pc As)
    (hg : g.method = m) (hn : As.length = n) (hsize : g.locals.size = nL) (hstack : g.stack = As.reverse ++ rest) (hW : 2 * g.monitorRoom + (rest.map fun v => v.category).sum ≤ 8) (hdg : decode cc g.pc = .ok (.invokestatic index, 3)) (hf : cells + mc ≤ R.cells ∧ slots + ms ≤ R.slots) :
    va_Run p l e R s m args below meth c H locs cells slots mc ms g rest (Qc As.toArray) (free) := by
  obtain ⟨⟨hrc, hrs, hfr, hlo, hws, hcw⟩, hcode, hini, hy, hlen, hl, hstt⟩ := cw
  have hK : Back l R p e below s args y 3 8 (PreOf R mc ms Pc) (PostOf Qc mc ms free) := va_backW (hh := hh) (bytes := bytes) (maxL := maxL) (ret := ret) hM hp.1 hrc hrs hfr hlo hws hcw (fun a' U hW => word_at hW (Or.inl (by first | rfl | simp [Cond.onTables, Cond.keeps, Cond.steady])) hini)
  obtain ⟨hx, hb, hml, ho, -⟩ := S
  intro T hT X
  obtain ⟨v, vm₁, ⟨U', l2, c2, s2⟩, hW₁, X', ⟨g', mk, t, L, e1, e2, hq, h1, hL, h2, h3⟩, st⟩ := vx_callSW X hx (hh := hh) (bytes := bytes) (maxL := maxL) (ret := ret) ho hl hstt hini hcode hy hK hg (hsize.trans hml.symm) (argsL := As) (rest := rest) (fun sig h => hn.trans (hlen sig h)) hstack hW (by rw [hb]; exact hdg)
    (fun vm₁ hW₁ => ⟨hf.1, hf.2, hp.2 (T.setVm vm₁) hT hW₁⟩)
  dsimp only [Pt.U, Pt.locs, Pt.cells, Pt.slots] at X' e1 e2 h1 h2 h3 st
  subst h1; subst h2; subst h3
  exact ⟨v, (T.setVm vm₁).calling g' mk As.toArray, t, U', L, hT, X', hL, e1, e2, hq, st⟩
/-- not caught here, past rows that name other classes: it goes on to the caller -/
theorem vx_outP {p : Program} {l : Launch} {e : Env} {R : Room} {s : State} {m : MethodId} {args : Array Value} {below : List Frame} {meth : Method} {c : Code} {H : Heap} {locs : List Loc} {cells slots : Nat} {free : Addr → Prop} {ls : Array Slot} {rest : List Value} {Qc : Array Value → State → Outcome → State → Prop} {XC : String → State → State → Prop}
    {pc : Nat} {own E : String} {ce : Cell} {q : Addr} {mc ms : Nat} (hown : s.vm.findClass own = some m.cls) (hlocks : meth.locks = false)
    (hpass : ∀ z ∈ c.exceptionTable.toList, covers z pc = false ∨ (z.catchType ≠ 0 ∧ ∃ nm : String, (Cond.classLink own z.catchType nm).before args s = true ∧ va_Nc E nm s)) (hcell : H[q]? = some ce) (hv : ce.vm = .none) (hcl : s.vm.findClass E = some ce.cls)
    (hx : ∀ t : State, t.heap = H → s.vm.Alike t.vm → XC E s t) (hf : ∀ z ∈ locs, free z.base) (hc : cells ≤ mc) (hs : slots ≤ ms) :
    vx_W p l e R s m args below meth c H locs cells slots (vx_MQ below Qc XC args s mc ms free) (F0 m pc ls rest) q := by
  intro T hT X
  have hpl : e.platform.magicAccessors = ({} : Platform).magicAccessors := by rw [X.admits.platform]
  obtain ⟨vm', hW', X', st⟩ := X.outThrough hlocks q (g := F0 m pc ls rest) rfl rfl rfl (cell := ce) (by rw [hT]; exact hcell) (by rw [hv]; rfl)
    (by obtain ⟨k9, h9, -⟩ := Vm.findClass_spec hcl; exact ⟨k9, h9⟩) (fun z hz => by
      rcases hpass z hz with h | ⟨hz0, nm, hl1, hn1⟩
      · exact Or.inl h
      · obtain ⟨c6, hc6, hcl6⟩ := Cond.classLink_spec hown hl1 e.platform hpl
        obtain ⟨a8, b8, h1, h2, h3⟩ := hn1
        cases Option.some.inj (h1.symm.trans hcl)
        cases Option.some.inj (h2.symm.trans hc6)
        exact Or.inr ⟨hz0, _, hcl6, h3⟩)
  obtain ⟨g₀, hfr⟩ := X'.frames_eq
  have hcell9 : ((T.setVm vm').setFrames (.throwing q :: below)).heap[q]? = some ce := by
    show T.heap[q]? = some ce
    rw [hT]; exact hcell
  have hend : Ended ((T.setVm vm').setFrames (.throwing q :: below)) below (.threw q) := State.frames_setFrames _ (State.cur_lt_of_frames hfr)
  refine ⟨(T.setVm vm').setFrames (.throwing q :: below), ?_, .threw q, X'.here.running, hend, Or.inr ⟨q, rfl, E, ce, locs, hx _ hT (X'.ends _).1.alike, hcell9, hv, hcl, (X'.ends _).1, (X'.ends _).2.mono hc hs, hf⟩⟩
  rw [X.pushThrowing_eq]
  exact st
/-- a thing of a world lies in the heap -/
theorem vx_lt {D : va_G} {cl : List vw_C} {ws : va_W} {H1 : Heap} (h : va_P D cl ws H1) {k : Nat} {q : Nat × va_E} (hk : ws[k]? = some q) : q.1 < H1.size := (h k q hk).lt
end VXS
/-! ===== END ===== -/
/-! ===== BEGIN methods with a table of their own: called by a name, returning or throwing ===== -/
section VXH
/-! vx_backW, vx_callVX, vx_callSX, vx_callVW, vx_runVW, vx_runVX, vx_runSX, vx_ofWH follow the same proofs as their sisters above (Free/Laws.lean, Shelf42/LK1.lean); vx_outP calls Shelf42/NT130.lean (outThrough). -/
section
variable {l : Launch} {R : Room} {p : Program} {e : Env} {below : List Frame} {s : State} {sargs : Array Value} {y : MethodName} {len W9 : Nat}
theorem vx_backW {ws : List Cond} {rm : Room} {Pc : Array Value → State → Prop} {Qc : Array Value → State → Outcome → State → Prop} {XC : String → State → State → Prop} {mc ms : Nat} {free : Addr → Prop} {bytes : ByteArray} {maxL : Nat} {ret : Option FieldType} {hh : List (Nat × Nat × Nat × Nat)}
    (hM : vx_Met l y ws rm Pc Qc XC mc ms free) (hblind : FrameBlind Pc) (hrc : rm.cells = mc) (hrs : rm.slots = ms)
    (hframes : rm.frames + 1 ≤ R.frames) (hlocals : W9 + (maxL + 11) + rm.locals ≤ R.locals)
    (hws : ∀ w ∈ ws, ∀ a' U, s.WarmedH U.vm → w.before a' U = true) (hcode : Cond.codeWith y bytes maxL ret hh ∈ ws) (hinit : ∀ a' U, s.WarmedH U.vm → (Cond.initialized y.cls).before a' U = true) :
    vx_Back l R p e below s sargs y len W9 (PreOf R mc ms Pc) (PostOf Qc mc ms free) (vx_Post XC mc ms free) := by
  intro m meth c A g ig mk a X hg hsize hdg hW hn hp
  have h1 : (headSpec ws rm).pre.before a A.U = true := atoms_intro fun w hw => hws w hw _ _ X.warmed
  have h2 : (Cond.codeWith y bytes maxL ret hh).before a A.U = true := hws _ hcode _ _ X.warmed
  have h3 : (Cond.initialized y.cls).before a A.U = true := hinit _ _ X.warmed
  have h4 : A.cells + (headSpec ws rm).room.cells ≤ R.cells := by rw [show (headSpec ws rm).room.cells = mc from hrc]; exact hp.1
  have h5 : A.slots + (headSpec ws rm).room.slots ≤ R.slots := by rw [show (headSpec ws rm).room.slots = ms from hrs]; exact hp.2.1
  have hPc : Pc a (A.U.calling g mk a) := hblind _ _ _ _ hp.2.2
  obtain ⟨U, Ls, c0, s0⟩ := A
  dsimp only [Pt.U, Pt.locs, Pt.cells, Pt.slots] at h1 h2 h3 h4 h5 X hn hPc ⊢
  obtain ⟨m9, methY, cY, hn9, hmY, hcY, -, hlY, -⟩ := Cond.codeWith_spec h2
  cases Option.some.inj (hn9.symm.trans hn)
  obtain ⟨kY, hkY, -⟩ := className_of_methodNamed hn
  have hinitY : kY.init = .initialized := Cond.initialized_spec (findClass_of_methodNamed hn) hkY h3
  have h : At U g.method c below := by rw [hg]; exact X.here
  have hlocals9 : W9 + (maxL + 11) + (headSpec ws rm).room.locals ≤ R.locals := hlocals
  have happ : (headSpec ws rm).appliesLoose y e.platform (U.calling g mk a) = true :=
    Spec.appliesLoose_calling (g := g) h hdg hn hkY hinitY
      (X.room_calling (g := g) (R' := (headSpec ws rm).room) hsize hmY hcY hframes (by rw [hlY]; omega) h4 h5) h1
  obtain ⟨mid, hmid⟩ := h.above
  have hfr : (U.setTop g).frames = (.java g :: mid) ++ below := by rw [State.frames_setTop' g h.top, hmid]; rfl
  obtain ⟨o, s₂, hsteps, -, hend, hq⟩ := Steps.callFree hM p X.admits X.cas X.clock (acts := []) hfr happ hPc trivial
  have hq' : vx_Q Qc XC mc ms free a (U.calling g mk a) o s₂ := hq
  rw [State.frames_setTop' g h.top] at hend
  obtain ⟨g₀, hg0⟩ := Option.isSome_iff_exists.mp h.top
  obtain ⟨r, hr⟩ := State.topJava?_eq_some.mp hg0
  have hr' : (({ U with heap := s₂.heap, slotsUsed := s₂.slotsUsed } : State).setVm s₂.vm).frames = .java g₀ :: r := hr
  rcases hq' with ⟨hqc, L, hfe, hL⟩ | ⟨q, rfl, E, ce, L, hx, hce, hcv, hcl, hW₂, hsm, hL⟩
  · obtain ⟨⟨v, rfl⟩, hW₂, e2, q2, q3, q4, q5, q6⟩ := id hfe
    have e3 : s₂ = ({ (U.calling g mk a).setFrames s₂.frames with heap := s₂.heap, slotsUsed := s₂.slotsUsed } : State).setVm s₂.vm := by
      have : s₂ = ({ s₂ with vm := (U.calling g mk a).vm } : State).setVm s₂.vm := rfl
      rw [e2] at this
      exact this
    obtain ⟨c₂, i₂, len₂, hc₂, hd₂, hf₂⟩ := hend
    have hW' : U.WarmedH s₂.vm := hW₂
    have hcc : c₂ = c := by
      have h1 : s₂.code? g.method = U.code? g.method := by
        rw [State.code?_eq, State.code?_eq, hW'.alike.method?]
      exact Option.some.inj (hc₂.symm.trans (h1.trans h.code))
    subst hcc
    have hlen : len₂ = len := by rw [hdg] at hd₂; cases hd₂; rfl
    subst hlen
    have hs₂ : s₂ = (({ U with heap := s₂.heap, slotsUsed := s₂.slotsUsed } : State).setVm s₂.vm).setTop { g with pc := g.pc + len₂, stack := v.toList ++ g.stack } := by
      refine e3.trans ?_
      rw [hf₂, State.calling_eq h.top, State.setFrames_setFrames, State.setTop_of_frames _ hr', hr]
      rfl
    have hsame : U.sameButNew ({ U with heap := s₂.heap, slotsUsed := s₂.slotsUsed } : State) L mc ms := by
      refine ⟨?_, q2, q3, q4, q5, q6⟩
      obtain ⟨t, ht, -⟩ := State.frames_cons hr
      show ({ U with heap := s₂.heap, slotsUsed := s₂.slotsUsed } : State) = { U.setFrames U.frames with heap := s₂.heap, slotsUsed := s₂.slotsUsed }
      rw [State.setFrames_self ht]
    subst hg
    refine Or.inl ⟨v, ⟨(({ U with heap := s₂.heap, slotsUsed := s₂.slotsUsed } : State).setVm s₂.vm), Ls ++ L, c0 + mc, s0 + ms⟩,
      ⟨X.admits, X.cas, X.clock, X.frames, X.room, X.hears, X.method, X.code, (X.here.setHeapUsed s₂.heap s₂.slotsUsed).setVm hW'.alike, X.tail, State.WarmedH.trans X.warmed hW', X.limits, X.bytes, X.same.trans (hsame.setVm s.vm)⟩,
      ⟨g, mk, s₂, L, rfl, rfl, hqc, rfl, hL, rfl, rfl⟩, ?_⟩
    show Steps p.tables e below _ ((({ U with heap := s₂.heap, slotsUsed := s₂.slotsUsed } : State).setVm s₂.vm).setTop { g with pc := g.pc + len₂, stack := v.toList ++ g.stack })
    rw [← hs₂]
    exact hsteps
  · obtain ⟨e2, q2, q3, q4, q5, q6⟩ := id hsm
    have e3 : s₂ = ({ (U.calling g mk a).setFrames s₂.frames with heap := s₂.heap, slotsUsed := s₂.slotsUsed } : State).setVm s₂.vm := by
      have : s₂ = ({ s₂ with vm := (U.calling g mk a).vm } : State).setVm s₂.vm := rfl
      rw [e2] at this
      exact this
    have hf₂ : s₂.frames = .throwing q :: .java g :: U.frames.tail := hend
    have hW' : U.WarmedH s₂.vm := hW₂
    have hs₂ : s₂ = ((({ U with heap := s₂.heap, slotsUsed := s₂.slotsUsed } : State).setVm s₂.vm).setTop g).pushFrame (.throwing q) := by
      refine e3.trans ?_
      rw [hf₂, State.calling_eq h.top, State.setFrames_setFrames, State.pushFrame, State.frames_setTop _ hr', State.setTop_of_frames _ hr', State.setFrames_setFrames, hr]
      rfl
    have hsame : U.sameButNew ({ U with heap := s₂.heap, slotsUsed := s₂.slotsUsed } : State) L mc ms := by
      refine ⟨?_, q2, q3, q4, q5, q6⟩
      obtain ⟨t, ht, -⟩ := State.frames_cons hr
      show ({ U with heap := s₂.heap, slotsUsed := s₂.slotsUsed } : State) = { U.setFrames U.frames with heap := s₂.heap, slotsUsed := s₂.slotsUsed }
      rw [State.setFrames_self ht]
    subst hg
    refine Or.inr ⟨q, ⟨(({ U with heap := s₂.heap, slotsUsed := s₂.slotsUsed } : State).setVm s₂.vm), Ls ++ L, c0 + mc, s0 + ms⟩,
      ⟨X.admits, X.cas, X.clock, X.frames, X.room, X.hears, X.method, X.code, (X.here.setHeapUsed s₂.heap s₂.slotsUsed).setVm hW'.alike, X.tail, State.WarmedH.trans X.warmed hW', X.limits, X.bytes, X.same.trans (hsame.setVm s.vm)⟩,
      ⟨g, mk, s₂, L, E, ce, rfl, rfl, hx, hce, hcv, hcl, rfl, hL, rfl, rfl⟩, ?_⟩
    show Steps p.tables e below _ (((({ U with heap := s₂.heap, slotsUsed := s₂.slotsUsed } : State).setVm s₂.vm).setTop g).pushFrame (.throwing q))
    rw [← hs₂]
    exact hsteps
end
variable {p : Program} {l : Launch} {e : Env} {R : Room} {s : State} {m : MethodId} {args : Array Value} {below : List Frame} {meth : Method} {c : Code} {T : State} {H : Heap} {locs : List Loc} {cells slots : Nat}
theorem vx_callVX (X : Stand p l e R s m args below meth c T locs cells slots) (hexec : p.tables.exec = Jvm.exec) {own C : String} {index : Nat} {y : MethodName} {bytes : ByteArray} {maxL : Nat} {ret : Option FieldType} {hh : List (Nat × Nat × Nat × Nat)}
    (hown : s.vm.findClass own = some m.cls) (hlink : (Cond.methodLink own index y).before args s = true) (hinst : (Cond.instanceMethod y).before args s = true) (hsel : (Cond.selects C y y).before args s = true)
    (hcode : (Cond.codeWith y bytes maxL ret hh).before args s = true) (hy : y.cls ≠ "java/lang/invoke/MethodHandle" ∧ y.cls ≠ "java/lang/invoke/VarHandle")
    {W9 : Nat} {Pre : Pt → Array Value → Prop} {Post : Pt → Array Value → Option Value → Pt → Prop} {PostX : Pt → Array Value → Addr → Pt → Prop} (hK : vx_Back l R p e below s args y 3 W9 Pre Post PostX)
    {b : Addr} {cellB : Cell} (hcell : T.heap[b]? = some cellB) (hobj : cellB.vm.isStatics = false) (hcls : s.vm.findClass C = some cellB.cls)
    {g : JFrame} (hg : g.method = m) (hsize : g.locals.size = c.maxLocals) {argsL rest : List Value} (hlen : ∀ sig, parseMethodDescriptor y.desc = some sig → argsL.length = sig.parameters.length)
    (hstack : g.stack = argsL.reverse ++ .ref b :: rest) (hW : 2 * g.monitorRoom + (rest.map fun v => v.category).sum ≤ W9) (hdg : decode c.code g.pc = .ok (.invokevirtual index, 3))
    (hpre : ∀ vm₁, s.WarmedH vm₁ → Pre ⟨T.setVm vm₁, locs, cells, slots⟩ (Value.ref b :: argsL).toArray) :
    (∃ (v : Option Value) (vm₁ : Vm) (B : Pt), s.WarmedH vm₁ ∧ Stand p l e R s m args below meth c B.U B.locs B.cells B.slots ∧ Post ⟨T.setVm vm₁, locs, cells, slots⟩ (Value.ref b :: argsL).toArray v B ∧
      ∀ target, Steps p.tables e below (B.U.setTop { g with pc := g.pc + 3, stack := v.toList ++ rest }) target → Steps p.tables e below (T.setTop g) target) ∨
    (∃ (q : Addr) (vm₁ : Vm) (B : Pt), s.WarmedH vm₁ ∧ Stand p l e R s m args below meth c B.U B.locs B.cells B.slots ∧ PostX ⟨T.setVm vm₁, locs, cells, slots⟩ (Value.ref b :: argsL).toArray q B ∧
      Steps p.tables e below (T.setTop g) ((B.U.setTop { g with stack := rest }).pushFrame (.throwing q))) := by
  obtain ⟨mk, methM, hnamed, hmethM, hstM, habM⟩ := Cond.instanceMethod_spec hinst
  obtain ⟨m8, methM', cM, hn8, hmethM', -, -, -, -, -, -, hsigM⟩ := Cond.codeWith_spec hcode
  cases Option.some.inj (hn8.symm.trans hnamed)
  cases hmethM.symm.trans hmethM'
  obtain ⟨c2, r2, m2, q1, q2, q3, q4, kP, hkP, hkPi⟩ := Cond.selects_spec hsel
  cases hcls.symm.trans q1
  cases (State.methodFound?_of_named hnamed hy).symm.trans q2
  cases hnamed.symm.trans q3
  have hselP : selectMethod e.platform s.vm cellB.cls mk = .method mk := by rw [Launch.admits_selectMethod X.admits]; exact q4
  obtain ⟨vm₁, X₁, hstep₁⟩ := X.invokevirtual hexec hown hlink hnamed hmethM hstM hkP hkPi hy (a := b) (cell := cellB) hcell
    (fun z h => by rw [h] at hobj; cases hobj) hselP hmethM habM hkP hkPi (g := g) hg (argsL := argsL) (rest := rest) (hlen _ hsigM) hstack hdg
  rcases hK m meth c ⟨T.setVm vm₁, locs, cells, slots⟩ { g with stack := rest } (.invokevirtual index) mk (Value.ref b :: argsL).toArray X₁ hg hsize hdg hW (X₁.named hnamed) (hpre vm₁ X₁.warmed) with ⟨v, B, X', hpost, hsteps⟩ | ⟨q, B, X', hpost, hsteps⟩
  · exact Or.inl ⟨v, vm₁, B, X₁.warmed, X', hpost, fun target h => hstep₁ _ fun acts => by rw [doInvoke_state]; exact hsteps.trans h⟩
  · exact Or.inr ⟨q, vm₁, B, X₁.warmed, X', hpost, hstep₁ _ fun acts => by rw [doInvoke_state]; exact hsteps⟩
theorem vx_callSX (X : Stand p l e R s m args below meth c T locs cells slots) (hexec : p.tables.exec = Jvm.exec) {own : String} {index : Nat} {y : MethodName} {bytes : ByteArray} {maxL : Nat} {ret : Option FieldType} {hh : List (Nat × Nat × Nat × Nat)}
    (hown : s.vm.findClass own = some m.cls) (hlink : (Cond.methodLink own index y).before args s = true) (hstat : (Cond.static y).before args s = true) (hinit : (Cond.initialized y.cls).before args s = true)
    (hcode : (Cond.codeWith y bytes maxL ret hh).before args s = true) (hy : y.cls ≠ "java/lang/invoke/MethodHandle" ∧ y.cls ≠ "java/lang/invoke/VarHandle")
    {W9 : Nat} {Pre : Pt → Array Value → Prop} {Post : Pt → Array Value → Option Value → Pt → Prop} {PostX : Pt → Array Value → Addr → Pt → Prop} (hK : vx_Back l R p e below s args y 3 W9 Pre Post PostX)
    {g : JFrame} (hg : g.method = m) (hsize : g.locals.size = c.maxLocals) {argsL rest : List Value} (hlen : ∀ sig, parseMethodDescriptor y.desc = some sig → argsL.length = sig.parameters.length)
    (hstack : g.stack = argsL.reverse ++ rest) (hW : 2 * g.monitorRoom + (rest.map fun v => v.category).sum ≤ W9) (hdg : decode c.code g.pc = .ok (.invokestatic index, 3))
    (hpre : ∀ vm₁, s.WarmedH vm₁ → Pre ⟨T.setVm vm₁, locs, cells, slots⟩ argsL.toArray) :
    (∃ (v : Option Value) (vm₁ : Vm) (B : Pt), s.WarmedH vm₁ ∧ Stand p l e R s m args below meth c B.U B.locs B.cells B.slots ∧ Post ⟨T.setVm vm₁, locs, cells, slots⟩ argsL.toArray v B ∧
      ∀ target, Steps p.tables e below (B.U.setTop { g with pc := g.pc + 3, stack := v.toList ++ rest }) target → Steps p.tables e below (T.setTop g) target) ∨
    (∃ (q : Addr) (vm₁ : Vm) (B : Pt), s.WarmedH vm₁ ∧ Stand p l e R s m args below meth c B.U B.locs B.cells B.slots ∧ PostX ⟨T.setVm vm₁, locs, cells, slots⟩ argsL.toArray q B ∧
      Steps p.tables e below (T.setTop g) ((B.U.setTop { g with stack := rest }).pushFrame (.throwing q))) := by
  obtain ⟨mk, methM, cM, hnamed, hmethM, -, -, -, -, -, -, hsigM⟩ := Cond.codeWith_spec hcode
  have hstatic : methM.isStatic = true := Cond.static_spec hnamed hmethM hstat
  obtain ⟨kP, hkP, -⟩ := className_of_methodNamed hnamed
  have hinitP : kP.init = .initialized := Cond.initialized_spec (findClass_of_methodNamed hnamed) hkP hinit
  obtain ⟨vm₁, X₁, hstep₁⟩ := X.invokestatic hexec hown hlink hnamed hmethM hstatic hkP hinitP hy (g := g) hg (argsL := argsL) (rest := rest) (hlen _ hsigM) hstack hdg
  rcases hK m meth c ⟨T.setVm vm₁, locs, cells, slots⟩ { g with stack := rest } (.invokestatic index) mk argsL.toArray X₁ hg hsize hdg hW (X₁.named hnamed) (hpre vm₁ X₁.warmed) with ⟨v, B, X', hpost, hsteps⟩ | ⟨q, B, X', hpost, hsteps⟩
  · exact Or.inl ⟨v, vm₁, B, X₁.warmed, X', hpost, fun target h => hstep₁ _ fun acts => by rw [doInvoke_state]; exact hsteps.trans h⟩
  · exact Or.inr ⟨q, vm₁, B, X₁.warmed, X', hpost, hstep₁ _ fun acts => by rw [doInvoke_state]; exact hsteps⟩
theorem vx_callVW (X : Stand p l e R s m args below meth c T locs cells slots) (hexec : p.tables.exec = Jvm.exec) {own C : String} {index : Nat} {y : MethodName} {bytes : ByteArray} {maxL : Nat} {ret : Option FieldType} {hh : List (Nat × Nat × Nat × Nat)}
    (hown : s.vm.findClass own = some m.cls) (hlink : (Cond.methodLink own index y).before args s = true) (hinst : (Cond.instanceMethod y).before args s = true) (hsel : (Cond.selects C y y).before args s = true)
    (hcode : (Cond.codeWith y bytes maxL ret hh).before args s = true) (hy : y.cls ≠ "java/lang/invoke/MethodHandle" ∧ y.cls ≠ "java/lang/invoke/VarHandle")
    {W9 : Nat} {Pre : Pt → Array Value → Prop} {Post : Pt → Array Value → Option Value → Pt → Prop} (hK : Back l R p e below s args y 3 W9 Pre Post)
    {b : Addr} {cellB : Cell} (hcell : T.heap[b]? = some cellB) (hobj : cellB.vm.isStatics = false) (hcls : s.vm.findClass C = some cellB.cls)
    {g : JFrame} (hg : g.method = m) (hsize : g.locals.size = c.maxLocals) {argsL rest : List Value} (hlen : ∀ sig, parseMethodDescriptor y.desc = some sig → argsL.length = sig.parameters.length)
    (hstack : g.stack = argsL.reverse ++ .ref b :: rest) (hW : 2 * g.monitorRoom + (rest.map fun v => v.category).sum ≤ W9) (hdg : decode c.code g.pc = .ok (.invokevirtual index, 3))
    (hpre : ∀ vm₁, s.WarmedH vm₁ → Pre ⟨T.setVm vm₁, locs, cells, slots⟩ (Value.ref b :: argsL).toArray) :
    ∃ (v : Option Value) (vm₁ : Vm) (B : Pt), s.WarmedH vm₁ ∧ Stand p l e R s m args below meth c B.U B.locs B.cells B.slots ∧ Post ⟨T.setVm vm₁, locs, cells, slots⟩ (Value.ref b :: argsL).toArray v B ∧
      ∀ target, Steps p.tables e below (B.U.setTop { g with pc := g.pc + 3, stack := v.toList ++ rest }) target → Steps p.tables e below (T.setTop g) target := by
  obtain ⟨mk, methM, hnamed, hmethM, hstM, habM⟩ := Cond.instanceMethod_spec hinst
  obtain ⟨m8, methM', cM, hn8, hmethM', -, -, -, -, -, -, hsigM⟩ := Cond.codeWith_spec hcode
  cases Option.some.inj (hn8.symm.trans hnamed)
  cases hmethM.symm.trans hmethM'
  obtain ⟨c2, r2, m2, q1, q2, q3, q4, kP, hkP, hkPi⟩ := Cond.selects_spec hsel
  cases hcls.symm.trans q1
  cases (State.methodFound?_of_named hnamed hy).symm.trans q2
  cases hnamed.symm.trans q3
  have hselP : selectMethod e.platform s.vm cellB.cls mk = .method mk := by rw [Launch.admits_selectMethod X.admits]; exact q4
  obtain ⟨vm₁, X₁, hstep₁⟩ := X.invokevirtual hexec hown hlink hnamed hmethM hstM hkP hkPi hy (a := b) (cell := cellB) hcell
    (fun z h => by rw [h] at hobj; cases hobj) hselP hmethM habM hkP hkPi (g := g) hg (argsL := argsL) (rest := rest) (hlen _ hsigM) hstack hdg
  obtain ⟨v, B, X', hpost, hsteps⟩ := hK m meth c ⟨T.setVm vm₁, locs, cells, slots⟩ { g with stack := rest } (.invokevirtual index) mk (Value.ref b :: argsL).toArray X₁ hg hsize hdg hW (X₁.named hnamed) (hpre vm₁ X₁.warmed)
  exact ⟨v, vm₁, B, X₁.warmed, X', hpost, fun target h => hstep₁ _ fun acts => by rw [doInvoke_state]; exact hsteps.trans h⟩
abbrev vx_CVW (R : Room) (s : State) (args : Array Value) (own C : String) (index : Nat) (y : MethodName) (bytes : ByteArray) (maxL : Nat) (ret : Option FieldType) (hh : List (Nat × Nat × Nat × Nat)) (ws : List Cond) (rm : Room) (mc ms n : Nat) : Prop :=
  (rm.cells = mc ∧ rm.slots = ms ∧ rm.frames + 1 ≤ R.frames ∧ 8 + (maxL + 11) + rm.locals ≤ R.locals ∧ (∀ w ∈ ws, ∀ (a' : Array Value) (U : State), s.WarmedH U.vm → w.before a' U = true) ∧ Cond.codeWith y bytes maxL ret hh ∈ ws) ∧
  (Cond.codeWith y bytes maxL ret hh).before args s = true ∧ (Cond.initialized y.cls).before args s = true ∧ (y.cls ≠ "java/lang/invoke/MethodHandle" ∧ y.cls ≠ "java/lang/invoke/VarHandle") ∧
  (∀ sig, parseMethodDescriptor y.desc = some sig → n = sig.parameters.length) ∧ (Cond.methodLink own index y).before args s = true ∧ (Cond.instanceMethod y).before args s = true ∧ (Cond.selects C y y).before args s = true
theorem vx_cwVW {own C : String} {index maxL mc ms : Nat} {y : MethodName} {bytes : ByteArray} {ret : Option FieldType} {hh : List (Nat × Nat × Nat × Nat)} {Ts ws ws' : List Cond} {rm : Room} (n : Nat) (ht : ∀ w ∈ Ts, w.before args s = true) (hT : GoodIn Ts (wsV own index C y ws)) (hw : ws = Cond.codeWith y bytes maxL ret hh :: ws') (hrc : rm.cells = mc) (hrs : rm.slots = ms)
    (hd : y.cls = C ∧ y.cls ≠ "java/lang/invoke/MethodHandle" ∧ y.cls ≠ "java/lang/invoke/VarHandle" ∧ (parseMethodDescriptor y.desc).map (fun d => d.parameters.length) = some n) (hR : rm.frames + 1 ≤ R.frames ∧ 8 + (maxL + 11) + rm.locals ≤ R.locals) :
    vx_CVW R s args own C index y bytes maxL ret hh ws rm mc ms n := by
  obtain ⟨hC, hd⟩ := hd
  subst hC
  have ok : ∀ w ∈ wsV own index y.cls y ws, w.before args s = true := fun w h => ht w (hT w h).1
  have hG : GoodIn Ts ws := fun w h => hT w (by unfold wsV; exact List.mem_append_right _ h)
  have hc : Cond.codeWith y bytes maxL ret hh ∈ ws := by rw [hw]; exact List.mem_cons_self
  refine ⟨⟨hrc, hrs, hR.1, hR.2, pay_in ht hG, hc⟩, ht _ (hG _ hc).1, ok _ (by simp [wsV]), ⟨hd.1, hd.2.1⟩, fun sig h => ?_, ok _ (by simp [wsV]), ok _ (by simp [wsV]), ok _ (by simp [wsV])⟩
  have h2 := hd.2.2
  rw [h] at h2
  exact (Option.some.inj h2).symm
theorem vx_runVW {y : MethodName} {bytes cc : ByteArray} {maxL nL mc ms n index : Nat} {ret : Option FieldType} {hh : List (Nat × Nat × Nat × Nat)} {ws : List Cond} {rm : Room} {Pc : Array Value → State → Prop} {Qc : Array Value → State → Outcome → State → Prop} {free : Addr → Prop} {Ts : List Cond} {own C : String} {b : Addr} {As rest : List Value} {g : JFrame}
    (S : CallFix p m c cc nL s args Ts own) (hM : Met l y ws rm Pc Qc mc ms free) (cw : vx_CVW R s args own C index y bytes maxL ret hh ws rm mc ms n) (hp : PreV s H C b Pc As)
    (hg : g.method = m) (hn : As.length = n) (hsize : g.locals.size = nL) (hstack : g.stack = As.reverse ++ .ref b :: rest) (hW : 2 * g.monitorRoom + (rest.map fun v => v.category).sum ≤ 8) (hdg : decode cc g.pc = .ok (.invokevirtual index, 3)) (hf : cells + mc ≤ R.cells ∧ slots + ms ≤ R.slots) :
    va_Run p l e R s m args below meth c H locs cells slots mc ms g rest (Qc (Value.ref b :: As).toArray) free := by
  obtain ⟨⟨hrc, hrs, hfr, hlo, hws, hcw⟩, hcode, hini, hy, hlen, hl, hin, hse⟩ := cw
  have hK : Back l R p e below s args y 3 8 (PreOf R mc ms Pc) (PostOf Qc mc ms free) := va_backW (hh := hh) (bytes := bytes) (maxL := maxL) (ret := ret) hM hp.1 hrc hrs hfr hlo hws hcw (fun a' U hW => word_at hW (Or.inl (by first | rfl | simp [Cond.onTables, Cond.keeps, Cond.steady])) hini)
  obtain ⟨hx, hb, hml, ho, -⟩ := S
  obtain ⟨-, ⟨cellB, hcB, hoB, hclB⟩, hPc⟩ := hp
  intro T hT X
  obtain ⟨v, vm₁, ⟨U', l2, c2, s2⟩, hW₁, X', ⟨g', mk, t, L, e1, e2, hq, h1, hL, h2, h3⟩, st⟩ := vx_callVW X hx (C := C) (hh := hh) (bytes := bytes) (maxL := maxL) (ret := ret) ho hl hin hse hcode hy hK (by rw [hT]; exact hcB) hoB hclB hg (hsize.trans hml.symm) (argsL := As) (rest := rest) (fun sig h => hn.trans (hlen sig h)) hstack hW (by rw [hb]; exact hdg)
    (fun vm₁ hW₁ => ⟨hf.1, hf.2, hPc (T.setVm vm₁) hT hW₁⟩)
  dsimp only [Pt.U, Pt.locs, Pt.cells, Pt.slots] at X' e1 e2 h1 h2 h3 st
  subst h1; subst h2; subst h3
  exact ⟨v, (T.setVm vm₁).calling g' mk (Value.ref b :: As).toArray, t, U', L, hT, X', hL, e1, e2, hq, st⟩
section
variable {y : MethodName} {bytes cc : ByteArray} {maxL nL mc ms n index : Nat} {ret : Option FieldType} {ws : List Cond} {rm : Room} {Pc : Array Value → State → Prop} {Qc : Array Value → State → Outcome → State → Prop} {XC : String → State → State → Prop} {free : Addr → Prop} {Ts : List Cond} {own C : String} {b : Addr} {As rest : List Value} {g : JFrame}
theorem vx_runVX {hh : List (Nat × Nat × Nat × Nat)} (S : CallFix p m c cc nL s args Ts own) (hM : vx_Met l y ws rm Pc Qc XC mc ms free) (cw : vx_CVW R s args own C index y bytes maxL ret hh ws rm mc ms n) (hp : PreV s H C b Pc As)
    (hg : g.method = m) (hn : As.length = n) (hsize : g.locals.size = nL) (hstack : g.stack = As.reverse ++ .ref b :: rest) (hW : 2 * g.monitorRoom + (rest.map fun v => v.category).sum ≤ 8) (hdg : decode cc g.pc = .ok (.invokevirtual index, 3)) (hf : cells + mc ≤ R.cells ∧ slots + ms ≤ R.slots) :
    vx_Run p l e R s m args below meth c H locs cells slots mc ms g rest (Qc (Value.ref b :: As).toArray) XC free := by
  obtain ⟨⟨hrc, hrs, hfr, hlo, hws, hcw⟩, hcode, hini, hy, hlen, hl, hin, hse⟩ := cw
  have hK : vx_Back l R p e below s args y 3 8 (PreOf R mc ms Pc) (PostOf Qc mc ms free) (vx_Post XC mc ms free) := vx_backW (hh := hh) (bytes := bytes) (maxL := maxL) (ret := ret) hM hp.1 hrc hrs hfr hlo hws hcw (fun a' U hW => word_at hW (Or.inl (by first | rfl | simp [Cond.onTables, Cond.keeps, Cond.steady])) hini)
  obtain ⟨hx, hb, hml, ho, -⟩ := S
  obtain ⟨-, ⟨cellB, hcB, hoB, hclB⟩, hPc⟩ := hp
  intro T hT X
  rcases vx_callVX X hx (C := C) (hh := hh) (bytes := bytes) (maxL := maxL) (ret := ret) ho hl hin hse hcode hy hK (by rw [hT]; exact hcB) hoB hclB hg (hsize.trans hml.symm) (argsL := As) (rest := rest) (fun sig h => hn.trans (hlen sig h)) hstack hW (by rw [hb]; exact hdg)
    (fun vm₁ hW₁ => ⟨hf.1, hf.2, hPc (T.setVm vm₁) hT hW₁⟩) with ⟨v, vm₁, ⟨U', l2, c2, s2⟩, hW₁, X', ⟨g', mk, t, L, e1, e2, hq, h1, hL, h2, h3⟩, st⟩ | ⟨q, vm₁, ⟨U', l2, c2, s2⟩, hW₁, X', ⟨g', mk, t, L, E, ce, e1, e2, hq, hce, hcv, hcl, h1, hL, h2, h3⟩, st⟩
  · dsimp only [Pt.U, Pt.locs, Pt.cells, Pt.slots] at X' e1 e2 h1 h2 h3 st
    subst h1; subst h2; subst h3
    exact Or.inl ⟨v, (T.setVm vm₁).calling g' mk (Value.ref b :: As).toArray, t, U', L, hT, X', hL, e1, e2, hq, st⟩
  · dsimp only [Pt.U, Pt.locs, Pt.cells, Pt.slots] at X' e1 e2 h1 h2 h3 st hcl
    subst h1; subst h2; subst h3
    exact Or.inr ⟨q, (T.setVm vm₁).calling g' mk (Value.ref b :: As).toArray, t, U', L, E, ce, hT, X', hL, e1, e2, hq, hce, hcv, vx_cls hW₁ hcl, st⟩
theorem vx_runSX {hh : List (Nat × Nat × Nat × Nat)} (S : CallFix p m c cc nL s args Ts own) (hM : vx_Met l y ws rm Pc Qc XC mc ms free) (cw : vx_CSW R s args own index y bytes maxL ret hh ws rm mc ms n) (hp : PreS s H Pc As)
    (hg : g.method = m) (hn : As.length = n) (hsize : g.locals.size = nL) (hstack : g.stack = As.reverse ++ rest) (hW : 2 * g.monitorRoom + (rest.map fun v => v.category).sum ≤ 8) (hdg : decode cc g.pc = .ok (.invokestatic index, 3)) (hf : cells + mc ≤ R.cells ∧ slots + ms ≤ R.slots) :
    vx_Run p l e R s m args below meth c H locs cells slots mc ms g rest (Qc As.toArray) XC free := by
  obtain ⟨⟨hrc, hrs, hfr, hlo, hws, hcw⟩, hcode, hini, hy, hlen, hl, hstt⟩ := cw
  have hK : vx_Back l R p e below s args y 3 8 (PreOf R mc ms Pc) (PostOf Qc mc ms free) (vx_Post XC mc ms free) := vx_backW (hh := hh) (bytes := bytes) (maxL := maxL) (ret := ret) hM hp.1 hrc hrs hfr hlo hws hcw (fun a' U hW => word_at hW (Or.inl (by first | rfl | simp [Cond.onTables, Cond.keeps, Cond.steady])) hini)
  obtain ⟨hx, hb, hml, ho, -⟩ := S
  intro T hT X
  rcases vx_callSX X hx (hh := hh) (bytes := bytes) (maxL := maxL) (ret := ret) ho hl hstt hini hcode hy hK hg (hsize.trans hml.symm) (argsL := As) (rest := rest) (fun sig h => hn.trans (hlen sig h)) hstack hW (by rw [hb]; exact hdg)
    (fun vm₁ hW₁ => ⟨hf.1, hf.2, hp.2 (T.setVm vm₁) hT hW₁⟩) with ⟨v, vm₁, ⟨U', l2, c2, s2⟩, hW₁, X', ⟨g', mk, t, L, e1, e2, hq, h1, hL, h2, h3⟩, st⟩ | ⟨q, vm₁, ⟨U', l2, c2, s2⟩, hW₁, X', ⟨g', mk, t, L, E, ce, e1, e2, hq, hce, hcv, hcl, h1, hL, h2, h3⟩, st⟩
  · dsimp only [Pt.U, Pt.locs, Pt.cells, Pt.slots] at X' e1 e2 h1 h2 h3 st
    subst h1; subst h2; subst h3
    exact Or.inl ⟨v, (T.setVm vm₁).calling g' mk As.toArray, t, U', L, hT, X', hL, e1, e2, hq, st⟩
  · dsimp only [Pt.U, Pt.locs, Pt.cells, Pt.slots] at X' e1 e2 h1 h2 h3 st hcl
    subst h1; subst h2; subst h3
    exact Or.inr ⟨q, (T.setVm vm₁).calling g' mk As.toArray, t, U', L, E, ce, hT, X', hL, e1, e2, hq, hce, hcv, vx_cls hW₁ hcl, st⟩
end
end VXH
theorem vx_ofWH {l : Launch} {y : MethodName} {ws ws' : List Cond} {rm : Room} {Pc : Array Value → State → Prop} {Qc : Array Value → State → Outcome → State → Prop} {XC : String → State → State → Prop} {mc ms : Nat} {free : Addr → Prop} {cc : ByteArray} {maxL : Nat} {ret : Option FieldType} {hh : List (Nat × Nat × Nat × Nat)}
    (hy : plainName y.cls = true) (hw : ws = Cond.codeWith y cc maxL ret hh :: ws')
    (body : ∀ p e s m args below meth c s₁, BodyLoose p l y (headSpec ws rm) cc maxL ret e s m args below meth c s₁ → c.maxLocals = maxL → Pc args s →
      W p l e (headSpec ws rm).room s m args below meth c s.heap [] 0 0 (vx_MQ below Qc XC args s mc ms free) (entryFrame m args maxL)) : vx_Met l y ws rm Pc Qc XC mc ms free := by
  refine MetFree.of_bodyS (code := cc) (maxLocals := maxL) (ret := ret) hy ?_ ?_
  · intro args s m h hn
    obtain ⟨m9, meth, c, hn9, h1, h2, h3, h4, -, h5, h6, -⟩ := Cond.codeWith_spec (atoms_spec (ws := ws) h _ (by rw [hw]; exact List.mem_cons_self))
    cases hn.symm.trans hn9
    exact ⟨meth, c, h1, h2, h3, h4, h5, h6⟩
  · intro p e s m args below meth c s₁ B hml hP _
    have hh0 : s₁.heap = s.heap := by rw [B.state]; rfl
    obtain ⟨t, a1, o, b1, b2, b3⟩ := body p e s m args below meth c s₁ B hml hP s₁ hh0 (Stand.of_body B)
    exact ⟨t, o, a1, b1, b2, b3⟩
/-! ===== END ===== -/
end
section
/-! a world by NAMES: what lies where is told by a kind and a number; ad says at which address. No two names are one cell. A contract is told for every world that holds what the method needs; the rest of it stays as it is, by the same letter w -/
def tg_up {α : Type} (f : Nat → Nat → α) (k i : Nat) (v : α) : Nat → Nat → α := fun a b => if a = k ∧ b = i then v else f a b
theorem tg_up_self {α : Type} (f : Nat → Nat → α) (k i : Nat) (v : α) : tg_up f k i v k i = v := if_pos ⟨rfl, rfl⟩
theorem tg_up_ne {α : Type} (f : Nat → Nat → α) {k i a b : Nat} (v : α) (h : ¬ (a = k ∧ b = i)) : tg_up f k i v a b = f a b := if_neg h
/-- the cells of a world lie in H, apart, and in F -/
def tg_Y (D : va_G) (cl : List vw_C) (F : Nat → Prop) (ad : Nat → Nat → Nat) (ok : Nat → Nat → Prop) (w : Nat → Nat → va_E) (H : Heap) : Prop :=
  (∀ k i, ok k i → va_at D cl (ad k i, w k i) H) ∧ (∀ k i k' i', ok k i → ok k' i' → ad k i = ad k' i' → k = k' ∧ i = i') ∧ ∀ k i, ok k i → F (ad k i)
def tg_Z (D : va_G) (cl : List vw_C) (F : Nat → Prop) (ad : Nat → Nat → Nat) (ok : Nat → Nat → Prop) (w : Nat → Nat → va_E) (H0 H : Heap) (locs : List Loc) : Prop :=
  tg_Y D cl F ad ok w H ∧ (∀ q, H0.size ≤ q → F q) ∧ va_S F H0 H locs
section TGZ
variable {D : va_G} {cl : List vw_C} {F : Nat → Prop} {ad : Nat → Nat → Nat} {ok : Nat → Nat → Prop} {w : Nat → Nat → va_E} {H0 H H1 : Heap} {locs : List Loc}
theorem tg_Z.at_ (h : tg_Z D cl F ad ok w H0 H locs) {k i : Nat} (hk : ok k i) {x : va_E} (hx : w k i = x) : va_at D cl (ad k i, x) H := hx ▸ h.1.1 k i hk
theorem tg_Z.one (h : tg_Z D cl F ad ok w H0 H locs) {k i : Nat} (hk : ok k i) {x : va_E} (hx : w k i = x) : va_P D cl [(ad k i, x)] H := by
  intro j q hj
  cases j with
  | zero =>
    cases hj
    exact h.at_ hk hx
  | succ j => cases hj
theorem tg_Z.put {k i j : Nat} {x1 : va_E} (hZ : tg_Z D cl F ad ok w H0 H locs) (hk : ok k i) (he : va_at D cl (ad k i, x1) H1) (hs : H1.size = H.size) (oq : ∀ q : Nat, q ≠ ad k i → H1[q]? = H[q]?) : tg_Z D cl F ad ok (tg_up w k i x1) H0 H1 (locs ++ [⟨ad k i, j⟩]) := by
  obtain ⟨⟨h1, h2, h3⟩, h4, h5⟩ := hZ
  refine ⟨⟨fun a b hab => ?_, h2, h3⟩, h4, h5.put hs oq (h3 k i hk)⟩
  by_cases q : a = k ∧ b = i
  · obtain ⟨rfl, rfl⟩ := q
    rw [tg_up_self]
    exact he
  · rw [tg_up_ne _ _ q]
    exact (h1 a b hab).kept (oq _ fun e => q (h2 a b k i hab hk e))
theorem tg_Z.new (k i : Nat) {x : va_E} (hZ : tg_Z D cl F ad ok w H0 H locs) (he : va_at D cl (H.size, x) H1) (hs : H1.size = H.size + 1) (oq : ∀ q : Nat, q < H.size → H1[q]? = H[q]?) : tg_Z D cl F (tg_up ad k i H.size) (fun a b => ok a b ∨ (a = k ∧ b = i)) (tg_up w k i x) H0 H1 locs := by
  obtain ⟨⟨h1, h2, h3⟩, h4, h5⟩ := hZ
  have old : ∀ a b, ¬ (a = k ∧ b = i) → (ok a b ∨ (a = k ∧ b = i)) → ok a b := fun a b q h => h.elim id fun z => absurd z q
  refine ⟨⟨fun a b hab => ?_, fun a b a' b' hab hab' he => ?_, fun a b hab => ?_⟩, h4, Nat.le_trans h5.1 (by omega), fun q g1 g2 => (oq q (Nat.lt_of_lt_of_le g1 h5.1)).trans (h5.2.1 q g1 g2), h5.2.2⟩
  · by_cases q : a = k ∧ b = i
    · obtain ⟨rfl, rfl⟩ := q
      rw [tg_up_self, tg_up_self]
      exact he
    · rw [tg_up_ne _ _ q, tg_up_ne _ _ q]
      exact (h1 a b (old a b q hab)).kept (oq _ (h1 a b (old a b q hab)).lt)
  · by_cases q : a = k ∧ b = i
    · by_cases q' : a' = k ∧ b' = i
      · exact ⟨q.1.trans q'.1.symm, q.2.trans q'.2.symm⟩
      · obtain ⟨rfl, rfl⟩ := q
        rw [tg_up_self, tg_up_ne _ _ q'] at he
        exact absurd he.symm (Nat.ne_of_lt (h1 a' b' (old a' b' q' hab')).lt)
    · by_cases q' : a' = k ∧ b' = i
      · obtain ⟨rfl, rfl⟩ := q'
        rw [tg_up_self, tg_up_ne _ _ q] at he
        exact absurd he (Nat.ne_of_lt (h1 a b (old a b q hab)).lt)
      · rw [tg_up_ne _ _ q, tg_up_ne _ _ q'] at he
        exact h2 a b a' b' (old a b q hab) (old a' b' q' hab') he
  · by_cases q : a = k ∧ b = i
    · obtain ⟨rfl, rfl⟩ := q
      rw [tg_up_self]
      exact h4 _ h5.1
    · rw [tg_up_ne _ _ q]
      exact h3 a b (old a b q hab)
/-- the same world in other words; fewer names -/
theorem tg_Z.to {ad' : Nat → Nat → Nat} {ok' : Nat → Nat → Prop} {w' : Nat → Nat → va_E} (hZ : tg_Z D cl F ad ok w H0 H locs) (ho : ∀ k i, ok' k i → ok k i) (ha : ∀ k i, ok' k i → ad k i = ad' k i) (hw : ∀ k i, ok' k i → w k i = w' k i) : tg_Z D cl F ad' ok' w' H0 H locs := by
  obtain ⟨⟨h1, h2, h3⟩, h4, h5⟩ := hZ
  refine ⟨⟨fun k i h => ?_, fun k i k' i' h h' e => ?_, fun k i h => ?_⟩, h4, h5⟩
  · rw [← ha k i h, ← hw k i h]
    exact h1 k i (ho k i h)
  · rw [← ha k i h, ← ha k' i' h'] at e
    exact h2 k i k' i' (ho k i h) (ho k' i' h') e
  · rw [← ha k i h]
    exact h3 k i (ho k i h)
theorem tg_Z.start {s : State} (hY : tg_Y D cl F ad ok w s.heap) (hF : ∀ q, s.heap.size ≤ q → F q) : tg_Z D cl F ad ok w s.heap s.heap [] := ⟨hY, hF, va_S.rf⟩
/-- seen from the place where a call begins -/
theorem tg_Z.here (hZ : tg_Z D cl F ad ok w H0 H locs) : tg_Z D cl F ad ok w H H [] := ⟨hZ.1, fun q h => hZ.2.1 q (Nat.le_trans hZ.2.2.1 h), va_S.rf⟩
end TGZ
/-! locals by number -/
def tg_lg : List (Nat × Value) → Nat → Option Value
  | [], _ => none
  | q :: r, i => cond (Nat.beq q.1 i) (some q.2) (tg_lg r i)
theorem tg_lg_mem : ∀ {L : List (Nat × Value)} {i : Nat} {v : Value}, tg_lg L i = some v → (i, v) ∈ L
  | [], i, v, h => by cases h
  | q :: r, i, v, h => by
    cases hb : Nat.beq q.1 i with
    | true =>
      have h' : cond (Nat.beq q.1 i) (some q.2) (tg_lg r i) = some v := h
      rw [hb] at h'
      cases h'
      rw [← Nat.eq_of_beq_eq_true hb]
      exact List.mem_cons_self
    | false =>
      have h' : cond (Nat.beq q.1 i) (some q.2) (tg_lg r i) = some v := h
      rw [hb] at h'
      exact List.mem_cons_of_mem _ (tg_lg_mem h')
def tg_ls (L : List (Nat × Value)) (i : Nat) (v : Value) : List (Nat × Value) := cond (L.any (fun q => Nat.beq q.1 i)) (L.map (fun q => cond (Nat.beq q.1 i) (i, v) q)) (L ++ [(i, v)])
def tg_c1 (L : List (Nat × Value)) : Bool := L.all (fun q => Nat.beq q.2.category 1)
theorem tg_ls_mem {L : List (Nat × Value)} {i : Nat} {v : Value} {q : Nat × Value} (h : q ∈ tg_ls L i v) : q = (i, v) ∨ (q ∈ L ∧ q.1 ≠ i) := by
  unfold tg_ls at h
  cases ha : L.any (fun q => Nat.beq q.1 i) with
  | true =>
    rw [ha] at h
    obtain ⟨z, hz, e⟩ := List.mem_map.mp h
    cases hb : Nat.beq z.1 i with
    | true =>
      rw [hb] at e
      exact Or.inl e.symm
    | false =>
      rw [hb] at e
      have e' : z = q := e
      subst e'
      exact Or.inr ⟨hz, fun e => by rw [e, Nat.beq_refl] at hb; cases hb⟩
  | false =>
    rw [ha] at h
    rcases List.mem_append.mp h with h | h
    · refine Or.inr ⟨h, fun e => ?_⟩
      have hn := List.any_eq_false.mp ha q h
      rw [e, Nat.beq_refl] at hn
      exact hn rfl
    · exact Or.inl (List.mem_singleton.mp h)
theorem tg_ls_has {ls : Array Slot} {nL i : Nat} {v : Value} {L : List (Nat × Value)} (hc : tg_c1 L = true) (h : lv_has ls nL ((i, v) :: L.filter (fun q => !(q.1 == i) && !(q.1 + 1 == i && q.2.category == 2)))) : lv_has ls nL (tg_ls L i v) := by
  refine ⟨h.1, h.2.1, fun q hq => h.2.2 q ?_⟩
  rcases tg_ls_mem hq with e | ⟨h1, h2⟩
  · rw [e]
    exact List.mem_cons_self
  · refine List.mem_cons_of_mem _ (List.mem_filter.mpr ⟨h1, ?_⟩)
    have hk := Nat.eq_of_beq_eq_true (List.all_eq_true.mp hc q h1)
    simp [h2, hk]
/-! the judgement: from every heap that holds the world w, and locals L, at pc with the stack st, the machine comes to Q -/
def tg_W (p : Program) (l : Launch) (e : Env) (R : Room) (s : State) (m : MethodId) (args : Array Value) (below : List Frame) (meth : Method) (c : Code) (Q : State → Prop) (nL : Nat) (D : va_G) (cl : List vw_C) (F : Nat → Prop) (ad : Nat → Nat → Nat) (ok : Nat → Nat → Prop) (w : Nat → Nat → va_E) (L : List (Nat × Value)) (cells slots pc : Nat) (st : List Value) : Prop :=
  ∀ (H : Heap) (locs : List Loc) (ls : Array Slot), tg_Z D cl F ad ok w s.heap H locs → lv_has ls nL L → W p l e R s m args below meth c H locs cells slots Q (F0 m pc ls st)
section TGW
variable {p : Program} {l : Launch} {e : Env} {R : Room} {s : State} {m : MethodId} {args : Array Value} {below : List Frame} {meth : Method} {c : Code} {cells slots : Nat} {Q : State → Prop}
variable {cc : ByteArray} {pc nL : Nat} {st : List Value} {D : va_G} {cl : List vw_C} {tys : List (ClassId × FieldType)} {F : Nat → Prop} {ad : Nat → Nat → Nat} {ok : Nat → Nat → Prop} {w : Nat → Nat → va_E} {L : List (Nat × Value)}
theorem tg_iconst (hx : p.tables.exec = Jvm.exec) (hb : c.code = cc) {n : Int} {v : Int32} (hdg : decode cc pc = .ok (.iconst n, 1)) (hv : Int32.ofInt n = v) (kk : tg_W p l e R s m args below meth c Q nL D cl F ad ok w L cells slots (pc + 1) (.int v :: st)) : tg_W p l e R s m args below meth c Q nL D cl F ad ok w L cells slots pc st := fun H locs ls hZ h => lv_iconst hx hb hdg hv (kk H locs ls hZ h)
theorem tg_bipush (hx : p.tables.exec = Jvm.exec) (hb : c.code = cc) {n : Int} {v : Int32} (hdg : decode cc pc = .ok (.bipush n, 2)) (hv : (Int8.ofInt n).toInt32 = v) (kk : tg_W p l e R s m args below meth c Q nL D cl F ad ok w L cells slots (pc + 2) (.int v :: st)) : tg_W p l e R s m args below meth c Q nL D cl F ad ok w L cells slots pc st := fun H locs ls hZ h => lv_bipush hx hb hdg hv (kk H locs ls hZ h)
theorem tg_sipush (hx : p.tables.exec = Jvm.exec) (hb : c.code = cc) {n : Int} {v : Int32} (hdg : decode cc pc = .ok (.sipush n, 3)) (hv : (Int16.ofInt n).toInt32 = v) (kk : tg_W p l e R s m args below meth c Q nL D cl F ad ok w L cells slots (pc + 3) (.int v :: st)) : tg_W p l e R s m args below meth c Q nL D cl F ad ok w L cells slots pc st := fun H locs ls hZ h => lv_sipush hx hb hdg hv (kk H locs ls hZ h)
theorem tg_iload_n (hx : p.tables.exec = Jvm.exec) (hb : c.code = cc) {k : Fin 4} {i : Nat} {x : Int32} (hdg : decode cc pc = .ok (.iload_n k, 1)) (hi : (k : Nat) = i) (hl : tg_lg L i = some (.int x)) (kk : tg_W p l e R s m args below meth c Q nL D cl F ad ok w L cells slots (pc + 1) (.int x :: st)) : tg_W p l e R s m args below meth c Q nL D cl F ad ok w L cells slots pc st := fun H locs ls hZ h => lv_iload_n hx hb hdg hi (h.2.2 _ (tg_lg_mem hl)) (kk H locs ls hZ h)
theorem tg_iload (hx : p.tables.exec = Jvm.exec) (hb : c.code = cc) {i : Nat} {x : Int32} (hdg : decode cc pc = .ok (.iload i, 2)) (hl : tg_lg L i = some (.int x)) (kk : tg_W p l e R s m args below meth c Q nL D cl F ad ok w L cells slots (pc + 2) (.int x :: st)) : tg_W p l e R s m args below meth c Q nL D cl F ad ok w L cells slots pc st := fun H locs ls hZ h => lv_iload hx hb hdg (h.2.2 _ (tg_lg_mem hl)) (kk H locs ls hZ h)
theorem tg_aload_n (hx : p.tables.exec = Jvm.exec) (hb : c.code = cc) {k : Fin 4} {i : Nat} {x : Nat} (hdg : decode cc pc = .ok (.aload_n k, 1)) (hi : (k : Nat) = i) (hl : tg_lg L i = some (.ref x)) (kk : tg_W p l e R s m args below meth c Q nL D cl F ad ok w L cells slots (pc + 1) (.ref x :: st)) : tg_W p l e R s m args below meth c Q nL D cl F ad ok w L cells slots pc st := fun H locs ls hZ h => lv_aload_n hx hb hdg hi (h.2.2 _ (tg_lg_mem hl)) (kk H locs ls hZ h)
theorem tg_aload (hx : p.tables.exec = Jvm.exec) (hb : c.code = cc) {i : Nat} {x : Nat} (hdg : decode cc pc = .ok (.aload i, 2)) (hl : tg_lg L i = some (.ref x)) (kk : tg_W p l e R s m args below meth c Q nL D cl F ad ok w L cells slots (pc + 2) (.ref x :: st)) : tg_W p l e R s m args below meth c Q nL D cl F ad ok w L cells slots pc st := fun H locs ls hZ h => lv_aload hx hb hdg (h.2.2 _ (tg_lg_mem hl)) (kk H locs ls hZ h)
theorem tg_aload_nN (hx : p.tables.exec = Jvm.exec) (hb : c.code = cc) {k : Fin 4} {i : Nat} (hdg : decode cc pc = .ok (.aload_n k, 1)) (hi : (k : Nat) = i) (hl : tg_lg L i = some .null) (kk : tg_W p l e R s m args below meth c Q nL D cl F ad ok w L cells slots (pc + 1) (.null :: st)) : tg_W p l e R s m args below meth c Q nL D cl F ad ok w L cells slots pc st := fun H locs ls hZ h => lv_aload_nN hx hb hdg hi (h.2.2 _ (tg_lg_mem hl)) (kk H locs ls hZ h)
theorem tg_aloadN (hx : p.tables.exec = Jvm.exec) (hb : c.code = cc) {i : Nat} (hdg : decode cc pc = .ok (.aload i, 2)) (hl : tg_lg L i = some .null) (kk : tg_W p l e R s m args below meth c Q nL D cl F ad ok w L cells slots (pc + 2) (.null :: st)) : tg_W p l e R s m args below meth c Q nL D cl F ad ok w L cells slots pc st := fun H locs ls hZ h => lv_aloadN hx hb hdg (h.2.2 _ (tg_lg_mem hl)) (kk H locs ls hZ h)
theorem tg_istore_n (hx : p.tables.exec = Jvm.exec) (hb : c.code = cc) {k : Fin 4} {i : Nat} {x : Int32} {L' : List (Nat × Value)} (hdg : decode cc pc = .ok (.istore_n k, 1)) (hi : (k : Nat) = i) (hn : i < nL) (hc : tg_c1 L = true) (hl : tg_ls L i (.int x) = L') (kk : tg_W p l e R s m args below meth c Q nL D cl F ad ok w L' cells slots (pc + 1) st) : tg_W p l e R s m args below meth c Q nL D cl F ad ok w L cells slots pc ((.int x) :: st) := fun H locs ls hZ h => lv_istore_n hx hb hdg hi h hn rfl fun ls' h' => kk H locs ls' hZ (hl ▸ tg_ls_has hc h')
theorem tg_istore (hx : p.tables.exec = Jvm.exec) (hb : c.code = cc) {i : Nat} {x : Int32} {L' : List (Nat × Value)} (hdg : decode cc pc = .ok (.istore i, 2)) (hn : i < nL) (hc : tg_c1 L = true) (hl : tg_ls L i (.int x) = L') (kk : tg_W p l e R s m args below meth c Q nL D cl F ad ok w L' cells slots (pc + 2) st) : tg_W p l e R s m args below meth c Q nL D cl F ad ok w L cells slots pc ((.int x) :: st) := fun H locs ls hZ h => lv_istore hx hb hdg h hn rfl fun ls' h' => kk H locs ls' hZ (hl ▸ tg_ls_has hc h')
theorem tg_astore_n (hx : p.tables.exec = Jvm.exec) (hb : c.code = cc) {k : Fin 4} {i : Nat} {x : Nat} {L' : List (Nat × Value)} (hdg : decode cc pc = .ok (.astore_n k, 1)) (hi : (k : Nat) = i) (hn : i < nL) (hc : tg_c1 L = true) (hl : tg_ls L i (.ref x) = L') (kk : tg_W p l e R s m args below meth c Q nL D cl F ad ok w L' cells slots (pc + 1) st) : tg_W p l e R s m args below meth c Q nL D cl F ad ok w L cells slots pc ((.ref x) :: st) := fun H locs ls hZ h => lv_astore_n hx hb hdg hi h hn rfl fun ls' h' => kk H locs ls' hZ (hl ▸ tg_ls_has hc h')
theorem tg_astore (hx : p.tables.exec = Jvm.exec) (hb : c.code = cc) {i : Nat} {x : Nat} {L' : List (Nat × Value)} (hdg : decode cc pc = .ok (.astore i, 2)) (hn : i < nL) (hc : tg_c1 L = true) (hl : tg_ls L i (.ref x) = L') (kk : tg_W p l e R s m args below meth c Q nL D cl F ad ok w L' cells slots (pc + 2) st) : tg_W p l e R s m args below meth c Q nL D cl F ad ok w L cells slots pc ((.ref x) :: st) := fun H locs ls hZ h => lv_astore hx hb hdg h hn rfl fun ls' h' => kk H locs ls' hZ (hl ▸ tg_ls_has hc h')
theorem tg_astore_nN (hx : p.tables.exec = Jvm.exec) (hb : c.code = cc) {k : Fin 4} {i : Nat} {L' : List (Nat × Value)} (hdg : decode cc pc = .ok (.astore_n k, 1)) (hi : (k : Nat) = i) (hn : i < nL) (hc : tg_c1 L = true) (hl : tg_ls L i .null = L') (kk : tg_W p l e R s m args below meth c Q nL D cl F ad ok w L' cells slots (pc + 1) st) : tg_W p l e R s m args below meth c Q nL D cl F ad ok w L cells slots pc (.null :: st) := fun H locs ls hZ h => lv_astore_nN hx hb hdg hi h hn rfl fun ls' h' => kk H locs ls' hZ (hl ▸ tg_ls_has hc h')
theorem tg_astoreN (hx : p.tables.exec = Jvm.exec) (hb : c.code = cc) {i : Nat} {L' : List (Nat × Value)} (hdg : decode cc pc = .ok (.astore i, 2)) (hn : i < nL) (hc : tg_c1 L = true) (hl : tg_ls L i .null = L') (kk : tg_W p l e R s m args below meth c Q nL D cl F ad ok w L' cells slots (pc + 2) st) : tg_W p l e R s m args below meth c Q nL D cl F ad ok w L cells slots pc (.null :: st) := fun H locs ls hZ h => lv_astoreN hx hb hdg h hn rfl fun ls' h' => kk H locs ls' hZ (hl ▸ tg_ls_has hc h')
theorem tg_mem_get : ∀ {L : List (Nat × Value)} {q : Nat × Value}, q ∈ L → ∃ j : Nat, L[j]? = some q := fun h => List.getElem?_of_mem h
theorem tg_iinc (hx : p.tables.exec = Jvm.exec) (hb : c.code = cc) {i : Nat} {n : Int} {x v : Int32} {L' : List (Nat × Value)} (hdg : decode cc pc = .ok (.iinc i n, 3)) (hg : tg_lg L i = some (.int x)) (hv : x + Int32.ofInt n = v) (hn : i < nL) (hc : tg_c1 L = true) (hl : tg_ls L i (.int v) = L') (kk : tg_W p l e R s m args below meth c Q nL D cl F ad ok w L' cells slots (pc + 3) st) : tg_W p l e R s m args below meth c Q nL D cl F ad ok w L cells slots pc st := by
  obtain ⟨j, hj⟩ := tg_mem_get (tg_lg_mem hg)
  exact fun H locs ls hZ h => lv_iinc hx hb hdg h hj hv hn rfl fun ls' h' => kk H locs ls' hZ (hl ▸ tg_ls_has hc h')
theorem tg_iadd (hx : p.tables.exec = Jvm.exec) (hb : c.code = cc) {x y : Int32} (hdg : decode cc pc = .ok (.iadd, 1)) (kk : tg_W p l e R s m args below meth c Q nL D cl F ad ok w L cells slots (pc + 1) (.int (x + y) :: st)) : tg_W p l e R s m args below meth c Q nL D cl F ad ok w L cells slots pc (.int y :: .int x :: st) := fun H locs ls hZ h => lv_iadd hx hb hdg (kk H locs ls hZ h)
theorem tg_isub (hx : p.tables.exec = Jvm.exec) (hb : c.code = cc) {x y : Int32} (hdg : decode cc pc = .ok (.isub, 1)) (kk : tg_W p l e R s m args below meth c Q nL D cl F ad ok w L cells slots (pc + 1) (.int (x - y) :: st)) : tg_W p l e R s m args below meth c Q nL D cl F ad ok w L cells slots pc (.int y :: .int x :: st) := fun H locs ls hZ h => lv_isub hx hb hdg (kk H locs ls hZ h)
theorem tg_imul (hx : p.tables.exec = Jvm.exec) (hb : c.code = cc) {x y : Int32} (hdg : decode cc pc = .ok (.imul, 1)) (kk : tg_W p l e R s m args below meth c Q nL D cl F ad ok w L cells slots (pc + 1) (.int (x * y) :: st)) : tg_W p l e R s m args below meth c Q nL D cl F ad ok w L cells slots pc (.int y :: .int x :: st) := fun H locs ls hZ h => lv_imul hx hb hdg (kk H locs ls hZ h)
theorem tg_iand (hx : p.tables.exec = Jvm.exec) (hb : c.code = cc) {x y : Int32} (hdg : decode cc pc = .ok (.iand, 1)) (kk : tg_W p l e R s m args below meth c Q nL D cl F ad ok w L cells slots (pc + 1) (.int (x &&& y) :: st)) : tg_W p l e R s m args below meth c Q nL D cl F ad ok w L cells slots pc (.int y :: .int x :: st) := fun H locs ls hZ h => lv_iand hx hb hdg (kk H locs ls hZ h)
theorem tg_ior (hx : p.tables.exec = Jvm.exec) (hb : c.code = cc) {x y : Int32} (hdg : decode cc pc = .ok (.ior, 1)) (kk : tg_W p l e R s m args below meth c Q nL D cl F ad ok w L cells slots (pc + 1) (.int (x ||| y) :: st)) : tg_W p l e R s m args below meth c Q nL D cl F ad ok w L cells slots pc (.int y :: .int x :: st) := fun H locs ls hZ h => lv_ior hx hb hdg (kk H locs ls hZ h)
theorem tg_ixor (hx : p.tables.exec = Jvm.exec) (hb : c.code = cc) {x y : Int32} (hdg : decode cc pc = .ok (.ixor, 1)) (kk : tg_W p l e R s m args below meth c Q nL D cl F ad ok w L cells slots (pc + 1) (.int (x ^^^ y) :: st)) : tg_W p l e R s m args below meth c Q nL D cl F ad ok w L cells slots pc (.int y :: .int x :: st) := fun H locs ls hZ h => lv_ixor hx hb hdg (kk H locs ls hZ h)
theorem tg_idiv (hx : p.tables.exec = Jvm.exec) (hb : c.code = cc) {x y : Int32} (hdg : decode cc pc = .ok (.idiv, 1)) (hne : ¬ y = 0) (kk : tg_W p l e R s m args below meth c Q nL D cl F ad ok w L cells slots (pc + 1) (.int (x / y) :: st)) : tg_W p l e R s m args below meth c Q nL D cl F ad ok w L cells slots pc (.int y :: .int x :: st) := fun H locs ls hZ h => lv_idiv hx hb hdg hne (kk H locs ls hZ h)
theorem tg_irem (hx : p.tables.exec = Jvm.exec) (hb : c.code = cc) {x y : Int32} (hdg : decode cc pc = .ok (.irem, 1)) (hne : ¬ y = 0) (kk : tg_W p l e R s m args below meth c Q nL D cl F ad ok w L cells slots (pc + 1) (.int (x - x / y * y) :: st)) : tg_W p l e R s m args below meth c Q nL D cl F ad ok w L cells slots pc (.int y :: .int x :: st) := fun H locs ls hZ h => lv_irem hx hb hdg hne (kk H locs ls hZ h)
theorem tg_ishl (hx : p.tables.exec = Jvm.exec) (hb : c.code = cc) {x y : Int32} (hdg : decode cc pc = .ok (.ishl, 1)) (kk : tg_W p l e R s m args below meth c Q nL D cl F ad ok w L cells slots (pc + 1) (.int (x <<< (y &&& 31)) :: st)) : tg_W p l e R s m args below meth c Q nL D cl F ad ok w L cells slots pc (.int y :: .int x :: st) := fun H locs ls hZ h => lv_ishl hx hb hdg (kk H locs ls hZ h)
theorem tg_i2l (hx : p.tables.exec = Jvm.exec) (hb : c.code = cc) {x : Int32} {v : Int64} (hdg : decode cc pc = .ok (.i2l, 1)) (hv : x.toInt64 = v) (kk : tg_W p l e R s m args below meth c Q nL D cl F ad ok w L cells slots (pc + 1) (.long v :: st)) : tg_W p l e R s m args below meth c Q nL D cl F ad ok w L cells slots pc (.int x :: st) := fun H locs ls hZ h => lv_i2l hx hb hdg hv (kk H locs ls hZ h)
theorem tg_dup (hx : p.tables.exec = Jvm.exec) (hb : c.code = cc) {v : Value} (hdg : decode cc pc = .ok (.dup, 1)) (hv : v.category = 1) (kk : tg_W p l e R s m args below meth c Q nL D cl F ad ok w L cells slots (pc + 1) (v :: v :: st)) : tg_W p l e R s m args below meth c Q nL D cl F ad ok w L cells slots pc (v :: st) := fun H locs ls hZ h => lv_dup hx hb hdg hv (kk H locs ls hZ h)
theorem tg_pop (hx : p.tables.exec = Jvm.exec) (hb : c.code = cc) {v : Value} (hdg : decode cc pc = .ok (.pop, 1)) (hv : v.category = 1) (kk : tg_W p l e R s m args below meth c Q nL D cl F ad ok w L cells slots (pc + 1) st) : tg_W p l e R s m args below meth c Q nL D cl F ad ok w L cells slots pc (v :: st) := fun H locs ls hZ h => lv_pop hx hb hdg hv (kk H locs ls hZ h)
theorem tg_dup_x1 (hx : p.tables.exec = Jvm.exec) (hb : c.code = cc) {v u : Value} (hdg : decode cc pc = .ok (.dup_x1, 1)) (hv : v.category = 1) (hu : u.category = 1) (kk : tg_W p l e R s m args below meth c Q nL D cl F ad ok w L cells slots (pc + 1) (v :: u :: v :: st)) : tg_W p l e R s m args below meth c Q nL D cl F ad ok w L cells slots pc (v :: u :: st) := fun H locs ls hZ h => lv_dup_x1 hx hb hdg hv hu (kk H locs ls hZ h)
theorem tg_dup2 (hx : p.tables.exec = Jvm.exec) (hb : c.code = cc) {v u : Value} (hdg : decode cc pc = .ok (.dup2, 1)) (hv : v.category = 1) (hu : u.category = 1) (kk : tg_W p l e R s m args below meth c Q nL D cl F ad ok w L cells slots (pc + 1) (v :: u :: v :: u :: st)) : tg_W p l e R s m args below meth c Q nL D cl F ad ok w L cells slots pc (v :: u :: st) := fun H locs ls hZ h => lv_dup2_11 hx hb hdg hv hu (kk H locs ls hZ h)
theorem tg_dup_x2 (hx : p.tables.exec = Jvm.exec) (hb : c.code = cc) {v u y : Value} (hdg : decode cc pc = .ok (.dup_x2, 1)) (hv : v.category = 1) (hu : u.category = 1) (hy : y.category = 1) (kk : tg_W p l e R s m args below meth c Q nL D cl F ad ok w L cells slots (pc + 1) (v :: u :: y :: v :: st)) : tg_W p l e R s m args below meth c Q nL D cl F ad ok w L cells slots pc (v :: u :: y :: st) := fun H locs ls hZ h => lv_dup_x2 hx hb hdg hv hu hy (kk H locs ls hZ h)
theorem tg_null (hx : p.tables.exec = Jvm.exec) (hb : c.code = cc)  (hdg : decode cc pc = .ok (.aconst_null, 1)) (kk : tg_W p l e R s m args below meth c Q nL D cl F ad ok w L cells slots (pc + 1) (.null :: st)) : tg_W p l e R s m args below meth c Q nL D cl F ad ok w L cells slots pc st := fun H locs ls hZ h => lv_null hx hb hdg (kk H locs ls hZ h)
theorem tg_if_eq (hx : p.tables.exec = Jvm.exec) (hb : c.code = cc) {x : Int32} {off : Int} {tgt : Nat} (hdg : decode cc pc = .ok (.ifCond .eq off, 3)) (ht : (pc : Int) + off = (tgt : Int)) (kt : x = 0 → tg_W p l e R s m args below meth c Q nL D cl F ad ok w L cells slots tgt st) (kf : ¬ x = 0 → tg_W p l e R s m args below meth c Q nL D cl F ad ok w L cells slots (pc + 3) st) : tg_W p l e R s m args below meth c Q nL D cl F ad ok w L cells slots pc (.int x :: st) := fun H locs ls hZ h => lv_if_eq hx hb hdg ht (fun q => kt q H locs ls hZ h) (fun q => kf q H locs ls hZ h)
theorem tg_icmp_eq (hx : p.tables.exec = Jvm.exec) (hb : c.code = cc) {x y : Int32} {off : Int} {tgt : Nat} (hdg : decode cc pc = .ok (.if_icmp .eq off, 3)) (ht : (pc : Int) + off = (tgt : Int)) (kt : x = y → tg_W p l e R s m args below meth c Q nL D cl F ad ok w L cells slots tgt st) (kf : ¬ x = y → tg_W p l e R s m args below meth c Q nL D cl F ad ok w L cells slots (pc + 3) st) : tg_W p l e R s m args below meth c Q nL D cl F ad ok w L cells slots pc (.int y :: .int x :: st) := fun H locs ls hZ h => lv_icmp_eq hx hb hdg ht (fun q => kt q H locs ls hZ h) (fun q => kf q H locs ls hZ h)
theorem tg_if_ne (hx : p.tables.exec = Jvm.exec) (hb : c.code = cc) {x : Int32} {off : Int} {tgt : Nat} (hdg : decode cc pc = .ok (.ifCond .ne off, 3)) (ht : (pc : Int) + off = (tgt : Int)) (kt : ¬ x = 0 → tg_W p l e R s m args below meth c Q nL D cl F ad ok w L cells slots tgt st) (kf : x = 0 → tg_W p l e R s m args below meth c Q nL D cl F ad ok w L cells slots (pc + 3) st) : tg_W p l e R s m args below meth c Q nL D cl F ad ok w L cells slots pc (.int x :: st) := fun H locs ls hZ h => lv_if_ne hx hb hdg ht (fun q => kt q H locs ls hZ h) (fun q => kf q H locs ls hZ h)
theorem tg_icmp_ne (hx : p.tables.exec = Jvm.exec) (hb : c.code = cc) {x y : Int32} {off : Int} {tgt : Nat} (hdg : decode cc pc = .ok (.if_icmp .ne off, 3)) (ht : (pc : Int) + off = (tgt : Int)) (kt : ¬ x = y → tg_W p l e R s m args below meth c Q nL D cl F ad ok w L cells slots tgt st) (kf : x = y → tg_W p l e R s m args below meth c Q nL D cl F ad ok w L cells slots (pc + 3) st) : tg_W p l e R s m args below meth c Q nL D cl F ad ok w L cells slots pc (.int y :: .int x :: st) := fun H locs ls hZ h => lv_icmp_ne hx hb hdg ht (fun q => kt q H locs ls hZ h) (fun q => kf q H locs ls hZ h)
theorem tg_if_lt (hx : p.tables.exec = Jvm.exec) (hb : c.code = cc) {x : Int32} {off : Int} {tgt : Nat} (hdg : decode cc pc = .ok (.ifCond .lt off, 3)) (ht : (pc : Int) + off = (tgt : Int)) (kt : x < 0 → tg_W p l e R s m args below meth c Q nL D cl F ad ok w L cells slots tgt st) (kf : ¬ x < 0 → tg_W p l e R s m args below meth c Q nL D cl F ad ok w L cells slots (pc + 3) st) : tg_W p l e R s m args below meth c Q nL D cl F ad ok w L cells slots pc (.int x :: st) := fun H locs ls hZ h => lv_if_lt hx hb hdg ht (fun q => kt q H locs ls hZ h) (fun q => kf q H locs ls hZ h)
theorem tg_icmp_lt (hx : p.tables.exec = Jvm.exec) (hb : c.code = cc) {x y : Int32} {off : Int} {tgt : Nat} (hdg : decode cc pc = .ok (.if_icmp .lt off, 3)) (ht : (pc : Int) + off = (tgt : Int)) (kt : x < y → tg_W p l e R s m args below meth c Q nL D cl F ad ok w L cells slots tgt st) (kf : ¬ x < y → tg_W p l e R s m args below meth c Q nL D cl F ad ok w L cells slots (pc + 3) st) : tg_W p l e R s m args below meth c Q nL D cl F ad ok w L cells slots pc (.int y :: .int x :: st) := fun H locs ls hZ h => lv_icmp_lt hx hb hdg ht (fun q => kt q H locs ls hZ h) (fun q => kf q H locs ls hZ h)
theorem tg_if_ge (hx : p.tables.exec = Jvm.exec) (hb : c.code = cc) {x : Int32} {off : Int} {tgt : Nat} (hdg : decode cc pc = .ok (.ifCond .ge off, 3)) (ht : (pc : Int) + off = (tgt : Int)) (kt : 0 ≤ x → tg_W p l e R s m args below meth c Q nL D cl F ad ok w L cells slots tgt st) (kf : ¬ 0 ≤ x → tg_W p l e R s m args below meth c Q nL D cl F ad ok w L cells slots (pc + 3) st) : tg_W p l e R s m args below meth c Q nL D cl F ad ok w L cells slots pc (.int x :: st) := fun H locs ls hZ h => lv_if_ge hx hb hdg ht (fun q => kt q H locs ls hZ h) (fun q => kf q H locs ls hZ h)
theorem tg_icmp_ge (hx : p.tables.exec = Jvm.exec) (hb : c.code = cc) {x y : Int32} {off : Int} {tgt : Nat} (hdg : decode cc pc = .ok (.if_icmp .ge off, 3)) (ht : (pc : Int) + off = (tgt : Int)) (kt : y ≤ x → tg_W p l e R s m args below meth c Q nL D cl F ad ok w L cells slots tgt st) (kf : ¬ y ≤ x → tg_W p l e R s m args below meth c Q nL D cl F ad ok w L cells slots (pc + 3) st) : tg_W p l e R s m args below meth c Q nL D cl F ad ok w L cells slots pc (.int y :: .int x :: st) := fun H locs ls hZ h => lv_icmp_ge hx hb hdg ht (fun q => kt q H locs ls hZ h) (fun q => kf q H locs ls hZ h)
theorem tg_if_gt (hx : p.tables.exec = Jvm.exec) (hb : c.code = cc) {x : Int32} {off : Int} {tgt : Nat} (hdg : decode cc pc = .ok (.ifCond .gt off, 3)) (ht : (pc : Int) + off = (tgt : Int)) (kt : 0 < x → tg_W p l e R s m args below meth c Q nL D cl F ad ok w L cells slots tgt st) (kf : ¬ 0 < x → tg_W p l e R s m args below meth c Q nL D cl F ad ok w L cells slots (pc + 3) st) : tg_W p l e R s m args below meth c Q nL D cl F ad ok w L cells slots pc (.int x :: st) := fun H locs ls hZ h => lv_if_gt hx hb hdg ht (fun q => kt q H locs ls hZ h) (fun q => kf q H locs ls hZ h)
theorem tg_icmp_gt (hx : p.tables.exec = Jvm.exec) (hb : c.code = cc) {x y : Int32} {off : Int} {tgt : Nat} (hdg : decode cc pc = .ok (.if_icmp .gt off, 3)) (ht : (pc : Int) + off = (tgt : Int)) (kt : y < x → tg_W p l e R s m args below meth c Q nL D cl F ad ok w L cells slots tgt st) (kf : ¬ y < x → tg_W p l e R s m args below meth c Q nL D cl F ad ok w L cells slots (pc + 3) st) : tg_W p l e R s m args below meth c Q nL D cl F ad ok w L cells slots pc (.int y :: .int x :: st) := fun H locs ls hZ h => lv_icmp_gt hx hb hdg ht (fun q => kt q H locs ls hZ h) (fun q => kf q H locs ls hZ h)
theorem tg_if_le (hx : p.tables.exec = Jvm.exec) (hb : c.code = cc) {x : Int32} {off : Int} {tgt : Nat} (hdg : decode cc pc = .ok (.ifCond .le off, 3)) (ht : (pc : Int) + off = (tgt : Int)) (kt : x ≤ 0 → tg_W p l e R s m args below meth c Q nL D cl F ad ok w L cells slots tgt st) (kf : ¬ x ≤ 0 → tg_W p l e R s m args below meth c Q nL D cl F ad ok w L cells slots (pc + 3) st) : tg_W p l e R s m args below meth c Q nL D cl F ad ok w L cells slots pc (.int x :: st) := fun H locs ls hZ h => lv_if_le hx hb hdg ht (fun q => kt q H locs ls hZ h) (fun q => kf q H locs ls hZ h)
theorem tg_icmp_le (hx : p.tables.exec = Jvm.exec) (hb : c.code = cc) {x y : Int32} {off : Int} {tgt : Nat} (hdg : decode cc pc = .ok (.if_icmp .le off, 3)) (ht : (pc : Int) + off = (tgt : Int)) (kt : x ≤ y → tg_W p l e R s m args below meth c Q nL D cl F ad ok w L cells slots tgt st) (kf : ¬ x ≤ y → tg_W p l e R s m args below meth c Q nL D cl F ad ok w L cells slots (pc + 3) st) : tg_W p l e R s m args below meth c Q nL D cl F ad ok w L cells slots pc (.int y :: .int x :: st) := fun H locs ls hZ h => lv_icmp_le hx hb hdg ht (fun q => kt q H locs ls hZ h) (fun q => kf q H locs ls hZ h)
theorem tg_acmp_eq (hx : p.tables.exec = Jvm.exec) (hb : c.code = cc) {rx ry : Option Nat} {off : Int} {tgt : Nat} (hdg : decode cc pc = .ok (.if_acmp .eq off, 3)) (ht : (pc : Int) + off = (tgt : Int)) (kt : rx = ry → tg_W p l e R s m args below meth c Q nL D cl F ad ok w L cells slots tgt st) (kf : ¬ rx = ry → tg_W p l e R s m args below meth c Q nL D cl F ad ok w L cells slots (pc + 3) st) : tg_W p l e R s m args below meth c Q nL D cl F ad ok w L cells slots pc (va_rf ry :: va_rf rx :: st) := fun H locs ls hZ h => lv_acmp_eq hx hb hdg ht (fun q => kt q H locs ls hZ h) (fun q => kf q H locs ls hZ h)
theorem tg_acmp_ne (hx : p.tables.exec = Jvm.exec) (hb : c.code = cc) {rx ry : Option Nat} {off : Int} {tgt : Nat} (hdg : decode cc pc = .ok (.if_acmp .ne off, 3)) (ht : (pc : Int) + off = (tgt : Int)) (kt : ¬ rx = ry → tg_W p l e R s m args below meth c Q nL D cl F ad ok w L cells slots tgt st) (kf : rx = ry → tg_W p l e R s m args below meth c Q nL D cl F ad ok w L cells slots (pc + 3) st) : tg_W p l e R s m args below meth c Q nL D cl F ad ok w L cells slots pc (va_rf ry :: va_rf rx :: st) := fun H locs ls hZ h => lv_acmp_ne hx hb hdg ht (fun q => kt q H locs ls hZ h) (fun q => kf q H locs ls hZ h)
theorem tg_goto (hx : p.tables.exec = Jvm.exec) (hb : c.code = cc) {off : Int} {tgt : Nat} (hdg : decode cc pc = .ok (.goto off, 3)) (ht : (pc : Int) + off = (tgt : Int)) (kk : tg_W p l e R s m args below meth c Q nL D cl F ad ok w L cells slots tgt st) : tg_W p l e R s m args below meth c Q nL D cl F ad ok w L cells slots pc st := fun H locs ls hZ h => lv_goto hx hb hdg ht (kk H locs ls hZ h)
theorem tg_ifnull (hx : p.tables.exec = Jvm.exec) (hb : c.code = cc) {x : Nat} {off : Int} (hdg : decode cc pc = .ok (.ifnull off, 3)) (kk : tg_W p l e R s m args below meth c Q nL D cl F ad ok w L cells slots (pc + 3) st) : tg_W p l e R s m args below meth c Q nL D cl F ad ok w L cells slots pc (.ref x :: st) := fun H locs ls hZ h => lv_ifnull hx hb hdg (kk H locs ls hZ h)
theorem tg_ifnullN (hx : p.tables.exec = Jvm.exec) (hb : c.code = cc) {off : Int} {tgt : Nat} (hdg : decode cc pc = .ok (.ifnull off, 3)) (ht : (pc : Int) + off = (tgt : Int)) (kk : tg_W p l e R s m args below meth c Q nL D cl F ad ok w L cells slots tgt st) : tg_W p l e R s m args below meth c Q nL D cl F ad ok w L cells slots pc (.null :: st) := fun H locs ls hZ h => lv_ifnullN hx hb hdg ht (kk H locs ls hZ h)
theorem tg_ifnonnull (hx : p.tables.exec = Jvm.exec) (hb : c.code = cc) {x : Nat} {off : Int} {tgt : Nat} (hdg : decode cc pc = .ok (.ifnonnull off, 3)) (ht : (pc : Int) + off = (tgt : Int)) (kk : tg_W p l e R s m args below meth c Q nL D cl F ad ok w L cells slots tgt st) : tg_W p l e R s m args below meth c Q nL D cl F ad ok w L cells slots pc (.ref x :: st) := fun H locs ls hZ h => lv_ifnonnull hx hb hdg ht (kk H locs ls hZ h)
theorem tg_ifnonnullN (hx : p.tables.exec = Jvm.exec) (hb : c.code = cc) {off : Int} (hdg : decode cc pc = .ok (.ifnonnull off, 3)) (kk : tg_W p l e R s m args below meth c Q nL D cl F ad ok w L cells slots (pc + 3) st) : tg_W p l e R s m args below meth c Q nL D cl F ad ok w L cells slots pc (.null :: st) := fun H locs ls hZ h => lv_ifnonnullN hx hb hdg (kk H locs ls hZ h)
theorem tg_lcmp (hx : p.tables.exec = Jvm.exec) (hb : c.code = cc) {x y : Int64} (hdg : decode cc pc = .ok (.lcmp, 1)) (kk : tg_W p l e R s m args below meth c Q nL D cl F ad ok w L cells slots (pc + 1) (.int (lg_cmp x y) :: st)) : tg_W p l e R s m args below meth c Q nL D cl F ad ok w L cells slots pc (.long y :: .long x :: st) := fun H locs ls hZ h => W.lcmp hx hb hdg (kk H locs ls hZ h)
theorem tg_top {x y : Int32} (he : x = y) (kk : tg_W p l e R s m args below meth c Q nL D cl F ad ok w L cells slots pc (.int y :: st)) : tg_W p l e R s m args below meth c Q nL D cl F ad ok w L cells slots pc (.int x :: st) := he ▸ kk
theorem tg_st {st' : List Value} (he : st = st') (kk : tg_W p l e R s m args below meth c Q nL D cl F ad ok w L cells slots pc st') : tg_W p l e R s m args below meth c Q nL D cl F ad ok w L cells slots pc st := he ▸ kk
theorem tg_sub {L' : List (Nat × Value)} (hl : ∀ q ∈ L', q ∈ L) (kk : tg_W p l e R s m args below meth c Q nL D cl F ad ok w L' cells slots pc st) : tg_W p l e R s m args below meth c Q nL D cl F ad ok w L cells slots pc st := fun H locs ls hZ h => kk H locs ls hZ ⟨h.1, h.2.1, fun q hq => h.2.2 q (hl q hq)⟩
theorem tg_w {w' : Nat → Nat → va_E} (he : w = w') (kk : tg_W p l e R s m args below meth c Q nL D cl F ad ok w' L cells slots pc st) : tg_W p l e R s m args below meth c Q nL D cl F ad ok w L cells slots pc st := he ▸ kk
theorem tg_to {ad' : Nat → Nat → Nat} {ok' : Nat → Nat → Prop} {w' : Nat → Nat → va_E} (ho : ∀ k i, ok' k i → ok k i) (ha : ∀ k i, ok' k i → ad k i = ad' k i) (hw : ∀ k i, ok' k i → w k i = w' k i) (kk : tg_W p l e R s m args below meth c Q nL D cl F ad' ok' w' L cells slots pc st) : tg_W p l e R s m args below meth c Q nL D cl F ad ok w L cells slots pc st := fun H locs ls hZ h => kk H locs ls (hZ.to ho ha hw) h
theorem tg_wp {w' : Nat → Nat → va_E} (hw : ∀ k i, ok k i → w k i = w' k i) (kk : tg_W p l e R s m args below meth c Q nL D cl F ad ok w' L cells slots pc st) : tg_W p l e R s m args below meth c Q nL D cl F ad ok w L cells slots pc st := fun H locs ls hZ h => kk H locs ls (hZ.to (fun _ _ z => z) (fun _ _ _ => rfl) hw) h
theorem tg_inj (kk : (∀ k i k' i', ok k i → ok k' i' → ad k i = ad k' i' → k = k' ∧ i = i') → tg_W p l e R s m args below meth c Q nL D cl F ad ok w L cells slots pc st) : tg_W p l e R s m args below meth c Q nL D cl F ad ok w L cells slots pc st := fun H locs ls hZ h => kk hZ.1.2.1 H locs ls hZ h
theorem tg_widen {k n : Nat} (h1 : cells ≤ k) (h2 : slots ≤ n) (kk : tg_W p l e R s m args below meth c Q nL D cl F ad ok w L k n pc st) : tg_W p l e R s m args below meth c Q nL D cl F ad ok w L cells slots pc st := fun H locs ls hZ h => W.widen h1 h2 (kk H locs ls hZ h)
theorem tg_get (hx : p.tables.exec = Jvm.exec) (hb : c.code = cc) {own ref C : String} {T : u_T} {N ci index k i : Nat} {Ts : List Cond} (hts : ∀ w ∈ Ts, w.before args s = true) (hin : ∀ w ∈ u_ws C T N, w ∈ Ts) (hown : s.vm.findClass own = some m.cls) (hK : va_K D cl tys s) (hk : ok k i) {fs : List Value} (he : w k i = .inr (ci, fs)) (hc : cl[ci]? = some (C, T, N)) (j : Nat) (hj : j < N) (hlink : (Cond.fieldLink own index ref (T j).2.1 (T j).2.2.1).before args s = true) (hsame : ∀ x, s.fieldFound? (T j).1 (T j).2.1 (T j).2.2.1 = some x → s.fieldFound? ref (T j).2.1 (T j).2.2.1 = some x) {v : Value} (hv : fs[j]? = some v) (hdg : decode cc pc = .ok (.getfield index, 3)) (kk : tg_W p l e R s m args below meth c Q nL D cl F ad ok w L cells slots (pc + 3) (v :: st)) : tg_W p l e R s m args below meth c Q nL D cl F ad ok w L cells slots pc (.ref (ad k i) :: st) :=
  fun H locs ls hZ h => va_get hx hb hts hin hown hK (hZ.one hk he) 0 rfl hc j hj hlink hsame hv hdg (kk H locs ls hZ h)
theorem tg_put (hx : p.tables.exec = Jvm.exec) (hb : c.code = cc) {own ref C : String} {T : u_T} {N ci index k i : Nat} {Ts : List Cond} (hts : ∀ w ∈ Ts, w.before args s = true) (hin : ∀ w ∈ u_ws C T N, w ∈ Ts) (ty0 : Nat → FieldType) (hty : ∀ k, k < N → parseFieldDescriptor (T k).2.2.1 = some (ty0 k)) (hnm : ∀ a, a < N → ∀ b, b < N → a ≠ b → (T a).2.1 ≠ (T b).2.1) (hown : s.vm.findClass own = some m.cls) (hK : va_K D cl tys s) (hk : ok k i) {fs : List Value} (he : w k i = .inr (ci, fs)) (hc : cl[ci]? = some (C, T, N)) (j : Nat) (hj : j < N) (hlink : (Cond.fieldLink own index ref (T j).2.1 (T j).2.2.1).before args s = true) (hsame : ∀ x, s.fieldFound? (T j).1 (T j).2.1 (T j).2.2.1 = some x → s.fieldFound? ref (T j).2.1 (T j).2.2.1 = some x) (hfin : (T j).2.2.2 = false) {ty : FieldType} {v : Value} (hd : parseFieldDescriptor (T j).2.2.1 = some ty) (hn : narrow ty v = v) (hfit : fits ty v = true) (hl : j < fs.length) (hdg : decode cc pc = .ok (.putfield index, 3)) (kk : tg_W p l e R s m args below meth c Q nL D cl F ad ok (tg_up w k i (.inr (ci, fs.set j v))) L cells slots (pc + 3) st) : tg_W p l e R s m args below meth c Q nL D cl F ad ok w L cells slots pc (v :: .ref (ad k i) :: st) := by
  intro H locs ls hZ h
  have hap := va_apart (own := own) hts hin ty0 hty hnm hK hc
  obtain ⟨r, h1, cell, q1, q2, q3, q4⟩ := hZ.at_ hk he
  have hr : r = (C, T, N) := Option.some.inj (h1.symm.trans hc)
  subst hr
  obtain ⟨hS, hfc, kC, hkC, hkind⟩ := hK.1 ci _ hc
  obtain ⟨cf, kf, fi, f, hi, hsl⟩ := hS j hj
  have hlay := hts _ (hin _ (u_in_lay hj))
  unfold u_lay at hlay
  rw [if_neg (by rw [hfin]; decide)] at hlay
  have hst := (u_facts hfc hkC (u_lays hts hin hj) hi).1
  have h6 := u_store hfc hkC hkind hlay hi hd hn hfit
  refine W.putK hx hb (f := f) ⟨hown, hlink, ⟨_, _, _, hsame _ hi⟩, hst⟩ (by rw [q2]; exact h6) q1 q3 (by rw [hsl]; exact k2_hasslot (q4 j hj)) rfl rfl hdg fun H' e1 e2 e3 => ?_
  rw [hsl] at e1 ⊢
  exact kk H' _ ls (hZ.put hk ⟨_, hc, t_OB.to (V := updV (vp_V fs) j v) ⟨_, e1, q2, q3, t_set q4 hap hj v⟩ (fun a _ => vp_updV_set hl v a)⟩ e2 e3) h
theorem tg_putF (hx : p.tables.exec = Jvm.exec) (hb : c.code = cc) {own ref C : String} {T : u_T} {N ci index k i : Nat} {Ts : List Cond} (hts : ∀ w ∈ Ts, w.before args s = true) (hin : ∀ w ∈ u_ws C T N, w ∈ Ts) (ty0 : Nat → FieldType) (hty : ∀ k, k < N → parseFieldDescriptor (T k).2.2.1 = some (ty0 k)) (hnm : ∀ a, a < N → ∀ b, b < N → a ≠ b → (T a).2.1 ≠ (T b).2.1) (hown : s.vm.findClass own = some m.cls) (hK : va_K D cl tys s) (hk : ok k i) {fs : List Value} (he : w k i = .inr (ci, fs)) (hc : cl[ci]? = some (C, T, N)) (j : Nat) (hj : j < N) (hlink : (Cond.fieldLink own index ref (T j).2.1 (T j).2.2.1).before args s = true) (hsame : ∀ x, s.fieldFound? (T j).1 (T j).2.1 (T j).2.2.1 = some x → s.fieldFound? ref (T j).2.1 (T j).2.2.1 = some x) (hfin : (T j).2.2.2 = true) (hin2 : meth.name = "<init>") (hdecl : (T j).1 = own) {ty : FieldType} {v : Value} (hd : parseFieldDescriptor (T j).2.2.1 = some ty) (hn : narrow ty v = v) (hfit : fits ty v = true) (hl : j < fs.length) (hdg : decode cc pc = .ok (.putfield index, 3)) (kk : tg_W p l e R s m args below meth c Q nL D cl F ad ok (tg_up w k i (.inr (ci, fs.set j v))) L cells slots (pc + 3) st) : tg_W p l e R s m args below meth c Q nL D cl F ad ok w L cells slots pc (v :: .ref (ad k i) :: st) := by
  intro H locs ls hZ h
  have hap := va_apart (own := own) hts hin ty0 hty hnm hK hc
  obtain ⟨r, h1, cell, q1, q2, q3, q4⟩ := hZ.at_ hk he
  have hr : r = (C, T, N) := Option.some.inj (h1.symm.trans hc)
  subst hr
  obtain ⟨hS, hfc, kC, hkC, hkind⟩ := hK.1 ci _ hc
  obtain ⟨cf, kf, fi, f, hi, hsl⟩ := hS j hj
  have hlay := hts _ (hin _ (u_in_lay hj))
  unfold u_lay at hlay
  rw [if_pos hfin] at hlay
  have hst := (u_facts hfc hkC (u_lays hts hin hj) hi).1
  have hcf : m.cls = cf := by
    obtain ⟨_, _, c', _, _, _, -, -, hf', -, -, -, hown2, -⟩ := Cond.laysFinal_spec hlay
    have e1 : c' = cf := by have := hi.symm.trans hf'; simp at this; exact this.1.symm
    rw [hdecl] at hown2
    rw [← e1]
    exact Option.some.inj (hown.symm.trans hown2)
  have h6 := u_fits hfc hkC hkind (Or.inr hlay) hi hd hn hfit
  refine W.putFinK hx hb hown hlink (hsame _ hi) hst hcf hin2 (by rw [q2]; exact h6) q1 q3 (by rw [hsl]; exact k2_hasslot (q4 j hj)) rfl rfl hdg fun H' e1 e2 e3 => ?_
  rw [hsl] at e1 ⊢
  exact kk H' _ ls (hZ.put hk ⟨_, hc, t_OB.to (V := updV (vp_V fs) j v) ⟨_, e1, q2, q3, t_set q4 hap hj v⟩ (fun a _ => vp_updV_set hl v a)⟩ e2 e3) h
theorem tg_iald (hx : p.tables.exec = Jvm.exec) (hb : c.code = cc) {k i t0 : Nat} (hK : va_K D cl tys s) (hk : ok k i) {cA : ClassId} {n : Nat} {f : Nat → Int32} (ha : w k i = .inl (cA, n, .inl f)) (ht : tys[t0]? = some (cA, .int)) {x : Nat} (hn : n < 2 ^ 31) (hin : x < n) (hdg : decode cc pc = .ok (.iaload, 1)) (kk : tg_W p l e R s m args below meth c Q nL D cl F ad ok w L cells slots (pc + 1) (.int (f x) :: st)) : tg_W p l e R s m args below meth c Q nL D cl F ad ok w L cells slots pc (.int (nI x) :: .ref (ad k i) :: st) := by
  intro H locs ls hZ h
  refine va_iald hx hb hK (hZ.one hk ha) 0 t0 rfl ht (vp_in_nI hin hn) hdg ?_
  rw [nI_clamp (Nat.lt_trans hin hn)]
  exact kk H locs ls hZ h
theorem tg_zald (hx : p.tables.exec = Jvm.exec) (hb : c.code = cc) {k i t0 : Nat} (hK : va_K D cl tys s) (hk : ok k i) {cA : ClassId} {n : Nat} {f : Nat → Int32} (ha : w k i = .inl (cA, n, .inl f)) (ht : tys[t0]? = some (cA, .boolean)) {x : Nat} (hn : n < 2 ^ 31) (hin : x < n) (hdg : decode cc pc = .ok (.baload, 1)) (kk : tg_W p l e R s m args below meth c Q nL D cl F ad ok w L cells slots (pc + 1) (.int (f x) :: st)) : tg_W p l e R s m args below meth c Q nL D cl F ad ok w L cells slots pc (.int (nI x) :: .ref (ad k i) :: st) := by
  intro H locs ls hZ h
  refine va_zald hx hb hK (hZ.one hk ha) 0 t0 rfl ht (vp_in_nI hin hn) hdg ?_
  rw [nI_clamp (Nat.lt_trans hin hn)]
  exact kk H locs ls hZ h
theorem tg_lald (hx : p.tables.exec = Jvm.exec) (hb : c.code = cc) {k i t0 : Nat} (hK : va_K D cl tys s) (hk : ok k i) {cA : ClassId} {n : Nat} {f : Nat → Int64} (ha : w k i = .inl (cA, n, .inr (.inl f))) (ht : tys[t0]? = some (cA, .long)) {x : Nat} (hn : n < 2 ^ 31) (hin : x < n) (hdg : decode cc pc = .ok (.laload, 1)) (kk : tg_W p l e R s m args below meth c Q nL D cl F ad ok w L cells slots (pc + 1) (.long (f x) :: st)) : tg_W p l e R s m args below meth c Q nL D cl F ad ok w L cells slots pc (.int (nI x) :: .ref (ad k i) :: st) := by
  intro H locs ls hZ h
  refine va_lald hx hb hK (hZ.one hk ha) 0 t0 rfl ht (vp_in_nI hin hn) hdg ?_
  rw [nI_clamp (Nat.lt_trans hin hn)]
  exact kk H locs ls hZ h
theorem tg_aald (hx : p.tables.exec = Jvm.exec) (hb : c.code = cc) {k i t0 : Nat} (hK : va_K D cl tys s) (hk : ok k i) {cA : ClassId} {n : Nat} {C : String} {f : Nat → Option Nat} (ha : w k i = .inl (cA, n, .inr (.inr (.inr (.inr f))))) (ht : tys[t0]? = some (cA, .object C)) {x : Nat} (hn : n < 2 ^ 31) (hin : x < n) (hdg : decode cc pc = .ok (.aaload, 1)) (kk : tg_W p l e R s m args below meth c Q nL D cl F ad ok w L cells slots (pc + 1) (va_rf (f x) :: st)) : tg_W p l e R s m args below meth c Q nL D cl F ad ok w L cells slots pc (.int (nI x) :: .ref (ad k i) :: st) := by
  intro H locs ls hZ h
  refine va_aldq hx hb hK (hZ.one hk ha) 0 t0 rfl ht (vp_in_nI hin hn) hdg ?_
  rw [nI_clamp (Nat.lt_trans hin hn)]
  exact kk H locs ls hZ h
theorem tg_aaldA (hx : p.tables.exec = Jvm.exec) (hb : c.code = cc) {k i t0 : Nat} (hK : va_K D cl tys s) (hk : ok k i) {cA : ClassId} {n : Nat} {f : Nat → Option Nat} {ty : FieldType} (ha : w k i = .inl (cA, n, .inr (.inr (.inr (.inr f))))) (ht : tys[t0]? = some (cA, ty)) (hty : ty.isReference = true) {x : Nat} (hn : n < 2 ^ 31) (hin : x < n) (hdg : decode cc pc = .ok (.aaload, 1)) (kk : tg_W p l e R s m args below meth c Q nL D cl F ad ok w L cells slots (pc + 1) (va_rf (f x) :: st)) : tg_W p l e R s m args below meth c Q nL D cl F ad ok w L cells slots pc (.int (nI x) :: .ref (ad k i) :: st) := by
  intro H locs ls hZ h
  have hcl := nI_clamp (Nat.lt_trans hin hn)
  refine W.aald (v := va_rf (f x)) (ty := ty) hx hb (hZ.at_ hk ha) ((hK.2 t0 _ ht).1 n (fun j => va_rf (f j))) hty (fun q => by cases q) (by show ¬ (nI x < 0 ∨ (arrV _ _ _).slots.size ≤ _); rw [arrV_size]; exact vp_in_nI hin hn) (by show (arrV _ _ _).slots[_]? = _; rw [hcl, arrV_read _ _ hin]) rfl rfl hdg (kk H locs ls hZ h)
theorem tg_iast (hx : p.tables.exec = Jvm.exec) (hb : c.code = cc) {k i t0 : Nat} (hK : va_K D cl tys s) (hk : ok k i) {cA : ClassId} {n : Nat} {f : Nat → Int32} (ha : w k i = .inl (cA, n, .inl f)) (ht : tys[t0]? = some (cA, .int)) {x : Nat} {v : Int32} (hn : n < 2 ^ 31) (hin : x < n) (hdg : decode cc pc = .ok (.iastore, 1)) (kk : tg_W p l e R s m args below meth c Q nL D cl F ad ok (tg_up w k i (.inl (cA, n, .inl (upd f x v)))) L cells slots (pc + 1) st) : tg_W p l e R s m args below meth c Q nL D cl F ad ok w L cells slots pc (.int v :: .int (nI x) :: .ref (ad k i) :: st) := by
  intro H locs ls hZ h
  have hcl := nI_clamp (Nat.lt_trans hin hn)
  refine W.iast hx hb (hZ.at_ hk ha) ((hK.2 t0 _ ht).1 n (fun j => .int (f j)))  (fun q => by cases q) (by show ¬ (nI x < 0 ∨ (arrV _ _ _).slots.size ≤ _); rw [arrV_size]; exact vp_in_nI hin hn) rfl rfl hdg fun H1 e1 e2 e3 => ?_
  refine kk H1 _ ls (hZ.put hk ?_ e2 e3) h
  show H1[ad k i]? = some (vp_cell _ _)
  rw [e1, vp_cell_i, vp_cell_i, arrV_store, hcl]
  congr 2
  funext q
  by_cases hq : q = x
  · subst hq
    simp [updV, upd]
  · simp [updV, upd, hq]
theorem tg_last (hx : p.tables.exec = Jvm.exec) (hb : c.code = cc) {k i t0 : Nat} (hK : va_K D cl tys s) (hk : ok k i) {cA : ClassId} {n : Nat} {f : Nat → Int64} (ha : w k i = .inl (cA, n, .inr (.inl f))) (ht : tys[t0]? = some (cA, .long)) {x : Nat} {v : Int64} (hn : n < 2 ^ 31) (hin : x < n) (hdg : decode cc pc = .ok (.lastore, 1)) (kk : tg_W p l e R s m args below meth c Q nL D cl F ad ok (tg_up w k i (.inl (cA, n, .inr (.inl (vp_updL f x v))))) L cells slots (pc + 1) st) : tg_W p l e R s m args below meth c Q nL D cl F ad ok w L cells slots pc (.long v :: .int (nI x) :: .ref (ad k i) :: st) := by
  intro H locs ls hZ h
  have hcl := nI_clamp (Nat.lt_trans hin hn)
  refine W.last hx hb (hZ.at_ hk ha) ((hK.2 t0 _ ht).1 n (fun j => .long (f j)))  (fun q => by cases q) (by show ¬ (nI x < 0 ∨ (arrV _ _ _).slots.size ≤ _); rw [arrV_size]; exact vp_in_nI hin hn) rfl rfl hdg fun H1 e1 e2 e3 => ?_
  refine kk H1 _ ls (hZ.put hk ?_ e2 e3) h
  show H1[ad k i]? = some (vp_cell _ _)
  rw [e1, vp_cell_l, vp_cell_l, arrV_store, hcl]
  congr 2
  funext q
  by_cases hq : q = x
  · subst hq
    simp [updV, vp_updL]
  · simp [updV, vp_updL, hq]
theorem tg_zast (hx : p.tables.exec = Jvm.exec) (hb : c.code = cc) {k i t0 : Nat} (hK : va_K D cl tys s) (hk : ok k i) {cA : ClassId} {n : Nat} {f : Nat → Int32} (ha : w k i = .inl (cA, n, .inl f)) (ht : tys[t0]? = some (cA, .boolean)) {x : Nat} {v : Int32} (hv : vp_nar .boolean v = v) (hn : n < 2 ^ 31) (hin : x < n) (hdg : decode cc pc = .ok (.bastore, 1)) (kk : tg_W p l e R s m args below meth c Q nL D cl F ad ok (tg_up w k i (.inl (cA, n, .inl (upd f x v)))) L cells slots (pc + 1) st) : tg_W p l e R s m args below meth c Q nL D cl F ad ok w L cells slots pc (.int v :: .int (nI x) :: .ref (ad k i) :: st) := by
  intro H locs ls hZ h
  have hcl := nI_clamp (Nat.lt_trans hin hn)
  refine W.zast hx hb (hZ.at_ hk ha) ((hK.2 t0 _ ht).1 n (fun j => .int (f j))) (fun q => by cases q) (by show ¬ (nI x < 0 ∨ (arrV _ _ _).slots.size ≤ _); rw [arrV_size]; exact vp_in_nI hin hn) rfl rfl hdg fun H1 e1 e2 e3 => ?_
  refine kk H1 _ ls (hZ.put hk ?_ e2 e3) h
  show H1[ad k i]? = some (vp_cell _ _)
  rw [e1, vp_cell_i, vp_cell_i, arrV_store, hcl]
  congr 2
  funext q
  by_cases hq : q = x
  · subst hq
    have hv' : Value.int (vp_nar .boolean v) = .int v := by rw [hv]
    simp only [updV, upd, if_pos]
    exact hv'
  · simp [updV, upd, hq]
theorem tg_aast (hx : p.tables.exec = Jvm.exec) (hb : c.code = cc) {k i t0 : Nat} (hK : va_K D cl tys s) (hk : ok k i) {cA : ClassId} {n : Nat} {k' i' ci : Nat} {r : vw_C} {vs : List Value} {f : Nat → Option Nat} (ha : w k i = .inl (cA, n, .inr (.inr (.inr (.inr f))))) (ht : tys[t0]? = some (cA, .object r.1)) (hk' : ok k' i') (hv : w k' i' = .inr (ci, vs)) (hc : cl[ci]? = some r) {x : Nat} (hn : n < 2 ^ 31) (hin : x < n) (hdg : decode cc pc = .ok (.aastore, 1)) (kk : tg_W p l e R s m args below meth c Q nL D cl F ad ok (tg_up w k i (.inl (cA, n, .inr (.inr (.inr (.inr (va_up f x (some (ad k' i'))))))))) L cells slots (pc + 1) st) : tg_W p l e R s m args below meth c Q nL D cl F ad ok w L cells slots pc (.ref (ad k' i') :: .int (nI x) :: .ref (ad k i) :: st) := by
  intro H locs ls hZ h
  have hcx := nI_clamp (Nat.lt_trans hin hn)
  have hi := vp_in_nI hin hn
  obtain ⟨r', hr', cellV, g1, g2, g3, -⟩ := hZ.at_ hk' hv
  have hcls := (hK.1 ci r hc).2
  obtain ⟨kA, comp, k1, k2, k3, -⟩ := (hK.2 t0 _ ht).2
  have hcomp : comp = D.1 ci := Option.some.inj (k3.symm.trans hcls.1)
  subst hcomp
  obtain ⟨kC, hkC, -⟩ := hcls.2
  refine W.aast hx hb (hZ.at_ hk ha) (fun q h => by cases h) (fun h => by cases h) k1 k2 rfl hkC ⟨fun q => hi (Or.inl q), by show _ < (arrV _ _ _).slots.size; rw [arrV_size]; exact Nat.not_le.mp fun q => hi (Or.inr q)⟩ g1 (fun q h => by rw [g3] at h; cases h) (by rw [g2]; exact hkC) (by rw [g2]; exact va_assign hcls) rfl rfl hdg fun H1 e1 e2 e3 => ?_
  refine kk H1 _ ls (hZ.put hk ?_ e2 e3) h
  show H1[ad k i]? = some (vp_cell _ _)
  rw [e1, vp_cell_q, vp_cell_q, arrV_store, hcx]
  congr 2
  funext q
  by_cases hq : q = x
  · subst hq
    simp [updV, va_up, va_rf]
  · simp [updV, va_up, hq]
theorem tg_aastN (hx : p.tables.exec = Jvm.exec) (hb : c.code = cc) {k i t0 : Nat} (hK : va_K D cl tys s) (hk : ok k i) {cA : ClassId} {n : Nat} {C : String} {f : Nat → Option Nat} (ha : w k i = .inl (cA, n, .inr (.inr (.inr (.inr f))))) (ht : tys[t0]? = some (cA, .object C)) {x : Nat} (hn : n < 2 ^ 31) (hin : x < n) (hdg : decode cc pc = .ok (.aastore, 1)) (kk : tg_W p l e R s m args below meth c Q nL D cl F ad ok (tg_up w k i (.inl (cA, n, .inr (.inr (.inr (.inr (va_up f x none))))))) L cells slots (pc + 1) st) : tg_W p l e R s m args below meth c Q nL D cl F ad ok w L cells slots pc (.null :: .int (nI x) :: .ref (ad k i) :: st) := by
  intro H locs ls hZ h
  have hcx := nI_clamp (Nat.lt_trans hin hn)
  refine va_WaastN (C := C) hx hb (hZ.at_ hk ha) ((hK.2 t0 _ ht).1 n (fun j => va_rf (f j))) (fun h => by cases h) (by show ¬ (nI x < 0 ∨ (arrV _ _ _).slots.size ≤ _); rw [arrV_size]; exact vp_in_nI hin hn) rfl rfl hdg fun H1 e1 e2 e3 => ?_
  refine kk H1 _ ls (hZ.put hk ?_ e2 e3) h
  show H1[ad k i]? = some (vp_cell _ _)
  rw [e1, vp_cell_q, vp_cell_q, arrV_store, hcx]
  congr 2
  funext q
  by_cases hq : q = x
  · subst hq
    simp [updV, va_up, va_rf]
  · simp [updV, va_up, hq]
theorem tg_new (hx : p.tables.exec = Jvm.exec) (hb : c.code = cc) (k i : Nat) {own C : String} {T : u_T} {N ci index : Nat} {Ts : List Cond} (hts : ∀ w ∈ Ts, w.before args s = true) (hin : ∀ w ∈ u_ws C T N, w ∈ Ts) (ty : Nat → FieldType) (hty : ∀ k, k < N → parseFieldDescriptor (T k).2.2.1 = some (ty k)) (hown : s.vm.findClass own = some m.cls) (hcl : (Cond.classLink own index C).before args s = true) (hinst : (Cond.instantiable C N).before args s = true) (hini : (Cond.initialized C).before args s = true)
    (hK : va_K D cl tys s) (hc : cl[ci]? = some (C, T, N)) {fs : List Value} (hfs : ∀ j, j < N → defaultValue (ty j) = vp_V fs j) (hcells : cells + 1 ≤ R.cells) (hslots : slots + N ≤ R.slots) (hdg : decode cc pc = .ok (.new index, 3))
    (kk : ∀ q : Nat, tg_W p l e R s m args below meth c Q nL D cl F (tg_up ad k i q) (fun a b => ok a b ∨ (a = k ∧ b = i)) (tg_up w k i (.inr (ci, fs))) L (cells + 1) (slots + N) (pc + 3) (.ref q :: st)) : tg_W p l e R s m args below meth c Q nL D cl F ad ok w L cells slots pc st := by
  intro H locs ls hZ h
  have hKn := hK.1 ci _ hc
  refine W.newcK hx hb hown hcl hinst hini rfl hdg hcells hslots hKn.2.1 rfl fun H1 kC hkC e1 z1 o1 => ?_
  exact kk H.size H1 locs ls (hZ.new k i ⟨_, hc, (u_born ty hts hin hKn hkC e1 hty).to hfs⟩ z1 o1) h
theorem tg_newa (hx : p.tables.exec = Jvm.exec) (hb : c.code = cc) (k i : Nat) {atype : ArrayType} (harr : (Cond.arrayClass (newarray.typeOf atype)).before args s = true) {ty : FieldType} (hty : newarray.typeOf atype = ty) {cA : ClassId} (hpr : s.vm.findClass ("[" ++ ty.toString) = some cA)
    {n : Int32} {N' : Nat} {a0 : vp_A} (ha : ∀ cA : ClassId, vp_cell cA a0 = arrV cA N' (fun _ => defaultValue ty)) (hn : ¬ n < 0) (hN : n.toNatClampNeg = N') (hbytes : N' * componentBytes ty ≤ 536870912) (hcells : cells + 1 ≤ R.cells) (hslots : slots + N' ≤ R.slots) (hdg : decode cc pc = .ok (.newarray atype, 2))
    (kk : ∀ q : Nat, tg_W p l e R s m args below meth c Q nL D cl F (tg_up ad k i q) (fun a b => ok a b ∨ (a = k ∧ b = i)) (tg_up w k i (.inl (cA, a0))) L (cells + 1) (slots + N') (pc + 2) (.ref q :: st)) : tg_W p l e R s m args below meth c Q nL D cl F ad ok w L cells slots pc (.int n :: st) := by
  intro H locs ls hZ h
  subst hty
  refine va_newaK hx hb harr rfl hdg rfl hn hN hbytes hcells hslots rfl fun H1 cB e1 z1 o1 hAr hNm => ?_
  have hcB : cB = cA := Option.some.inj (hNm.symm.trans hpr)
  subst hcB
  exact kk H.size H1 locs ls (hZ.new k i (x := .inl (cB, a0)) (by show H1[H.size]? = some (vp_cell _ _); rw [ha]; exact e1) z1 o1) h
theorem tg_anew (hx : p.tables.exec = Jvm.exec) (hb : c.code = cc) (k i : Nat) {own C : String} {index t0 : Nat} (hown : s.vm.findClass own = some m.cls) (hclink : (Cond.classLink own index C).before args s = true) (hover : (Cond.arrayOver (.object C)).before args s = true) (hK : va_K D cl tys s) {cA : ClassId} (ht : tys[t0]? = some (cA, .object C))
    {n : Int32} {N' : Nat} (hn : ¬ n < 0) (hN : n.toNatClampNeg = N') (hbytes : N' * 4 ≤ 536870912) (hcells : cells + 1 ≤ R.cells) (hslots : slots + N' ≤ R.slots) (hdg : decode cc pc = .ok (.anewarray index, 3))
    (kk : ∀ q : Nat, tg_W p l e R s m args below meth c Q nL D cl F (tg_up ad k i q) (fun a b => ok a b ∨ (a = k ∧ b = i)) (tg_up w k i (.inl (cA, N', .inr (.inr (.inr (.inr fun _ => none)))))) L (cells + 1) (slots + N') (pc + 3) (.ref q :: st)) : tg_W p l e R s m args below meth c Q nL D cl F ad ok w L cells slots pc (.int n :: st) := by
  intro H locs ls hZ h
  subst hN
  refine W.anew hx hb hown hclink hover rfl hdg rfl hn hbytes hcells hslots fun cB kA comp h1 h2 h3 h4 => ?_
  obtain ⟨kA', comp', k1, k2, k3, k4⟩ := (hK.2 t0 _ ht).2
  have hcB : cB = cA := Option.some.inj (h1.symm.trans k4)
  subst hcB
  refine kk H.size _ locs ls (hZ.new k i ?_ (by simp) (fun q hq => by rw [Array.getElem?_push, if_neg (Nat.ne_of_lt hq)])) h
  show (H.push _)[H.size]? = some (vp_cell _ _)
  rw [vp_cell_q]
  show _ = some (arrV cB n.toNatClampNeg (fun _ => Value.null))
  rw [← arrV_new]
  simp
theorem tg_mmax (hx : p.tables.exec = Jvm.exec) (hb : c.code = cc) (hml : c.maxLocals = nL) {own : String} {index : Nat} (hown : s.vm.findClass own = some m.cls) (hlink : (Cond.methodLink own index Lib.Math.max.name).before args s = true) (hstat : (Cond.static Lib.Math.max.name).before args s = true) (hini : (Cond.initialized "java/lang/Math").before args s = true) (hcode : (Cond.code Lib.Math.max.name Lib.Math.max.code 2 (some .int)).before args s = true) (hframes : 1 ≤ R.frames) (hlocals : (st.map fun v => v.category).sum + 13 ≤ R.locals) (hc : cells ≤ R.cells) (hs : slots ≤ R.slots) {x y : Int32} (hdg : decode cc pc = .ok (.invokestatic index, 3)) (kk : tg_W p l e R s m args below meth c Q nL D cl F ad ok w L cells slots (pc + 3) (.int (if x < y then y else x) :: st)) : tg_W p l e R s m args below meth c Q nL D cl F ad ok w L cells slots pc (.int y :: .int x :: st) :=
  fun H locs ls hZ h => va_mmax hx hb (hml.trans h.1.symm) hown hlink hstat hini hcode hframes hlocals hc hs hdg (kk H locs ls hZ h)
theorem tg_mmin (hx : p.tables.exec = Jvm.exec) (hb : c.code = cc) (hml : c.maxLocals = nL) {own : String} {index : Nat} (hown : s.vm.findClass own = some m.cls) (hlink : (Cond.methodLink own index Lib.Math.min.name).before args s = true) (hstat : (Cond.static Lib.Math.min.name).before args s = true) (hini : (Cond.initialized "java/lang/Math").before args s = true) (hcode : (Cond.code Lib.Math.min.name Lib.Math.min.code 2 (some .int)).before args s = true) (hframes : 1 ≤ R.frames) (hlocals : (st.map fun v => v.category).sum + 13 ≤ R.locals) (hc : cells ≤ R.cells) (hs : slots ≤ R.slots) {x y : Int32} (hdg : decode cc pc = .ok (.invokestatic index, 3)) (kk : tg_W p l e R s m args below meth c Q nL D cl F ad ok w L cells slots (pc + 3) (.int (if y < x then y else x) :: st)) : tg_W p l e R s m args below meth c Q nL D cl F ad ok w L cells slots pc (.int y :: .int x :: st) :=
  fun H locs ls hZ h => va_mmin hx hb (hml.trans h.1.symm) hown hlink hstat hini hcode hframes hlocals hc hs hdg (kk H locs ls hZ h)
end TGW
theorem tg_loop {σ : Type} (I : σ → Prop) (μ : σ → Nat) (G : σ → Prop) (hs : ∀ x, I x → (∀ y, I y → μ y < μ x → G y) → G x) : ∀ x, I x → G x := by
  have key : ∀ (n : Nat) (x : σ), μ x < n → I x → G x := by
    intro n
    induction n with
    | zero => intro x h; omega
    | succ n ih => exact fun x h hI => hs x hI fun y hy hlt => ih y (by omega) hy
  exact fun x hI => key (μ x + 1) x (by omega) hI
/-! contracts over such worlds. Nn: what else is known of the tables and of old cells (texts, links between nest mates); it outlives what is written in F -/
def tg_Mv (F : Nat → Prop) (Nn : State → Heap → Prop) : Prop := (∀ (u U : State) (H : Heap), u.WarmedH U.vm → Nn u H → Nn U H) ∧ (∀ (u U : State) (H : Heap), u.vm = U.vm → Nn u H → Nn U H) ∧ ∀ (U : State) (H H1 : Heap), H.size ≤ H1.size → (∀ q : Nat, q < H.size → ¬ F q → H1[q]? = H[q]?) → Nn U H → Nn U H1
def tg_B (D : va_G) (cl : List vw_C) (tys : List (ClassId × FieldType)) (F : Nat → Prop) (Nn : State → Heap → Prop) (ad : Nat → Nat → Nat) (ok : Nat → Nat → Prop) (w : Nat → Nat → va_E) (U : State) : Prop := tg_Y D cl F ad ok w U.heap ∧ (∀ q, U.heap.size ≤ q → F q) ∧ va_K D cl tys U ∧ Nn U U.heap
def tg_Q (D : va_G) (cl : List vw_C) (F : Nat → Prop) (post : Option Value → (Nat → Nat → Nat) → (Nat → Nat → Prop) → (Nat → Nat → va_E) → Prop) : Array Value → State → Outcome → State → Prop := fun _ st oc t => (∃ (r : Option Value) (ad1 : Nat → Nat → Nat) (ok1 : Nat → Nat → Prop) (w1 : Nat → Nat → va_E), oc = .returned r ∧ post r ad1 ok1 w1 ∧ tg_Y D cl F ad1 ok1 w1 t.heap) ∧ va_F F st t
def tg_Met (l : Launch) (y : MethodName) (ws : List Cond) (rm : Room) (D : va_G) (cl : List vw_C) (tys : List (ClassId × FieldType)) (F : Nat → Prop) (Nn : State → Heap → Prop) (ad : Nat → Nat → Nat) (ok : Nat → Nat → Prop) (w : Nat → Nat → va_E) (av : List Value) (post : Option Value → (Nat → Nat → Nat) → (Nat → Nat → Prop) → (Nat → Nat → va_E) → Prop) : Prop :=
  Met l y ws rm (va_Pc av (tg_B D cl tys F Nn ad ok w)) (tg_Q D cl F post) rm.cells rm.slots F
/-- a post that makes nothing: an answer, and the cells as they then are -/
def tg_po (ad : Nat → Nat → Nat) (ok : Nat → Nat → Prop) (po : Option Value → (Nat → Nat → va_E) → Prop) : Option Value → (Nat → Nat → Nat) → (Nat → Nat → Prop) → (Nat → Nat → va_E) → Prop := fun r ad1 ok1 w1 => ad1 = ad ∧ ok1 = ok ∧ po r w1
theorem tg_B.blind {D : va_G} {cl : List vw_C} {tys : List (ClassId × FieldType)} {F : Nat → Prop} {Nn : State → Heap → Prop} {ad : Nat → Nat → Nat} {ok : Nat → Nat → Prop} {w : Nat → Nat → va_E} {av : List Value} (hMv : tg_Mv F Nn) : FrameBlind (va_Pc av (tg_B D cl tys F Nn ad ok w)) := fun a U g mk q => by
  obtain ⟨q0, q1, q2, q3, q4⟩ := q
  exact ⟨q0, q1, q2, va_K.moved (u := U) (U := U.calling g mk a) (Vm.Alike.refl U.vm) q3, hMv.2.1 U (U.calling g mk a) _ rfl q4⟩
section TGC
variable {p : Program} {l : Launch} {e : Env} {R : Room} {s : State} {m : MethodId} {args : Array Value} {below : List Frame} {meth : Method} {c : Code} {cells slots : Nat} {Q : State → Prop}
variable {cc bytes : ByteArray} {pc nL maxL index n : Nat} {st : List Value} {D : va_G} {cl : List vw_C} {tys : List (ClassId × FieldType)} {F : Nat → Prop} {Nn : State → Heap → Prop} {ad : Nat → Nat → Nat} {ok : Nat → Nat → Prop} {w : Nat → Nat → va_E} {L : List (Nat × Value)}
variable {y : MethodName} {ws ws' Ts : List Cond} {rm : Room} {ret : Option FieldType} {own C host : String} {As rest : List Value} {post : Option Value → (Nat → Nat → Nat) → (Nat → Nat → Prop) → (Nat → Nat → va_E) → Prop}
theorem tg_pre {H : Heap} {locs : List Loc} (hMv : tg_Mv F Nn) (hZ : tg_Z D cl F ad ok w s.heap H locs) (hK : va_K D cl tys s) (hN : Nn s s.heap) {av : List Value} : PreS s H (va_Pc av (tg_B D cl tys F Nn ad ok w)) av :=
  ⟨tg_B.blind hMv, fun U hU hW => ⟨rfl, by rw [hU]; exact hZ.1, by rw [hU]; exact fun q h => hZ.2.1 q (Nat.le_trans hZ.2.2.1 h), va_K.moved hW.alike hK, by
    rw [hU]
    exact hMv.1 s U H hW (hMv.2.2 s s.heap H hZ.2.2.1 hZ.2.2.2.1 hN)⟩⟩
theorem tg_preV {H : Heap} {locs : List Loc} (hMv : tg_Mv F Nn) (hZ : tg_Z D cl F ad ok w s.heap H locs) (hK : va_K D cl tys s) (hN : Nn s s.heap) {k i ci : Nat} (hk : ok k i) {fs : List Value} (he : w k i = .inr (ci, fs)) {q : vw_C} (hc : cl[ci]? = some q) {av : List Value} : PreV s H q.1 (ad k i) (va_Pc (.ref (ad k i) :: av) (tg_B D cl tys F Nn ad ok w)) av :=
  ⟨(tg_pre (av := .ref (ad k i) :: av) hMv hZ hK hN).1, va_recv (q0 := 0) hK (hZ.one hk he) hc rfl, (tg_pre (av := .ref (ad k i) :: av) hMv hZ hK hN).2⟩
theorem tg_call {st0 : List Value} {a : Array Value} (hr : ∀ (H : Heap) (locs : List Loc) (ls : Array Slot), tg_Z D cl F ad ok w s.heap H locs → lv_has ls nL L → va_Run p l e R s m args below meth c H locs cells slots rm.cells rm.slots (F0 m pc ls st0) rest (tg_Q D cl F post a) F)
    (kk : ∀ (r : Option Value) (ad1 : Nat → Nat → Nat) (ok1 : Nat → Nat → Prop) (w1 : Nat → Nat → va_E), post r ad1 ok1 w1 → tg_W p l e R s m args below meth c Q nL D cl F ad1 ok1 w1 L (cells + rm.cells) (slots + rm.slots) (pc + 3) (r.toList ++ rest)) : tg_W p l e R s m args below meth c Q nL D cl F ad ok w L cells slots pc st0 := by
  intro H locs ls hZ h T hT X
  obtain ⟨v, st₀, t, T', LL, h0, X', hL, e1, e2, ⟨⟨r, ad1, ok1, w1, hv, hp, hY⟩, hz, hk⟩, stp⟩ := hr H locs ls hZ h T hT X
  cases hv
  rw [h0] at hz hk
  obtain ⟨-, g3, g4⟩ := hZ
  obtain ⟨t2, a1, b1⟩ := kk v ad1 ok1 w1 hp T'.heap (locs ++ LL) ls ⟨by rw [e1]; exact hY, g3, Nat.le_trans g4.1 (by rw [e1]; exact hz), fun q h1 h2 => by rw [e1, hk q (Nat.lt_of_lt_of_le h1 g4.1) h2]; exact g4.2.1 q h1 h2, fun q hq => by
    rcases List.mem_append.mp hq with h | h
    · exact g4.2.2 q h
    · exact hL q h⟩ h T' rfl X'
  exact ⟨t2, stp t2 a1, b1⟩
theorem tg_callS (S : CallFix p m c cc nL s args Ts own) (hK : va_K D cl tys s) (hN : Nn s s.heap) (hMv : tg_Mv F Nn) (hM : tg_Met l y ws rm D cl tys F Nn ad ok w As post) (cw : CallB R s args own index y bytes maxL ret ws rm rm.cells rm.slots n ∧ (Cond.static y).before args s = true) (hn : As.length = n) (hW : (rest.map fun v => v.category).sum ≤ 8) (hf : cells + rm.cells ≤ R.cells ∧ slots + rm.slots ≤ R.slots) (hst : st = As.reverse ++ rest) (hdg : decode cc pc = .ok (.invokestatic index, 3)) (kk : ∀ (r : Option Value) (ad1 : Nat → Nat → Nat) (ok1 : Nat → Nat → Prop) (w1 : Nat → Nat → va_E), post r ad1 ok1 w1 → tg_W p l e R s m args below meth c Q nL D cl F ad1 ok1 w1 L (cells + rm.cells) (slots + rm.slots) (pc + 3) (r.toList ++ rest)) : tg_W p l e R s m args below meth c Q nL D cl F ad ok w L cells slots pc st := by
  subst hst
  exact tg_call (rm := rm) (fun H locs ls hZ h => va_runS S hM cw (tg_pre hMv hZ hK hN) rfl hn h.1 rfl (lv_room hW) hdg hf) kk
theorem tg_callSN (S : CallFix p m c cc nL s args Ts own) (hK : va_K D cl tys s) (hN : Nn s s.heap) (hMv : tg_Mv F Nn) (hM : tg_Met l y ws rm D cl tys F Nn ad ok w As post) (cw : va_CN R s args own index y host bytes maxL ret ws rm rm.cells rm.slots n ∧ (Cond.static y).before args s = true ∧ True) (hn : As.length = n) (hW : (rest.map fun v => v.category).sum ≤ 8) (hf : cells + rm.cells ≤ R.cells ∧ slots + rm.slots ≤ R.slots) (hst : st = As.reverse ++ rest) (hdg : decode cc pc = .ok (.invokestatic index, 3)) (kk : ∀ (r : Option Value) (ad1 : Nat → Nat → Nat) (ok1 : Nat → Nat → Prop) (w1 : Nat → Nat → va_E), post r ad1 ok1 w1 → tg_W p l e R s m args below meth c Q nL D cl F ad1 ok1 w1 L (cells + rm.cells) (slots + rm.slots) (pc + 3) (r.toList ++ rest)) : tg_W p l e R s m args below meth c Q nL D cl F ad ok w L cells slots pc st := by
  subst hst
  exact tg_call (rm := rm) (fun H locs ls hZ h => va_runSN S hM cw (tg_pre hMv hZ hK hN) rfl hn h.1 rfl (lv_room hW) hdg hf) kk
theorem tg_callV (S : CallFix p m c cc nL s args Ts own) (hK : va_K D cl tys s) (hN : Nn s s.heap) (hMv : tg_Mv F Nn) {k i ci : Nat} (hk : ok k i) {fs : List Value} (he : w k i = .inr (ci, fs)) {q : vw_C} (hc : cl[ci]? = some q) (hC : q.1 = C) (hM : tg_Met l y ws rm D cl tys F Nn ad ok w (.ref (ad k i) :: As) post) (cw : CallW R s args own C index y bytes maxL ret ws rm rm.cells rm.slots n) (hn : As.length = n) (hW : (rest.map fun v => v.category).sum ≤ 8) (hf : cells + rm.cells ≤ R.cells ∧ slots + rm.slots ≤ R.slots) (hst : st = As.reverse ++ .ref (ad k i) :: rest) (hdg : decode cc pc = .ok (.invokevirtual index, 3)) (kk : ∀ (r : Option Value) (ad1 : Nat → Nat → Nat) (ok1 : Nat → Nat → Prop) (w1 : Nat → Nat → va_E), post r ad1 ok1 w1 → tg_W p l e R s m args below meth c Q nL D cl F ad1 ok1 w1 L (cells + rm.cells) (slots + rm.slots) (pc + 3) (r.toList ++ rest)) : tg_W p l e R s m args below meth c Q nL D cl F ad ok w L cells slots pc st := by
  subst hC
  subst hst
  exact tg_call (rm := rm) (fun H locs ls hZ h => va_runV S hM cw (tg_preV hMv hZ hK hN hk he hc) rfl hn h.1 rfl (lv_room hW) hdg hf) kk
theorem tg_callVN (S : CallFix p m c cc nL s args Ts own) (hK : va_K D cl tys s) (hN : Nn s s.heap) (hMv : tg_Mv F Nn) {k i ci : Nat} (hk : ok k i) {fs : List Value} (he : w k i = .inr (ci, fs)) {q : vw_C} (hc : cl[ci]? = some q) (hC : q.1 = C) (hM : tg_Met l y ws rm D cl tys F Nn ad ok w (.ref (ad k i) :: As) post) (cw : va_CN R s args own index y host bytes maxL ret ws rm rm.cells rm.slots n ∧ (Cond.instanceMethod y).before args s = true ∧ (Cond.selects C y y).before args s = true) (hn : As.length = n) (hW : (rest.map fun v => v.category).sum ≤ 8) (hf : cells + rm.cells ≤ R.cells ∧ slots + rm.slots ≤ R.slots) (hst : st = As.reverse ++ .ref (ad k i) :: rest) (hdg : decode cc pc = .ok (.invokevirtual index, 3)) (kk : ∀ (r : Option Value) (ad1 : Nat → Nat → Nat) (ok1 : Nat → Nat → Prop) (w1 : Nat → Nat → va_E), post r ad1 ok1 w1 → tg_W p l e R s m args below meth c Q nL D cl F ad1 ok1 w1 L (cells + rm.cells) (slots + rm.slots) (pc + 3) (r.toList ++ rest)) : tg_W p l e R s m args below meth c Q nL D cl F ad ok w L cells slots pc st := by
  subst hC
  subst hst
  exact tg_call (rm := rm) (fun H locs ls hZ h => va_runVN S hM cw (tg_preV hMv hZ hK hN hk he hc) rfl hn h.1 rfl (lv_room hW) hdg hf) kk
theorem tg_callI (S : CallFix p m c cc nL s args Ts own) (hK : va_K D cl tys s) (hN : Nn s s.heap) (hMv : tg_Mv F Nn) {b : Nat} (hM : tg_Met l y ws rm D cl tys F Nn ad ok w (.ref b :: As) post) (cw : CallB R s args own index y bytes maxL none ws rm rm.cells rm.slots n ∧ y.name = "<init>" ∧ (Cond.instanceMethod y).before args s = true) (hn : As.length = n) (hW : (rest.map fun v => v.category).sum ≤ 8) (hf : cells + rm.cells ≤ R.cells ∧ slots + rm.slots ≤ R.slots) (hst : st = As.reverse ++ .ref b :: rest) (hdg : decode cc pc = .ok (.invokespecial index, 3)) (kk : ∀ (r : Option Value) (ad1 : Nat → Nat → Nat) (ok1 : Nat → Nat → Prop) (w1 : Nat → Nat → va_E), post r ad1 ok1 w1 → tg_W p l e R s m args below meth c Q nL D cl F ad1 ok1 w1 L (cells + rm.cells) (slots + rm.slots) (pc + 3) (r.toList ++ rest)) : tg_W p l e R s m args below meth c Q nL D cl F ad ok w L cells slots pc st := by
  subst hst
  exact tg_call (rm := rm) (fun H locs ls hZ h => va_runI S hM cw (tg_pre hMv hZ hK hN) rfl hn h.1 rfl (lv_room hW) hdg hf) kk
theorem tg_callIN (S : CallFix p m c cc nL s args Ts own) (hK : va_K D cl tys s) (hN : Nn s s.heap) (hMv : tg_Mv F Nn) {b : Nat} (hM : tg_Met l y ws rm D cl tys F Nn ad ok w (.ref b :: As) post) (cw : va_CN R s args own index y host bytes maxL none ws rm rm.cells rm.slots n ∧ y.name = "<init>" ∧ (Cond.instanceMethod y).before args s = true) (hn : As.length = n) (hW : (rest.map fun v => v.category).sum ≤ 8) (hf : cells + rm.cells ≤ R.cells ∧ slots + rm.slots ≤ R.slots) (hst : st = As.reverse ++ .ref b :: rest) (hdg : decode cc pc = .ok (.invokespecial index, 3)) (kk : ∀ (r : Option Value) (ad1 : Nat → Nat → Nat) (ok1 : Nat → Nat → Prop) (w1 : Nat → Nat → va_E), post r ad1 ok1 w1 → tg_W p l e R s m args below meth c Q nL D cl F ad1 ok1 w1 L (cells + rm.cells) (slots + rm.slots) (pc + 3) (r.toList ++ rest)) : tg_W p l e R s m args below meth c Q nL D cl F ad ok w L cells slots pc st := by
  subst hst
  exact tg_call (rm := rm) (fun H locs ls hZ h => va_runIN S hM cw (tg_pre hMv hZ hK hN) rfl hn h.1 rfl (lv_room hW) hdg hf) kk
theorem tg_kk {po : Option Value → (Nat → Nat → va_E) → Prop} (hc : rm.cells = 0) (hs : rm.slots = 0) (kk : ∀ (r : Option Value) (w1 : Nat → Nat → va_E), po r w1 → tg_W p l e R s m args below meth c Q nL D cl F ad ok w1 L cells slots pc (r.toList ++ rest)) : ∀ (r : Option Value) (ad1 : Nat → Nat → Nat) (ok1 : Nat → Nat → Prop) (w1 : Nat → Nat → va_E), tg_po ad ok po r ad1 ok1 w1 → tg_W p l e R s m args below meth c Q nL D cl F ad1 ok1 w1 L (cells + rm.cells) (slots + rm.slots) pc (r.toList ++ rest) := by
  intro r ad1 ok1 w1 ⟨h1, h2, h3⟩
  rw [h1, h2, hc, hs]
  exact kk r w1 h3
theorem tg_kv {v : Value} {w' : Nat → Nat → va_E} (hc : rm.cells = 0) (hs : rm.slots = 0) (kk : tg_W p l e R s m args below meth c Q nL D cl F ad ok w' L cells slots pc (v :: rest)) : ∀ (r : Option Value) (ad1 : Nat → Nat → Nat) (ok1 : Nat → Nat → Prop) (w1 : Nat → Nat → va_E), tg_po ad ok (fun r w1 => r = some v ∧ w1 = w') r ad1 ok1 w1 → tg_W p l e R s m args below meth c Q nL D cl F ad1 ok1 w1 L (cells + rm.cells) (slots + rm.slots) pc (r.toList ++ rest) := by
  refine tg_kk hc hs ?_
  intro r w1 ⟨h1, h2⟩
  rw [h1, h2]
  exact kk
theorem tg_kn {w' : Nat → Nat → va_E} (hc : rm.cells = 0) (hs : rm.slots = 0) (kk : tg_W p l e R s m args below meth c Q nL D cl F ad ok w' L cells slots pc rest) : ∀ (r : Option Value) (ad1 : Nat → Nat → Nat) (ok1 : Nat → Nat → Prop) (w1 : Nat → Nat → va_E), tg_po ad ok (fun r w1 => r = none ∧ w1 = w') r ad1 ok1 w1 → tg_W p l e R s m args below meth c Q nL D cl F ad1 ok1 w1 L (cells + rm.cells) (slots + rm.slots) pc (r.toList ++ rest) := by
  refine tg_kk hc hs ?_
  intro r w1 ⟨h1, h2⟩
  rw [h1, h2]
  exact kk
theorem tg_Z.endQ {H : Heap} {locs : List Loc} (hZ : tg_Z D cl F ad ok w s.heap H locs) {r : Option Value} (hp : post r ad ok w) {t : State} (ht : t.heap = H) : tg_Q D cl F post args s (.returned r) t :=
  ⟨⟨r, ad, ok, w, rfl, hp, by rw [ht]; exact hZ.1⟩, hZ.2.2.F ht⟩
theorem tg_iret (hx : p.tables.exec = Jvm.exec) (hb : c.code = cc) (hlocks : meth.locks = false) (hr : meth.sig.returnType = some .int) (hQ : Q = MQ below (tg_Q D cl F post) args s cells slots F) {v : Int32} (hp : post (some (.int v)) ad ok w) (hdg : decode cc pc = .ok (.ireturn, 1)) : tg_W p l e R s m args below meth c Q nL D cl F ad ok w L cells slots pc [.int v] := by
  subst hQ
  exact fun H locs ls hZ h => W.iret hx hb hr (fun t ht hW => hZ.endQ hp ht) hZ.2.2.2.2 hdg hlocks
theorem tg_zret (hx : p.tables.exec = Jvm.exec) (hb : c.code = cc) (hlocks : meth.locks = false) {ty : FieldType} (hr : meth.sig.returnType = some ty) (hQ : Q = MQ below (tg_Q D cl F post) args s cells slots F) {v : Int32} (hn : narrow ty (.int v) = .int v) (hp : post (some (.int v)) ad ok w) (hdg : decode cc pc = .ok (.ireturn, 1)) : tg_W p l e R s m args below meth c Q nL D cl F ad ok w L cells slots pc [.int v] := by
  subst hQ
  exact fun H locs ls hZ h => W.zret hx hb hr hn (fun t ht hW => hZ.endQ hp ht) hZ.2.2.2.2 hdg hlocks
theorem tg_vret (hx : p.tables.exec = Jvm.exec) (hb : c.code = cc) (hlocks : meth.locks = false) (hr : meth.sig.returnType = none) (hQ : Q = MQ below (tg_Q D cl F post) args s cells slots F) (hp : post none ad ok w) (hdg : decode cc pc = .ok (.return_, 1)) : tg_W p l e R s m args below meth c Q nL D cl F ad ok w L cells slots pc [] := by
  subst hQ
  exact fun H locs ls hZ h => W.vret hx hb hr (fun t ht hW => hZ.endQ hp ht) hZ.2.2.2.2 hdg hlocks
theorem tg_aret (hx : p.tables.exec = Jvm.exec) (hb : c.code = cc) (hlocks : meth.locks = false) {N : String} (hr : meth.sig.returnType = some (.object N)) (hQ : Q = MQ below (tg_Q D cl F post) args s cells slots F) {v : Value} (hv : v = .null ∨ ∃ a, v = .ref a) (hp : post (some v) ad ok w) (hdg : decode cc pc = .ok (.areturn, 1)) : tg_W p l e R s m args below meth c Q nL D cl F ad ok w L cells slots pc [v] := by
  subst hQ
  exact fun H locs ls hZ h => W.aret hx hb hr (Or.inl ⟨N, rfl⟩) hv (fun t ht hW => hZ.endQ hp ht) hZ.2.2.2.2 hdg hlocks
/-- a contract's proof begins -/
theorem tg_start {av : List Value} (hy : plainName y.cls = true) (hw : ws = Cond.code y cc maxL ret :: ws') (hlen : (lg_sl av).length ≤ maxL)
    (body : ∀ (p : Program) (e : Env) (R : Room) (s : State) (m : MethodId) (args : Array Value) (below : List Frame) (meth : Method) (c : Code) (Q : State → Prop), p.tables.exec = Jvm.exec → c.code = cc → c.maxLocals = maxL → meth.sig.returnType = ret → meth.locks = false → s.vm.findClass y.cls = some m.cls → meth.name = y.name → (∀ w ∈ ws, w.before args s = true) → va_K D cl tys s → Nn s s.heap → R = (headSpec ws rm).room → Q = MQ below (tg_Q D cl F post) args s rm.cells rm.slots F →
      tg_W p l e R s m args below meth c Q maxL D cl F ad ok w (lv_args 0 av) 0 0 0 []) : tg_Met l y ws rm D cl tys F Nn ad ok w av post := by
  refine Met.ofW (cc := cc) (maxL := maxL) (ret := ret) hy hw ?_
  intro p e s m args below meth c s₁ B hml hv
  obtain ⟨rfl, hY, hF, hK, hN⟩ := hv
  rw [lg_entry_eq]
  exact body p e _ s m _ below meth c _ B.exec B.bytes hml B.returns B.notSynchronized (findClass_of_methodNamed B.named) (name_of_methodNamed B.named B.method).1 (atoms_spec (ws := ws) B.pre) hK hN rfl rfl s.heap [] _ (tg_Z.start hY hF) (lv_entry av hlen)
end TGC
end
section
/-! pure rows: reaching, rounds, counts, ranks (no machine, no class) -/
def hg_rc (e : Nat → Nat → Prop) : Nat → Nat → Nat → Prop
  | 0, u, v => u = v
  | n + 1, u, v => ∃ w, e u w ∧ hg_rc e n w v
/-- v is reached from u in any number of steps, none too -/
def hg_R (e : Nat → Nat → Prop) (u v : Nat) : Prop := ∃ n, hg_rc e n u v
/-- u comes back to itself in one step or more -/
def hg_O (e : Nat → Nat → Prop) (u : Nat) : Prop := ∃ w, e u w ∧ hg_R e w u
theorem hg_R_refl (e : Nat → Nat → Prop) (u : Nat) : hg_R e u u := ⟨0, rfl⟩
theorem hg_R_step {e : Nat → Nat → Prop} {u v w : Nat} (h : e u v) (k : hg_R e v w) : hg_R e u w := by
  obtain ⟨n, hn⟩ := k
  exact ⟨n + 1, v, h, hn⟩
theorem hg_R_one {e : Nat → Nat → Prop} {u v : Nat} (h : e u v) : hg_R e u v := hg_R_step h (hg_R_refl e v)
theorem hg_rc_trans {e : Nat → Nat → Prop} {v w : Nat} (k : hg_R e v w) : ∀ (n u : Nat), hg_rc e n u v → hg_R e u w
  | 0, u, hn => by
    have e1 : u = v := hn
    rw [e1]
    exact k
  | n + 1, u, hn => by
    obtain ⟨x, h1, h2⟩ := hn
    exact hg_R_step h1 (hg_rc_trans k n x h2)
theorem hg_R_trans {e : Nat → Nat → Prop} {u v w : Nat} (h : hg_R e u v) (k : hg_R e v w) : hg_R e u w := by
  obtain ⟨n, hn⟩ := h
  exact hg_rc_trans k n u hn
theorem hg_rc_closed {e : Nat → Nat → Prop} {P : Nat → Prop} (hc : ∀ a b, P a → e a b → P b) {v : Nat} : ∀ (n u : Nat), P u → hg_rc e n u v → P v
  | 0, u, h, hn => by
    have e1 : u = v := hn
    rw [← e1]
    exact h
  | n + 1, u, h, hn => by
    obtain ⟨x, h1, h2⟩ := hn
    exact hg_rc_closed hc n x (hc u x h h1) h2
/-- what is closed under the steps holds of all that is reached -/
theorem hg_R_closed {e : Nat → Nat → Prop} {P : Nat → Prop} (hc : ∀ a b, P a → e a b → P b) {u v : Nat} (h : P u) (k : hg_R e u v) : P v := by
  obtain ⟨n, hn⟩ := k
  exact hg_rc_closed hc n u h hn
theorem hg_rc_back {e : Nat → Nat → Prop} {P : Nat → Prop} (hc : ∀ a b, P b → e a b → P a) {v : Nat} (h : P v) : ∀ (n u : Nat), hg_rc e n u v → P u
  | 0, u, hn => by
    have e1 : u = v := hn
    rw [e1]
    exact h
  | n + 1, u, hn => by
    obtain ⟨x, h1, h2⟩ := hn
    exact hc u x (hg_rc_back hc h n x h2) h1
theorem hg_R_back {e : Nat → Nat → Prop} {P : Nat → Prop} (hc : ∀ a b, P b → e a b → P a) {u v : Nat} (h : P v) (k : hg_R e u v) : P u := by
  obtain ⟨n, hn⟩ := k
  exact hg_rc_back hc h n u hn
/-- a round goes along any road between two that reach each other -/
theorem hg_O_pair {e : Nat → Nat → Prop} {u v : Nat} (hne : u ≠ v) (h : hg_R e u v) (k : hg_R e v u) : hg_O e u := by
  obtain ⟨n, hn⟩ := h
  cases n with
  | zero =>
    have e1 : u = v := hn
    exact absurd e1 hne
  | succ n =>
    obtain ⟨x, h1, h2⟩ := hn
    exact ⟨x, h1, hg_R_trans ⟨n, h2⟩ k⟩
theorem hg_R_congr {e e' : Nat → Nat → Prop} (h : ∀ a b, e a b → e' a b) {u v : Nat} (k : hg_R e u v) : hg_R e' u v :=
  hg_R_back (e := e) (P := fun x => hg_R e' x v) (fun a b hb hab => hg_R_step (h a b hab) hb) (hg_R_refl e' v) k
/-! counts -/
noncomputable def hg_b (P : Prop) : Nat := @ite Nat P (Classical.propDecidable P) 1 0
theorem hg_b_t {P : Prop} (h : P) : hg_b P = 1 := by
  unfold hg_b
  exact if_pos h
theorem hg_b_f {P : Prop} (h : ¬ P) : hg_b P = 0 := by
  unfold hg_b
  exact if_neg h
theorem hg_b_le (P : Prop) : hg_b P ≤ 1 := by
  by_cases h : P
  · rw [hg_b_t h]
    exact Nat.le_refl 1
  · rw [hg_b_f h]
    exact Nat.zero_le 1
/-- how many below n have P -/
noncomputable def hg_cn (P : Nat → Prop) : Nat → Nat
  | 0 => 0
  | n + 1 => hg_cn P n + hg_b (P n)
theorem hg_cn_s (P : Nat → Prop) (n : Nat) : hg_cn P (n + 1) = hg_cn P n + hg_b (P n) := rfl
theorem hg_cn_bd (P : Nat → Prop) : ∀ n, hg_cn P n ≤ n
  | 0 => Nat.le_refl 0
  | n + 1 => by
    have h1 := hg_cn_bd P n
    have h2 := hg_b_le (P n)
    rw [hg_cn_s]
    omega
theorem hg_b_mono {P Q : Prop} (h : P → Q) : hg_b P ≤ hg_b Q := by
  by_cases hp : P
  · rw [hg_b_t hp, hg_b_t (h hp)]
    exact Nat.le_refl 1
  · rw [hg_b_f hp]
    exact Nat.zero_le _
theorem hg_b_congr {P Q : Prop} (h : P ↔ Q) : hg_b P = hg_b Q := by
  have h1 := hg_b_mono h.1
  have h2 := hg_b_mono h.2
  omega
theorem hg_cn_le {P Q : Nat → Prop} : ∀ n, (∀ k, k < n → P k → Q k) → hg_cn P n ≤ hg_cn Q n
  | 0, _ => Nat.le_refl 0
  | n + 1, h => by
    have h1 := hg_cn_le n (fun k hk => h k (by omega))
    have h2 := hg_b_mono (h n (by omega))
    rw [hg_cn_s, hg_cn_s]
    omega
theorem hg_cn_congr {P Q : Nat → Prop} (n : Nat) (h : ∀ k, k < n → (P k ↔ Q k)) : hg_cn P n = hg_cn Q n := by
  have h1 := hg_cn_le n (fun k hk => (h k hk).1)
  have h2 := hg_cn_le n (fun k hk => (h k hk).2)
  omega
theorem hg_cn_lt {P Q : Nat → Prop} {x : Nat} (hx : ¬ P x) (hq : Q x) : ∀ n, x < n → (∀ k, k < n → P k → Q k) → hg_cn P n < hg_cn Q n
  | 0, hn, _ => by omega
  | n + 1, hn, h => by
    rw [hg_cn_s, hg_cn_s]
    by_cases e1 : x = n
    · subst e1
      have h1 := hg_cn_le x (fun k hk => h k (by omega))
      rw [hg_b_f hx, hg_b_t hq]
      omega
    · have h1 := hg_cn_lt hx hq n (by omega) (fun k hk => h k (by omega))
      have h2 := hg_b_mono (h n (by omega))
      omega
/-- one that isn't in comes in: one more -/
theorem hg_cn_add {P : Nat → Prop} {x : Nat} (hx : ¬ P x) : ∀ n, hg_cn (fun k => P k ∨ k = x) n = hg_cn P n + hg_b (x < n)
  | 0 => by
    rw [hg_b_f (by omega)]
    rfl
  | n + 1 => by
    have h1 := hg_cn_add hx n
    rw [hg_cn_s, hg_cn_s, h1]
    by_cases e1 : n = x
    · subst e1
      rw [hg_b_t (show P n ∨ n = n from Or.inr rfl), hg_b_f hx, hg_b_f (show ¬ n < n by omega), hg_b_t (show n < n + 1 by omega)]
    · have h2 : hg_b (P n ∨ n = x) = hg_b (P n) := hg_b_congr ⟨fun h => h.elim id (fun q => absurd q e1), Or.inl⟩
      have h3 : hg_b (x < n + 1) = hg_b (x < n) := hg_b_congr ⟨fun h => by omega, fun h => by omega⟩
      rw [h2, h3]
      omega
theorem hg_cn_room {P : Nat → Prop} {x n : Nat} (hx : ¬ P x) (hn : x < n) : hg_cn P n < n := by
  have h1 := hg_cn_lt (Q := fun _ => True) hx trivial n hn (fun _ _ _ => trivial)
  have h2 := hg_cn_bd (fun _ => True) n
  omega
theorem hg_cn_0 : ∀ n, hg_cn (fun _ => False) n = 0
  | 0 => rfl
  | n + 1 => by rw [hg_cn_s, hg_cn_0 n, hg_b_f (fun h => h)]
/-! ranks -/
/-- the greatest K of those below n that f has a step to -/
noncomputable def hg_mx (e : Nat → Nat → Prop) (K : Nat → Nat) (f : Nat) : Nat → Nat
  | 0 => 0
  | n + 1 => Nat.max (hg_mx e K f n) (hg_b (e f n) * K n)
theorem hg_mx_s (e : Nat → Nat → Prop) (K : Nat → Nat) (f n : Nat) : hg_mx e K f (n + 1) = Nat.max (hg_mx e K f n) (hg_b (e f n) * K n) := rfl
theorem hg_bK_t {P : Prop} (h : P) (k : Nat) : hg_b P * k = k := by rw [hg_b_t h, Nat.one_mul]
theorem hg_bK_f {P : Prop} (h : ¬ P) (k : Nat) : hg_b P * k = 0 := by rw [hg_b_f h, Nat.zero_mul]
theorem hg_mx_le {e : Nat → Nat → Prop} {K L : Nat → Nat} {f : Nat} : ∀ n, (∀ g, g < n → e f g → K g ≤ L g) → hg_mx e K f n ≤ hg_mx e L f n
  | 0, _ => Nat.le_refl 0
  | n + 1, h => by
    have h1 := hg_mx_le n (fun g hg => h g (by omega))
    have h2 : hg_b (e f n) * K n ≤ hg_b (e f n) * L n := by
      by_cases hp : e f n
      · rw [hg_bK_t hp, hg_bK_t hp]
        exact h n (by omega) hp
      · rw [hg_bK_f hp, hg_bK_f hp]
        exact Nat.le_refl 0
    rw [hg_mx_s, hg_mx_s]
    exact Nat.max_le.mpr ⟨Nat.le_trans h1 (Nat.le_max_left ..), Nat.le_trans h2 (Nat.le_max_right ..)⟩
theorem hg_mx_congr {e : Nat → Nat → Prop} {K L : Nat → Nat} {f : Nat} (n : Nat) (h : ∀ g, g < n → e f g → K g = L g) : hg_mx e K f n = hg_mx e L f n :=
  Nat.le_antisymm (hg_mx_le n (fun g hg he => Nat.le_of_eq (h g hg he))) (hg_mx_le n (fun g hg he => Nat.le_of_eq (h g hg he).symm))
/-- how many are reached from f in one step or more -/
noncomputable def hg_mu (e : Nat → Nat → Prop) (N f : Nat) : Nat := hg_cn (fun g => ∃ w, e f w ∧ hg_R e w g) N
theorem hg_mu_lt {e : Nat → Nat → Prop} {N f g : Nat} (h : e f g) (hg : g < N) (ho : ¬ hg_O e g) : hg_mu e N g < hg_mu e N f :=
  hg_cn_lt (P := fun k => ∃ w, e g w ∧ hg_R e w k) (Q := fun k => ∃ w, e f w ∧ hg_R e w k) (x := g) (fun q => ho q) ⟨g, h, hg_R_refl e g⟩ N hg (fun k _ q => by
    obtain ⟨w, h1, h2⟩ := q
    exact ⟨g, h, hg_R_step h1 h2⟩)
noncomputable def hg_kf (e : Nat → Nat → Prop) (N : Nat) : Nat → Nat → Nat
  | 0, _ => 0
  | t + 1, f => hg_b (¬ hg_O e f) * (1 + hg_mx e (hg_kf e N t) f N)
theorem hg_kf_s (e : Nat → Nat → Prop) (N t f : Nat) : hg_kf e N (t + 1) f = hg_b (¬ hg_O e f) * (1 + hg_mx e (hg_kf e N t) f N) := rfl
theorem hg_kf_O {e : Nat → Nat → Prop} {N f : Nat} (h : hg_O e f) : ∀ t, hg_kf e N t f = 0
  | 0 => rfl
  | t + 1 => by rw [hg_kf_s, hg_bK_f (fun q => q h)]
theorem hg_kf_st {e : Nat → Nat → Prop} {N : Nat} : ∀ (t t' f : Nat), hg_mu e N f < t → hg_mu e N f < t' → hg_kf e N t f = hg_kf e N t' f
  | 0, t', f, h, _ => by omega
  | t + 1, 0, f, _, h => by omega
  | t + 1, t' + 1, f, h, h' => by
    by_cases ho : hg_O e f
    · rw [hg_kf_O ho, hg_kf_O ho]
    · rw [hg_kf_s, hg_kf_s, hg_mx_congr N (fun g hg he => ?_)]
      by_cases hog : hg_O e g
      · rw [hg_kf_O hog, hg_kf_O hog]
      · have h1 := hg_mu_lt he hg hog
        exact hg_kf_st t t' g (by omega) (by omega)
/-- the rank: 0 on a round, else one more than the greatest of those that f has a step to -/
noncomputable def hg_K (e : Nat → Nat → Prop) (N f : Nat) : Nat := hg_kf e N (N + 1) f
theorem hg_K_eq (e : Nat → Nat → Prop) (N f : Nat) : hg_K e N f = hg_b (¬ hg_O e f) * (1 + hg_mx e (hg_K e N) f N) := by
  show hg_kf e N (N + 1) f = _
  by_cases ho : hg_O e f
  · rw [hg_kf_O ho, hg_bK_f (fun q => q ho)]
  · rw [hg_kf_s, hg_mx_congr (L := hg_K e N) N (fun g hg he => ?_)]
    show hg_kf e N N g = hg_kf e N (N + 1) g
    by_cases hog : hg_O e g
    · rw [hg_kf_O hog, hg_kf_O hog]
    · have h1 := hg_mu_lt he hg hog
      have h2 : hg_mu e N f ≤ N := hg_cn_bd _ N
      exact hg_kf_st N (N + 1) g (by omega) (by omega)
theorem hg_K_O {e : Nat → Nat → Prop} {N f : Nat} (h : hg_O e f) : hg_K e N f = 0 := hg_kf_O h (N + 1)
theorem hg_K_n {e : Nat → Nat → Prop} {N f : Nat} (h : ¬ hg_O e f) : hg_K e N f = 1 + hg_mx e (hg_K e N) f N := by rw [hg_K_eq, hg_bK_t h]
/-- who keeps the rule is the rank -/
theorem hg_K_one {e : Nat → Nat → Prop} {N : Nat} {L : Nat → Nat} (h0 : ∀ f, f < N → hg_O e f → L f = 0) (h1 : ∀ f, f < N → ¬ hg_O e f → L f = 1 + hg_mx e L f N) : ∀ (t f : Nat), hg_mu e N f < t → f < N → L f = hg_K e N f
  | 0, f, h, _ => by omega
  | t + 1, f, h, hf => by
    by_cases ho : hg_O e f
    · rw [h0 f hf ho, hg_K_O ho]
    · rw [h1 f hf ho, hg_K_n ho, hg_mx_congr N (fun g hg he => ?_)]
      by_cases hog : hg_O e g
      · rw [h0 g hg hog, hg_K_O hog]
      · have h2 := hg_mu_lt he hg hog
        exact hg_K_one h0 h1 t g (by omega) hg
theorem hg_K_uniq {e : Nat → Nat → Prop} {N : Nat} {L : Nat → Nat} (h0 : ∀ f, f < N → hg_O e f → L f = 0) (h1 : ∀ f, f < N → ¬ hg_O e f → L f = 1 + hg_mx e L f N) {f : Nat} (hf : f < N) : L f = hg_K e N f := hg_K_one h0 h1 (hg_mu e N f + 1) f (by omega) hf
/-! what is hit -/
/-- a set that holds the first ones, is closed backwards, and holds none without a road to a first one -/
theorem hg_hit_uniq {e : Nat → Nat → Prop} {h0 S : Nat → Prop} (ha : ∀ f, h0 f → S f) (hb : ∀ f g, e f g → S g → S f) (hc : ∀ f, S f → ∃ g, hg_R e f g ∧ h0 g) (f : Nat) : S f ↔ ∃ g, hg_R e f g ∧ h0 g :=
  ⟨hc f, fun q => by
    obtain ⟨g, h1, h2⟩ := q
    exact hg_R_back (P := S) (fun a b hs he => hb a b he hs) (ha g h2) h1⟩
/-! the sum of what is wanting, for loops that go on while something changes -/
def hg_sm (d : Nat → Nat) : Nat → Nat
  | 0 => 0
  | n + 1 => hg_sm d n + d n
theorem hg_sm_s (d : Nat → Nat) (n : Nat) : hg_sm d (n + 1) = hg_sm d n + d n := rfl
theorem hg_sm_le {d d' : Nat → Nat} : ∀ n, (∀ k, k < n → d k ≤ d' k) → hg_sm d n ≤ hg_sm d' n
  | 0, _ => Nat.le_refl 0
  | n + 1, h => by
    have h1 := hg_sm_le n (fun k hk => h k (by omega))
    have h2 := h n (by omega)
    rw [hg_sm_s, hg_sm_s]
    omega
theorem hg_sm_lt {d d' : Nat → Nat} {x : Nat} (hx : d x < d' x) : ∀ n, x < n → (∀ k, k < n → d k ≤ d' k) → hg_sm d n < hg_sm d' n
  | 0, hn, _ => by omega
  | n + 1, hn, h => by
    rw [hg_sm_s, hg_sm_s]
    have h2 := h n (by omega)
    by_cases e1 : x = n
    · subst e1
      have h1 := hg_sm_le x (fun k hk => h k (by omega))
      omega
    · have h1 := hg_sm_lt hx n (by omega) (fun k hk => h k (by omega))
      omega
end
section
/-! pure rows: the walk that finds the groups (numbers, lowest, path, open), one step a row; nodes are numbers; e u v: u hangs on v, both hit -/
/-- come to, and its group not closed -/
def hg_op (num : Nat → Nat) (stl : Nat → Prop) (u : Nat) : Prop := num u ≠ 0 ∧ ¬ stl u
def hg_on (path : Nat → Nat) (pl u : Nat) : Prop := ∃ k, k < pl ∧ path k = u
def hg_T (e : Nat → Nat → Prop) (hits : Nat → Nat) (hc : Nat) (num low look : Nat → Nat) (stl : Nat → Prop) (path : Nat → Nat) (pl : Nat) (opn : Nat → Nat) (oc last : Nat) : Prop :=
  (∀ u, stl u → num u ≠ 0) ∧
  (∀ u, num u ≤ last) ∧
  (∀ k, k < oc → hg_op num stl (opn k)) ∧
  (∀ u, hg_op num stl u → ∃ k, k < oc ∧ opn k = u) ∧
  (∀ i j, i < j → j < oc → num (opn i) < num (opn j)) ∧
  (∀ k, k < pl → hg_op num stl (path k)) ∧
  (∀ i j, i < j → j < pl → num (path i) < num (path j)) ∧
  (∀ u v, stl u → e u v → stl v) ∧
  (∀ k v, k < pl → hg_op num stl v → num (path k) ≤ num v → hg_R e (path k) v) ∧
  (∀ u, hg_op num stl u → low u ≤ num u ∧ ∃ w, hg_op num stl w ∧ num w = low u ∧ hg_R e u w) ∧
  (∀ u, hg_op num stl u → ¬ hg_on path pl u → low u < num u) ∧
  (∀ u i, hg_op num stl u → i < look u → i < hc → e u (hits i) → num (hits i) ≠ 0 ∧ (stl (hits i) ∨ low u ≤ num (hits i) ∨ ∃ k, k + 1 < pl ∧ path k = u ∧ path (k + 1) = hits i)) ∧
  (∀ u, hg_op num stl u → ¬ hg_on path pl u → hc ≤ look u) ∧
  (∀ k w, k < pl → hg_op num stl w → ¬ hg_on path pl w → num (path k) < num w → (k + 1 < pl → num w < num (path (k + 1))) → low (path k) ≤ low w) ∧
  (∀ u, 0 < pl → hg_op num stl u → num (path 0) ≤ num u) ∧
  (pl = 0 → oc = 0) ∧
  (∀ u, num u ≠ 0 → ∃ i, i < hc ∧ hits i = u) ∧
  (∀ u, num u = 0 → look u = 0)
section HGT
variable {e : Nat → Nat → Prop} {hits : Nat → Nat} {hc : Nat} {num low look : Nat → Nat} {stl : Nat → Prop} {path : Nat → Nat} {pl : Nat} {opn : Nat → Nat} {oc last : Nat}
theorem hg_T_0 (hn : ∀ u, num u = 0) (hk : ∀ u, look u = 0) (hs : ∀ u, ¬ stl u) : hg_T e hits hc num low look stl path 0 opn 0 last := by
  have no : ∀ u, ¬ hg_op num stl u := fun u h => h.1 (hn u)
  refine ⟨fun u h => absurd h (hs u), fun u => by rw [hn u]; exact Nat.zero_le _, fun k h => by omega, fun u h => absurd h (no u), fun i j _ h => by omega, fun k h => by omega, fun i j _ h => by omega, fun u v h => absurd h (hs u), fun k v h => by omega, fun u h => absurd h (no u), fun u h => absurd h (no u), fun u i h => absurd h (no u), fun u h => absurd h (no u), fun k w h => by omega, fun u h => by omega, fun _ => rfl, fun u h => absurd (hn u) h, fun u _ => hk u⟩
/-- two that are open have one number only if they are one -/
theorem hg_T_inj (hT : hg_T e hits hc num low look stl path pl opn oc last) {u v : Nat} (hu : hg_op num stl u) (hv : hg_op num stl v) (h : num u = num v) : u = v := by
  obtain ⟨-, -, -, t4, t5, -⟩ := hT
  obtain ⟨i, hi, e1⟩ := t4 u hu
  obtain ⟨j, hj, e2⟩ := t4 v hv
  rcases Nat.lt_trichotomy i j with q | q | q
  · have := t5 i j q hj
    rw [e1, e2] at this
    omega
  · rw [← e1, ← e2, q]
  · have := t5 j i q hi
    rw [e1, e2] at this
    omega
/-- a node is come to -/
theorem hg_T_enter {look' : Nat → Nat} {x : Nat} (hT : hg_T e hits hc num low look stl path pl opn oc last) (hx : num x = 0) (hxh : ∃ i, i < hc ∧ hits i = x)
    (hlk : ∀ u, ¬ hg_on path pl u → look' u = look u)
    (h12 : ∀ u i, hg_op num stl u → i < look' u → i < hc → e u (hits i) → (num (hits i) ≠ 0 ∧ (stl (hits i) ∨ low u ≤ num (hits i) ∨ ∃ k, k + 1 < pl ∧ path k = u ∧ path (k + 1) = hits i)) ∨ (hits i = x ∧ 0 < pl ∧ u = path (pl - 1)))
    (hpx : 0 < pl → e (path (pl - 1)) x) :
    hg_T e hits hc (va_up num x (last + 1)) (va_up low x (last + 1)) look' stl (va_up path pl x) (pl + 1) (va_up opn oc x) (oc + 1) (last + 1) := by
  obtain ⟨t1, t2, t3, t4, t5, t6, t7, t8, t9, t10, t11, t12, t13, t14, t15, t16, t17, t18⟩ := hT
  have ne : ∀ u, num u ≠ 0 → u ≠ x := fun u h q => h (by rw [q]; exact hx)
  have nx : va_up num x (last + 1) x = last + 1 := va_up_self ..
  have nu : ∀ u, u ≠ x → va_up num x (last + 1) u = num u := fun u h => va_up_ne _ _ h
  have lx : va_up low x (last + 1) x = last + 1 := va_up_self ..
  have lu : ∀ u, u ≠ x → va_up low x (last + 1) u = low u := fun u h => va_up_ne _ _ h
  have px : va_up path pl x pl = x := va_up_self ..
  have pk : ∀ k, k < pl → va_up path pl x k = path k := fun k h => va_up_ne _ _ (by omega)
  have ox : va_up opn oc x oc = x := va_up_self ..
  have ok : ∀ k, k < oc → va_up opn oc x k = opn k := fun k h => va_up_ne _ _ (by omega)
  have sx : ¬ stl x := fun q => t1 x q hx
  have opx : hg_op (va_up num x (last + 1)) stl x := ⟨by rw [nx]; omega, sx⟩
  have opu : ∀ u, hg_op num stl u → hg_op (va_up num x (last + 1)) stl u := fun u h => ⟨by rw [nu u (ne u h.1)]; exact h.1, h.2⟩
  have opo : ∀ u, u ≠ x → hg_op (va_up num x (last + 1)) stl u → hg_op num stl u := fun u hu h => ⟨by have := h.1; rw [nu u hu] at this; exact this, h.2⟩
  have nonx : ¬ hg_on path pl x := fun q => by
    obtain ⟨k, h1, h2⟩ := q
    exact (t6 k h1).1 (by rw [h2]; exact hx)
  have onx : hg_on (va_up path pl x) (pl + 1) x := ⟨pl, by omega, px⟩
  have onu : ∀ u, hg_on path pl u → hg_on (va_up path pl x) (pl + 1) u := fun u q => by
    obtain ⟨k, h1, h2⟩ := q
    exact ⟨k, by omega, by rw [pk k h1]; exact h2⟩
  have pne : ∀ k, k < pl → path k ≠ x := fun k h => ne _ (t6 k h).1
  have one : ∀ k, k < oc → opn k ≠ x := fun k h => ne _ (t3 k h).1
  refine ⟨?_, ?_, ?_, ?_, ?_, ?_, ?_, t8, ?_, ?_, ?_, ?_, ?_, ?_, ?_, fun h => by omega, ?_, ?_⟩
  · intro u h
    rw [nu u (ne u (t1 u h))]
    exact t1 u h
  · intro u
    by_cases q : u = x
    · rw [q, nx]
      exact Nat.le_refl _
    · rw [nu u q]
      exact Nat.le_succ_of_le (t2 u)
  · intro k h
    by_cases q : k = oc
    · rw [q, ox]
      exact opx
    · rw [ok k (by omega)]
      exact opu _ (t3 k (by omega))
  · intro u h
    by_cases q : u = x
    · exact ⟨oc, by omega, by rw [ox]; exact q.symm⟩
    · obtain ⟨k, h1, h2⟩ := t4 u (opo u q h)
      exact ⟨k, by omega, by rw [ok k h1]; exact h2⟩
  · intro i j hij hj
    by_cases q : j = oc
    · subst q
      rw [ox, nx, ok i hij, nu _ (one i hij)]
      exact Nat.lt_succ_of_le (t2 _)
    · rw [ok i (by omega), ok j (by omega), nu _ (one i (by omega)), nu _ (one j (by omega))]
      exact t5 i j hij (by omega)
  · intro k h
    by_cases q : k = pl
    · rw [q, px]
      exact opx
    · rw [pk k (by omega)]
      exact opu _ (t6 k (by omega))
  · intro i j hij hj
    by_cases q : j = pl
    · subst q
      rw [px, nx, pk i hij, nu _ (pne i hij)]
      exact Nat.lt_succ_of_le (t2 _)
    · rw [pk i (by omega), pk j (by omega), nu _ (pne i (by omega)), nu _ (pne j (by omega))]
      exact t7 i j hij (by omega)
  · intro k v h hv hle
    by_cases q : k = pl
    · rw [q, px] at hle ⊢
      rw [nx] at hle
      by_cases q2 : v = x
      · rw [q2]
        exact hg_R_refl e x
      · rw [nu v q2] at hle
        have := t2 v
        omega
    · have hk : k < pl := by omega
      rw [pk k hk] at hle ⊢
      rw [nu _ (pne k hk)] at hle
      by_cases q2 : v = x
      · rw [q2]
        have h1 : hg_R e (path k) (path (pl - 1)) := t9 k (path (pl - 1)) hk (t6 (pl - 1) (by omega)) (by
          by_cases q3 : k = pl - 1
          · rw [q3]
            exact Nat.le_refl _
          · exact Nat.le_of_lt (t7 k (pl - 1) (by omega) (by omega)))
        exact hg_R_trans h1 (hg_R_one (hpx (by omega)))
      · rw [nu v q2] at hle
        exact t9 k v hk (opo v q2 hv) hle
  · intro u h
    by_cases q : u = x
    · rw [q, lx, nx]
      exact ⟨Nat.le_refl _, x, opx, nx, hg_R_refl e x⟩
    · obtain ⟨h1, w, h2, h3, h4⟩ := t10 u (opo u q h)
      rw [lu u q, nu u q]
      exact ⟨h1, w, opu w h2, by rw [nu w (ne w h2.1)]; exact h3, h4⟩
  · intro u h hn
    have q : u ≠ x := fun q => hn (by rw [q]; exact onx)
    rw [lu u q, nu u q]
    exact t11 u (opo u q h) (fun z => hn (onu u z))
  · intro u i h hi hic he
    by_cases q : u = x
    · rw [q, hlk x nonx, t18 x hx] at hi
      omega
    · rcases h12 u i (opo u q h) hi hic he with ⟨g1, g2⟩ | ⟨g1, g2, g3⟩
      · have q2 := ne _ g1
        rw [nu _ q2, lu u q]
        refine ⟨g1, ?_⟩
        rcases g2 with g2 | g2 | ⟨k, g2, g3, g4⟩
        · exact Or.inl g2
        · exact Or.inr (Or.inl g2)
        · exact Or.inr (Or.inr ⟨k, by omega, by rw [pk k (by omega)]; exact g3, by rw [pk (k + 1) g2]; exact g4⟩)
      · rw [g1, nx]
        refine ⟨by omega, Or.inr (Or.inr ⟨pl - 1, by omega, ?_, ?_⟩)⟩
        · rw [pk (pl - 1) (by omega)]
          exact g3.symm
        · rw [show pl - 1 + 1 = pl by omega]
          exact px
  · intro u h hn
    have q : u ≠ x := fun q => hn (by rw [q]; exact onx)
    have hn' : ¬ hg_on path pl u := fun z => hn (onu u z)
    rw [hlk u hn']
    exact t13 u (opo u q h) hn'
  · intro k w h hw hn hlt hnext
    have q : w ≠ x := fun q => hn (by rw [q]; exact onx)
    rw [nu w q] at hlt hnext
    by_cases q2 : k = pl
    · rw [q2, px, nx] at hlt
      have := t2 w
      omega
    · have hk : k < pl := by omega
      rw [pk k hk] at hlt ⊢
      rw [nu _ (pne k hk)] at hlt
      rw [lu _ (pne k hk), lu w q]
      refine t14 k w hk (opo w q hw) (fun z => hn (onu w z)) hlt (fun h2 => ?_)
      have h3 := hnext (by omega)
      rw [pk (k + 1) h2, nu _ (pne (k + 1) h2)] at h3
      exact h3
  · intro u _ h
    by_cases q0 : pl = 0
    · subst q0
      rw [px, nx]
      by_cases q : u = x
      · rw [q, nx]
        exact Nat.le_refl _
      · obtain ⟨k, h1, -⟩ := t4 u (opo u q h)
        have := t16 rfl
        omega
    · have h0 : 0 < pl := by omega
      rw [pk 0 h0, nu _ (pne 0 h0)]
      by_cases q : u = x
      · rw [q, nx]
        exact Nat.le_succ_of_le (t2 _)
      · rw [nu u q]
        exact t15 u h0 (opo u q h)
  · intro u h
    by_cases q : u = x
    · rw [q]
      exact hxh
    · rw [nu u q] at h
      exact t17 u h
  · intro u h
    have q : u ≠ x := fun q => by
      rw [q, nx] at h
      omega
    rw [nu u q] at h
    rw [hlk u (fun z => by
      obtain ⟨k, h1, h2⟩ := z
      exact (t6 k h1).1 (by rw [h2]; exact h))]
    exact t18 u h
/-- the next one below is settled, or no step goes there -/
theorem hg_T_skip (hT : hg_T e hits hc num low look stl path pl opn oc last) {v i : Nat} (h0 : 0 < pl) (hv : path (pl - 1) = v) (hi : look v = i) (hs : i < hc → e v (hits i) → stl (hits i)) : hg_T e hits hc num low (va_up look v (i + 1)) stl path pl opn oc last := by
  obtain ⟨t1, t2, t3, t4, t5, t6, t7, t8, t9, t10, t11, t12, t13, t14, t15, t16, t17, t18⟩ := hT
  refine ⟨t1, t2, t3, t4, t5, t6, t7, t8, t9, t10, t11, ?_, ?_, t14, t15, t16, t17, ?_⟩
  · intro u j h hj hjc he
    by_cases q : u = v
    · subst q
      rw [va_up_self] at hj
      by_cases q2 : j = i
      · subst q2
        have h1 := hs hjc he
        exact ⟨t1 _ h1, Or.inl h1⟩
      · exact t12 u j h (by omega) hjc he
    · rw [va_up_ne _ _ q] at hj
      exact t12 u j h hj hjc he
  · intro u h hn
    by_cases q : u = v
    · exact absurd ⟨pl - 1, by omega, by rw [q]; exact hv⟩ hn
    · rw [va_up_ne _ _ q]
      exact t13 u h hn
  · intro u h
    by_cases q : u = v
    · have := (t6 (pl - 1) (by omega)).1
      rw [hv, ← q] at this
      exact absurd h this
    · rw [va_up_ne _ _ q]
      exact t18 u h
/-- the next one below is open: the lowest number is told -/
theorem hg_T_lower (hT : hg_T e hits hc num low look stl path pl opn oc last) {v i : Nat} (h0 : 0 < pl) (hv : path (pl - 1) = v) (hi : look v = i) (he : e v (hits i)) (hn0 : num (hits i) ≠ 0) (hs : ¬ stl (hits i)) : hg_T e hits hc num (va_up low v (Nat.min (low v) (num (hits i)))) (va_up look v (i + 1)) stl path pl opn oc last := by
  obtain ⟨t1, t2, t3, t4, t5, t6, t7, t8, t9, t10, t11, t12, t13, t14, t15, t16, t17, t18⟩ := hT
  have opv : hg_op num stl v := by rw [← hv]; exact t6 (pl - 1) (by omega)
  have onv : hg_on path pl v := ⟨pl - 1, by omega, hv⟩
  have lle : ∀ u, va_up low v (Nat.min (low v) (num (hits i))) u ≤ low u := fun u => by
    by_cases q : u = v
    · rw [q, va_up_self]
      exact Nat.min_le_left ..
    · rw [va_up_ne _ _ q]
      exact Nat.le_refl _
  refine ⟨t1, t2, t3, t4, t5, t6, t7, t8, t9, ?_, ?_, ?_, ?_, ?_, t15, t16, t17, ?_⟩
  · intro u h
    by_cases q : u = v
    · subst q
      obtain ⟨h1, w, h2, h3, h4⟩ := t10 u h
      rw [va_up_self]
      refine ⟨Nat.le_trans (Nat.min_le_left ..) h1, ?_⟩
      rcases Nat.le_total (low u) (num (hits i)) with q2 | q2
      · exact ⟨w, h2, by rw [h3]; exact (Nat.min_eq_left q2).symm, h4⟩
      · exact ⟨hits i, ⟨hn0, hs⟩, (Nat.min_eq_right q2).symm, hg_R_one he⟩
    · rw [va_up_ne _ _ q]
      exact t10 u h
  · intro u h hn
    exact Nat.lt_of_le_of_lt (lle u) (t11 u h hn)
  · intro u j h hj hjc he2
    by_cases q : u = v
    · subst q
      rw [va_up_self] at hj
      by_cases q2 : j = i
      · subst q2
        refine ⟨hn0, Or.inr (Or.inl ?_)⟩
        rw [va_up_self]
        exact Nat.min_le_right ..
      · obtain ⟨g1, g2⟩ := t12 u j h (by omega) hjc he2
        refine ⟨g1, ?_⟩
        rcases g2 with g2 | g2 | g2
        · exact Or.inl g2
        · exact Or.inr (Or.inl (Nat.le_trans (lle u) g2))
        · exact Or.inr (Or.inr g2)
    · rw [va_up_ne _ _ q] at hj
      rw [va_up_ne _ _ q]
      exact t12 u j h hj hjc he2
  · intro u h hn
    by_cases q : u = v
    · exact absurd (by rw [q]; exact onv) hn
    · rw [va_up_ne _ _ q]
      exact t13 u h hn
  · intro k w h hw hn hlt hnext
    have q : w ≠ v := fun q => hn (by rw [q]; exact onv)
    rw [va_up_ne _ _ q]
    exact Nat.le_trans (lle _) (t14 k w h hw hn hlt hnext)
  · intro u h
    by_cases q : u = v
    · rw [q] at h
      exact absurd h opv.1
    · rw [va_up_ne _ _ q]
      exact t18 u h
/-- the walk goes back from v, whose group isn't closed: there is one above it -/
theorem hg_T_up (hT : hg_T e hits hc num low look stl path pl opn oc last) {v : Nat} (h0 : 0 < pl) (hv : path (pl - 1) = v) (hne : low v ≠ num v) : 2 ≤ pl := by
  obtain ⟨t1, t2, t3, t4, t5, t6, t7, t8, t9, t10, t11, t12, t13, t14, t15, t16, t17, t18⟩ := hT
  have opv : hg_op num stl v := by rw [← hv]; exact t6 (pl - 1) (by omega)
  obtain ⟨h1, w, h2, h3, -⟩ := t10 v opv
  have h4 := t15 w h0 h2
  by_cases q : pl = 1
  · subst q
    have hv' : path 0 = v := hv
    rw [hv'] at h4
    omega
  · omega
theorem hg_T_leave {q : Nat} (hT : hg_T e hits hc num low look stl path (q + 2) opn oc last) {v p : Nat} (hv : path (q + 1) = v) (hp : path q = p) (hlk : hc ≤ look v) (hne : low v ≠ num v) : hg_T e hits hc num (va_up low p (Nat.min (low p) (low v))) look stl path (q + 1) opn oc last := by
  have inj := @hg_T_inj _ _ _ _ _ _ _ _ _ _ _ _ hT
  obtain ⟨t1, t2, t3, t4, t5, t6, t7, t8, t9, t10, t11, t12, t13, t14, t15, t16, t17, t18⟩ := hT
  have opv : hg_op num stl v := by rw [← hv]; exact t6 (q + 1) (by omega)
  have opp : hg_op num stl p := by rw [← hp]; exact t6 q (by omega)
  have npv : num p < num v := by rw [← hp, ← hv]; exact t7 q (q + 1) (by omega) (by omega)
  have hlt : low v < num v := by have := (t10 v opv).1; omega
  have lle : ∀ u, va_up low p (Nat.min (low p) (low v)) u ≤ low u := fun u => by
    by_cases z : u = p
    · rw [z, va_up_self]
      exact Nat.min_le_left ..
    · rw [va_up_ne _ _ z]
      exact Nat.le_refl _
  have lpv : va_up low p (Nat.min (low p) (low v)) p ≤ low v := by rw [va_up_self]; exact Nat.min_le_right ..
  have onp : hg_on path (q + 1) p := ⟨q, by omega, hp⟩
  have onw : ∀ u, hg_on path (q + 2) u → u = v ∨ hg_on path (q + 1) u := fun u z => by
    obtain ⟨k, h1, h2⟩ := z
    by_cases z2 : k = q + 1
    · subst z2
      exact Or.inl (h2.symm.trans hv)
    · exact Or.inr ⟨k, by omega, h2⟩
  have vne : v ≠ p := fun z => by rw [z] at npv; omega
  refine ⟨t1, t2, t3, t4, t5, fun k h => t6 k (by omega), fun i j hij hj => t7 i j hij (by omega), t8, fun k w h hw hle => t9 k w (by omega) hw hle, ?_, ?_, ?_, ?_, ?_, fun u _ h => t15 u (by omega) h, fun h => by omega, t17, t18⟩
  · intro u h
    by_cases z : u = p
    · subst z
      obtain ⟨h1, w, h2, h3, h4⟩ := t10 u h
      obtain ⟨-, w2, g2, g3, g4⟩ := t10 v opv
      rw [va_up_self]
      refine ⟨Nat.le_trans (Nat.min_le_left ..) h1, ?_⟩
      rcases Nat.le_total (low u) (low v) with z2 | z2
      · exact ⟨w, h2, by rw [h3]; exact (Nat.min_eq_left z2).symm, h4⟩
      · refine ⟨w2, g2, by rw [g3]; exact (Nat.min_eq_right z2).symm, hg_R_trans ?_ g4⟩
        rw [← hp]
        exact t9 q v (by omega) opv (by rw [hp]; omega)
    · rw [va_up_ne _ _ z]
      exact t10 u h
  · intro u h hn
    by_cases z : u = v
    · rw [z, va_up_ne _ _ vne]
      exact hlt
    · exact Nat.lt_of_le_of_lt (lle u) (t11 u h (fun z2 => (onw u z2).elim z hn))
  · intro u i h hi hic he
    obtain ⟨g1, g2⟩ := t12 u i h hi hic he
    refine ⟨g1, ?_⟩
    rcases g2 with g2 | g2 | ⟨k, g2, g3, g4⟩
    · exact Or.inl g2
    · exact Or.inr (Or.inl (Nat.le_trans (lle u) g2))
    · by_cases z : k = q
      · subst z
        refine Or.inr (Or.inl ?_)
        rw [← g3, hp, ← g4, hv]
        exact Nat.le_trans lpv (Nat.le_of_lt hlt)
      · exact Or.inr (Or.inr ⟨k, by omega, g3, g4⟩)
  · intro u h hn
    by_cases z : u = v
    · rw [z]
      exact hlk
    · exact t13 u h (fun z2 => (onw u z2).elim z hn)
  · intro k w h hw hn hlt2 hnext
    have wp : w ≠ p := fun z => hn (by rw [z]; exact onp)
    rw [va_up_ne _ _ wp]
    by_cases zk : k = q
    · subst zk
      rw [hp] at hlt2 ⊢
      by_cases zw : w = v
      · rw [zw]
        exact lpv
      · have hn2 : ¬ hg_on path (k + 2) w := fun z2 => (onw w z2).elim zw hn
        rcases Nat.lt_trichotomy (num w) (num v) with z | z | z
        · refine Nat.le_trans (lle p) ?_
          have := t14 k w (by omega) hw hn2 (by rw [hp]; exact hlt2) (fun _ => by rw [hv]; exact z)
          rw [hp] at this
          exact this
        · exact absurd (inj hw opv z) zw
        · refine Nat.le_trans lpv ?_
          have := t14 (k + 1) w (by omega) hw hn2 (by rw [hv]; exact z) (fun z3 => by omega)
          rw [hv] at this
          exact this
    · have hk2 := hnext (by omega)
      have zw : w ≠ v := fun z => by
        rw [z] at hk2
        by_cases z3 : k + 1 = q + 1
        · omega
        · have := t7 (k + 1) (q + 1) (by omega) (by omega)
          rw [hv] at this
          omega
      exact Nat.le_trans (lle _) (t14 k w (by omega) hw (fun z2 => (onw w z2).elim zw hn) hlt2 (fun _ => hk2))
/-- the group of v: what is open from v on -/
def hg_G (num : Nat → Nat) (stl : Nat → Prop) (v w : Nat) : Prop := hg_op num stl w ∧ num v ≤ num w
theorem hg_T_fin (hT : hg_T e hits hc num low look stl path pl opn oc last) {v w : Nat} (h0 : 0 < pl) (hv : path (pl - 1) = v) (hw : hg_G num stl v w) (hne : w ≠ v) : ¬ hg_on path pl w ∧ num v < num w ∧ low v ≤ low w := by
  have inj := @hg_T_inj _ _ _ _ _ _ _ _ _ _ _ _ hT
  obtain ⟨t1, t2, t3, t4, t5, t6, t7, t8, t9, t10, t11, t12, t13, t14, t15, t16, t17, t18⟩ := hT
  have opv : hg_op num stl v := by rw [← hv]; exact t6 (pl - 1) (by omega)
  have hn : ¬ hg_on path pl w := fun z => by
    obtain ⟨k, h1, h2⟩ := z
    by_cases z2 : k = pl - 1
    · rw [z2, hv] at h2
      exact hne h2.symm
    · have := t7 k (pl - 1) (by omega) (by omega)
      rw [h2, hv] at this
      have := hw.2
      omega
  have hlt : num v < num w := by
    have h1 := hw.2
    by_cases z : num v = num w
    · exact absurd (inj opv hw.1 z).symm hne
    · omega
  refine ⟨hn, hlt, ?_⟩
  have := t14 (pl - 1) w (by omega) hw.1 hn (by rw [hv]; exact hlt) (fun z => by omega)
  rw [hv] at this
  exact this
/-- no step leaves the group but to what is settled -/
theorem hg_T_out (hT : hg_T e hits hc num low look stl path pl opn oc last) (hee : ∀ a b, e a b → ∃ i, i < hc ∧ hits i = b) {v : Nat} (h0 : 0 < pl) (hv : path (pl - 1) = v) (hlk : hc ≤ look v) (heq : low v = num v) {u x : Nat} (hu : hg_G num stl v u) (he : e u x) : stl x ∨ hg_G num stl v x := by
  have fin := fun w (hw : hg_G num stl v w) (hne : w ≠ v) => hg_T_fin hT h0 hv hw hne
  obtain ⟨t1, t2, t3, t4, t5, t6, t7, t8, t9, t10, t11, t12, t13, t14, t15, t16, t17, t18⟩ := hT
  obtain ⟨i, hi, ei⟩ := hee u x he
  have hlow : num v ≤ low u := by
    by_cases z : u = v
    · rw [z, heq]
      exact Nat.le_refl _
    · rw [← heq]
      exact (fin u hu z).2.2
  have hlook : hc ≤ look u := by
    by_cases z : u = v
    · rw [z]
      exact hlk
    · exact t13 u hu.1 (fin u hu z).1
  obtain ⟨g1, g2⟩ := t12 u i hu.1 (by omega) hi (by rw [ei]; exact he)
  rw [ei] at g1 g2
  by_cases hs : stl x
  · exact Or.inl hs
  · refine Or.inr ⟨⟨g1, hs⟩, ?_⟩
    rcases g2 with g2 | g2 | ⟨k, g2, g3, g4⟩
    · exact absurd g2 hs
    · omega
    · exfalso
      have := hu.2
      have h3 : num u < num v := by
        rw [← g3, ← hv]
        exact t7 k (pl - 1) (by omega) (by omega)
      omega
theorem hg_T_back (hT : hg_T e hits hc num low look stl path pl opn oc last) {v : Nat} (h0 : 0 < pl) (hv : path (pl - 1) = v) (heq : low v = num v) : ∀ (n w : Nat), num w < n → hg_G num stl v w → hg_R e w v
  | 0, w, h, _ => by omega
  | n + 1, w, h, hw => by
    by_cases z : w = v
    · rw [z]
      exact hg_R_refl e v
    · obtain ⟨f1, f2, f3⟩ := hg_T_fin hT h0 hv hw z
      have hlow := hT.2.2.2.2.2.2.2.2.2.2.1 w hw.1 f1
      obtain ⟨-, w2, g2, g3, g4⟩ := hT.2.2.2.2.2.2.2.2.2.1 w hw.1
      exact hg_R_trans g4 (hg_T_back hT h0 hv heq n w2 (by omega) ⟨g2, by omega⟩)
theorem hg_T_down (hT : hg_T e hits hc num low look stl path pl opn oc last) {v w : Nat} (h0 : 0 < pl) (hv : path (pl - 1) = v) (hw : hg_G num stl v w) : hg_R e v w := by
  have t9 := hT.2.2.2.2.2.2.2.2.1
  have := t9 (pl - 1) w (by omega) hw.1 (by rw [hv]; exact hw.2)
  rw [hv] at this
  exact this
/-- the group of v is closed -/
theorem hg_T_close (hT : hg_T e hits hc num low look stl path pl opn oc last) (hee : ∀ a b, e a b → ∃ i, i < hc ∧ hits i = b) {v oc' : Nat} {stl' : Nat → Prop} (h0 : 0 < pl) (hv : path (pl - 1) = v) (hlk : hc ≤ look v) (heq : low v = num v)
    (hs : ∀ u, stl' u ↔ stl u ∨ hg_G num stl v u) (ho : oc' ≤ oc) (hlo : ∀ k, k < oc' → num (opn k) < num v) (hhi : ∀ k, oc' ≤ k → k < oc → num v ≤ num (opn k)) : hg_T e hits hc num low look stl' path (pl - 1) opn oc' last := by
  have out := fun u x (hu : hg_G num stl v u) (he : e u x) => hg_T_out hT hee h0 hv hlk heq hu he
  obtain ⟨t1, t2, t3, t4, t5, t6, t7, t8, t9, t10, t11, t12, t13, t14, t15, t16, t17, t18⟩ := hT
  have opv : hg_op num stl v := by rw [← hv]; exact t6 (pl - 1) (by omega)
  have gv : hg_G num stl v v := ⟨opv, Nat.le_refl _⟩
  have opo : ∀ u, hg_op num stl' u → hg_op num stl u ∧ num u < num v := fun u h => by
    have h1 : hg_op num stl u := ⟨h.1, fun z => h.2 ((hs u).2 (Or.inl z))⟩
    refine ⟨h1, ?_⟩
    by_cases z : num v ≤ num u
    · exact absurd ((hs u).2 (Or.inr ⟨h1, z⟩)) h.2
    · omega
  have opn' : ∀ u, hg_op num stl u → num u < num v → hg_op num stl' u := fun u h hl => ⟨h.1, fun z => ((hs u).1 z).elim h.2 (fun z2 => by have := z2.2; omega)⟩
  have vno : ∀ u, hg_op num stl' u → u ≠ v := fun u h z => by
    have := (opo u h).2
    rw [z] at this
    omega
  have onw : ∀ u, hg_on path pl u → u = v ∨ hg_on path (pl - 1) u := fun u z => by
    obtain ⟨k, h1, h2⟩ := z
    by_cases z2 : k = pl - 1
    · subst z2
      exact Or.inl (h2.symm.trans hv)
    · exact Or.inr ⟨k, by omega, h2⟩
  refine ⟨?_, t2, ?_, ?_, fun i j hij hj => t5 i j hij (by omega), ?_, fun i j hij hj => t7 i j hij (by omega), ?_, ?_, ?_, ?_, ?_, ?_, ?_, ?_, ?_, t17, t18⟩
  · intro u h
    rcases (hs u).1 h with z | z
    · exact t1 u z
    · exact z.1.1
  · intro k h
    exact opn' _ (t3 k (by omega)) (hlo k h)
  · intro u h
    obtain ⟨h1, h2⟩ := opo u h
    obtain ⟨k, h3, h4⟩ := t4 u h1
    refine ⟨k, ?_, h4⟩
    by_cases z : k < oc'
    · exact z
    · have := hhi k (by omega) h3
      rw [h4] at this
      omega
  · intro k h
    refine opn' _ (t6 k (by omega)) ?_
    rw [← hv]
    exact t7 k (pl - 1) h (by omega)
  · intro u x h he
    rcases (hs u).1 h with z | z
    · exact (hs x).2 (Or.inl (t8 u x z he))
    · exact (hs x).2 (out u x z he)
  · intro k w h hw hle
    exact t9 k w (by omega) (opo w hw).1 hle
  · intro u h
    obtain ⟨h1, h2⟩ := opo u h
    obtain ⟨g1, w, g2, g3, g4⟩ := t10 u h1
    exact ⟨g1, w, opn' w g2 (by omega), g3, g4⟩
  · intro u h hn
    exact t11 u (opo u h).1 (fun z => (onw u z).elim (vno u h) hn)
  · intro u i h hi hic he
    obtain ⟨g1, g2⟩ := t12 u i (opo u h).1 hi hic he
    refine ⟨g1, ?_⟩
    rcases g2 with g2 | g2 | ⟨k, g2, g3, g4⟩
    · exact Or.inl ((hs _).2 (Or.inl g2))
    · exact Or.inr (Or.inl g2)
    · by_cases z : k + 1 = pl - 1
      · refine Or.inl ((hs _).2 (Or.inr ?_))
        rw [← g4, z, hv]
        exact gv
      · exact Or.inr (Or.inr ⟨k, by omega, g3, g4⟩)
  · intro u h hn
    exact t13 u (opo u h).1 (fun z => (onw u z).elim (vno u h) hn)
  · intro k w h hw hn hlt hnext
    refine t14 k w (by omega) (opo w hw).1 (fun z => (onw w z).elim (vno w hw) hn) hlt (fun z => ?_)
    by_cases z2 : k + 1 = pl - 1
    · rw [z2, hv]
      exact (opo w hw).2
    · exact hnext (by omega)
  · intro u h hu
    exact t15 u h0 (opo u hu).1
  · intro h
    by_cases z : oc' = 0
    · exact z
    · exfalso
      have h1 := hlo 0 (by omega)
      have h2 := t15 (opn 0) h0 (t3 0 (by omega))
      have h3 : path 0 = v := by
        rw [← hv]
        congr 1
        omega
      rw [h3] at h2
      omega
/-- what the closing tells: rounds -/
theorem hg_T_round (hT : hg_T e hits hc num low look stl path pl opn oc last) {v : Nat} (h0 : 0 < pl) (hv : path (pl - 1) = v) (heq : low v = num v) (hbig : e v v ∨ ∃ w, hg_G num stl v w ∧ w ≠ v) {u : Nat} (hu : hg_G num stl v u) : hg_O e u := by
  have back := fun w (hw : hg_G num stl v w) => hg_T_back hT h0 hv heq (num w + 1) w (by omega) hw
  have down := fun w (hw : hg_G num stl v w) => hg_T_down hT h0 hv hw
  by_cases z : u = v
  · subst z
    rcases hbig with h | ⟨w, h1, h2⟩
    · exact ⟨u, h, hg_R_refl e u⟩
    · exact hg_O_pair (Ne.symm h2) (down w h1) (back w h1)
  · exact hg_O_pair z (back u hu) (down u hu)
/-- and none where v is alone and has no step to itself; all below it are settled -/
theorem hg_T_alone (hT : hg_T e hits hc num low look stl path pl opn oc last) (hee : ∀ a b, e a b → ∃ i, i < hc ∧ hits i = b) {v : Nat} (h0 : 0 < pl) (hv : path (pl - 1) = v) (hlk : hc ≤ look v) (heq : low v = num v) (hno : ¬ e v v) (hal : ∀ w, hg_G num stl v w → w = v) : ¬ hg_O e v ∧ ∀ x, e v x → stl x := by
  have t6 := hT.2.2.2.2.2.1
  have t8 := hT.2.2.2.2.2.2.2.1
  have opv : hg_op num stl v := by rw [← hv]; exact t6 (pl - 1) (by omega)
  have all : ∀ x, e v x → stl x := fun x he => by
    rcases hg_T_out hT hee h0 hv hlk heq ⟨opv, Nat.le_refl _⟩ he with z | z
    · exact z
    · exact absurd (by rw [hal x z] at he; exact he) hno
  refine ⟨fun z => ?_, all⟩
  obtain ⟨w, h1, h2⟩ := z
  exact opv.2 (hg_R_closed (P := stl) (fun a b h he => t8 a b h he) (all w h1) h2)
end HGT
end
section
/-! pure rows for the reference's own loops: the queue of comesBack, the hit loop, the rank loop -/
/-- f: where it began; met: what was queued behind it; q, size: the queue; at: how many of it are done -/
def hg_C (e : Nat → Nat → Prop) (N f : Nat) (met : Nat → Prop) (q : Nat → Nat) (size at1 : Nat) : Prop :=
  q 0 = f ∧ 1 ≤ size ∧
  (∀ k, 1 ≤ k → k < size → met (q k)) ∧
  (∀ g, met g → g < N ∧ g ≠ f ∧ (∃ k, 1 ≤ k ∧ k < size ∧ q k = g) ∧ ∃ w, e f w ∧ hg_R e w g) ∧
  hg_cn (fun g => met g ∨ g = f) N = size ∧
  (∀ k g, k < at1 → k < size → e (q k) g → met g)
section HGC
variable {e : Nat → Nat → Prop} {N f : Nat} {met : Nat → Prop} {q : Nat → Nat} {size at1 : Nat}
theorem hg_C_0 (hf : f < N) (hm : ∀ g, ¬ met g) (hq : q 0 = f) : hg_C e N f met q 1 0 := by
  refine ⟨hq, Nat.le_refl 1, fun k h1 h2 => by omega, fun g h => absurd h (hm g), ?_, fun k g h => by omega⟩
  have h1 : hg_cn (fun g => met g ∨ g = f) N = hg_cn (fun g => (fun _ => False) g ∨ g = f) N := hg_cn_congr N (fun k _ => ⟨fun h => h.elim (fun z => absurd z (hm k)) Or.inr, fun h => h.elim (fun z => z.elim) Or.inr⟩)
  rw [h1, hg_cn_add (P := fun _ => False) (fun z => z) N, hg_cn_0, hg_b_t hf]
/-- what the queue holds is reached -/
theorem hg_C_at (h : hg_C e N f met q size at1) {k : Nat} (hk : k < size) : q k = f ∨ ∃ w, e f w ∧ hg_R e w (q k) := by
  obtain ⟨h1, h2, h3, h4, h5, h6⟩ := h
  by_cases z : k = 0
  · subst z
    exact Or.inl h1
  · exact Or.inr (h4 _ (h3 k (by omega) hk)).2.2.2
theorem hg_C_lt (h : hg_C e N f met q size at1) (hf : f < N) {k : Nat} (hk : k < size) : q k < N := by
  obtain ⟨h1, h2, h3, h4, h5, h6⟩ := h
  by_cases z : k = 0
  · subst z
    rw [h1]
    exact hf
  · exact (h4 _ (h3 k (by omega) hk)).1
theorem hg_C_ret (h : hg_C e N f met q size at1) {k : Nat} (hk : k < size) (he : e (q k) f) : hg_O e f := by
  rcases hg_C_at h hk with z | ⟨w, h1, h2⟩
  · rw [z] at he
    exact ⟨f, he, hg_R_refl e f⟩
  · exact ⟨w, h1, hg_R_trans h2 (hg_R_one he)⟩
theorem hg_C_add (h : hg_C e N f met q size at1) {g : Nat} (ha : at1 < size) (he : e (q at1) g) (hg : g < N) (hm : ¬ met g) (hf : g ≠ f) : size < N ∧ hg_C e N f (fun k => met k ∨ k = g) (va_up q size g) (size + 1) at1 := by
  have hat := hg_C_at h ha
  obtain ⟨h1, h2, h3, h4, h5, h6⟩ := h
  have hno : ¬ (met g ∨ g = f) := fun z => z.elim hm hf
  have hsz : size < N := by
    rw [← h5]
    exact hg_cn_room hno hg
  have qk : ∀ k, k < size → va_up q size g k = q k := fun k hk => va_up_ne _ _ (by omega)
  have qs : va_up q size g size = g := va_up_self ..
  refine ⟨hsz, by rw [qk 0 (by omega)]; exact h1, by omega, fun k g1 g2 => ?_, fun x hx => ?_, ?_, fun k x g1 g2 g3 => ?_⟩
  · by_cases z : k = size
    · rw [z, qs]
      exact Or.inr rfl
    · rw [qk k (by omega)]
      exact Or.inl (h3 k g1 (by omega))
  · rcases hx with z | z
    · obtain ⟨a1, a2, ⟨k, b1, b2, b3⟩, a4⟩ := h4 x z
      exact ⟨a1, a2, ⟨k, b1, by omega, by rw [qk k b2]; exact b3⟩, a4⟩
    · subst z
      refine ⟨hg, hf, ⟨size, h2, by omega, qs⟩, ?_⟩
      rcases hat with y | ⟨w, y1, y2⟩
      · rw [y] at he
        exact ⟨x, he, hg_R_refl e x⟩
      · exact ⟨w, y1, hg_R_trans y2 (hg_R_one he)⟩
  · have a1 : hg_cn (fun k => (met k ∨ k = g) ∨ k = f) N = hg_cn (fun k => (met k ∨ k = f) ∨ k = g) N := hg_cn_congr N (fun k _ => ⟨fun z => z.elim (fun y => y.elim (fun x => Or.inl (Or.inl x)) Or.inr) (fun y => Or.inl (Or.inr y)), fun z => z.elim (fun y => y.elim (fun x => Or.inl (Or.inl x)) Or.inr) (fun y => Or.inl (Or.inr y))⟩)
    rw [a1, hg_cn_add (P := fun k => met k ∨ k = f) hno N, h5, hg_b_t hg]
  · have hk : k < size := by omega
    rw [qk k hk] at g3
    exact Or.inl (h6 k x g1 hk g3)
theorem hg_C_done (h : hg_C e N f met q size at1) (hn : ∀ g, e (q at1) g → met g) : hg_C e N f met q size (at1 + 1) := by
  obtain ⟨h1, h2, h3, h4, h5, h6⟩ := h
  refine ⟨h1, h2, h3, h4, h5, fun k g g1 g2 g3 => ?_⟩
  by_cases z : k = at1
  · rw [z] at g3
    exact hn g g3
  · exact h6 k g (by omega) g2 g3
theorem hg_C_end (h : hg_C e N f met q size size) : ¬ hg_O e f := by
  obtain ⟨h1, h2, h3, h4, h5, h6⟩ := h
  intro z
  obtain ⟨w, g1, g2⟩ := z
  have hw : met w := h6 0 w (by omega) (by omega) (by rw [h1]; exact g1)
  have hf : met f := hg_R_closed (P := met) (fun a b ha hab => by
    obtain ⟨-, -, ⟨k, b1, b2, b3⟩, -⟩ := h4 a ha
    exact h6 k b b2 b2 (by rw [b3]; exact hab)) hw g2
  exact (h4 f hf).2.1 rfl
end HGC
/-! the rank loop: hs f: f is hit and not round -/
def hg_J (e : Nat → Nat → Prop) (N : Nat) (hs : Nat → Prop) (rk : Nat → Nat) : Prop :=
  (∀ f, f < N → ¬ hs f → rk f = 0) ∧ (∀ f, f < N → hs f → rk f ≤ hg_K e N f ∧ rk f ≤ 1 + hg_mx e rk f N)
section HGJ
variable {e : Nat → Nat → Prop} {N : Nat} {hs : Nat → Prop} {rk : Nat → Nat}
theorem hg_J_0 (h : ∀ f, f < N → rk f = 0) : hg_J e N hs rk := ⟨fun f hf _ => h f hf, fun f hf _ => by rw [h f hf]; exact ⟨Nat.zero_le _, Nat.zero_le _⟩⟩
theorem hg_J_le (hJ : hg_J e N hs rk) {f : Nat} (hf : f < N) : rk f ≤ hg_K e N f := by
  by_cases z : hs f
  · exact (hJ.2 f hf z).1
  · rw [hJ.1 f hf z]
    exact Nat.zero_le _
theorem hg_J_up (hJ : hg_J e N hs rk) {f : Nat} (hf : f < N) (hh : hs f) (ho : ¬ hg_O e f) (hne : rk f ≠ hg_mx e rk f N + 1) : hg_J e N hs (va_up rk f (hg_mx e rk f N + 1)) ∧ hg_sm (fun g => hg_K e N g - va_up rk f (hg_mx e rk f N + 1) g) N < hg_sm (fun g => hg_K e N g - rk g) N := by
  have h1 := hJ.2 f hf hh
  have hlt : rk f < hg_mx e rk f N + 1 := by omega
  have hK : hg_mx e rk f N + 1 ≤ hg_K e N f := by
    rw [hg_K_n ho]
    have := hg_mx_le (e := e) (K := rk) (L := hg_K e N) (f := f) N (fun g hg _ => hg_J_le hJ hg)
    omega
  have up : ∀ g, rk g ≤ va_up rk f (hg_mx e rk f N + 1) g := fun g => by
    by_cases z : g = f
    · rw [z, va_up_self]
      omega
    · rw [va_up_ne _ _ z]
      exact Nat.le_refl _
  refine ⟨⟨fun g hg hn => ?_, fun g hg hn => ?_⟩, ?_⟩
  · rw [va_up_ne _ _ (fun z => hn (by rw [z]; exact hh))]
    exact hJ.1 g hg hn
  · have hm := hg_mx_le (e := e) (K := rk) (L := va_up rk f (hg_mx e rk f N + 1)) (f := g) N (fun x _ _ => up x)
    by_cases z : g = f
    · subst z
      rw [va_up_self]
      exact ⟨hK, by omega⟩
    · rw [va_up_ne _ _ z]
      have := hJ.2 g hg hn
      exact ⟨this.1, by omega⟩
  · refine hg_sm_lt (x := f) ?_ N hf (fun k _ => ?_)
    · show hg_K e N f - va_up rk f (hg_mx e rk f N + 1) f < hg_K e N f - rk f
      rw [va_up_self]
      omega
    · show hg_K e N k - va_up rk f (hg_mx e rk f N + 1) k ≤ hg_K e N k - rk k
      have := up k
      omega
/-- nothing changed: they are the ranks (of those that are hit) -/
theorem hg_J_end {ht : Nat → Prop} (hJ : hg_J e N hs rk) (hse : ∀ f, hs f ↔ ht f ∧ ¬ hg_O e f) (hee : ∀ f g, e f g → ht f ∧ ht g) (hfix : ∀ f, f < N → hs f → rk f = hg_mx e rk f N + 1) {f : Nat} (hf : f < N) (hh : ht f) : rk f = hg_K e N f := by
  have hL : ∀ g, g < N → hg_mx e (fun x => hg_b (ht x) * rk x + (1 - hg_b (ht x))) g N = hg_mx e rk g N := fun g _ => hg_mx_congr N (fun x _ he => by
    show hg_b (ht x) * rk x + (1 - hg_b (ht x)) = rk x
    rw [hg_bK_t (hee g x he).2, hg_b_t (hee g x he).2]
    omega)
  have h := hg_K_uniq (e := e) (N := N) (L := fun x => hg_b (ht x) * rk x + (1 - hg_b (ht x))) (fun g hg ho => ?_) (fun g hg ho => ?_) hf
  · have h2 : hg_b (ht f) * rk f + (1 - hg_b (ht f)) = hg_K e N f := h
    rw [hg_bK_t hh, hg_b_t hh] at h2
    omega
  · show hg_b (ht g) * rk g + (1 - hg_b (ht g)) = 0
    have hg2 : ht g := by
      obtain ⟨w, h1, -⟩ := ho
      exact (hee g w h1).1
    rw [hg_bK_t hg2, hg_b_t hg2, hJ.1 g hg (fun z => ((hse g).1 z).2 ho)]
  · show hg_b (ht g) * rk g + (1 - hg_b (ht g)) = 1 + hg_mx e (fun x => hg_b (ht x) * rk x + (1 - hg_b (ht x))) g N
    rw [hL g hg]
    by_cases z : ht g
    · rw [hg_bK_t z, hg_b_t z, hfix g hg ((hse g).2 ⟨z, ho⟩)]
      omega
    · have h0 : hg_mx e rk g N = 0 := by
        have h1 := hg_mx_le (e := e) (K := rk) (L := fun _ => 0) (f := g) N (fun x _ he => absurd (hee g x he).1 z)
        have h2 : ∀ n, hg_mx e (fun _ => 0) g n = 0 := fun n => by
          induction n with
          | zero => rfl
          | succ n ih =>
            rw [hg_mx_s, ih]
            show Nat.max 0 (hg_b (e g n) * 0) = 0
            rw [Nat.mul_zero]
            rfl
        rw [h2] at h1
        omega
      rw [hg_bK_f z, hg_b_f z, h0]
end HGJ
end
section
/-! more pure rows: the greatest over a list; two numbers; columns of a table -/
theorem hg_mx_ge {e : Nat → Nat → Prop} {K : Nat → Nat} {f g : Nat} (he : e f g) : ∀ n, g < n → K g ≤ hg_mx e K f n
  | 0, h => by omega
  | n + 1, h => by
    rw [hg_mx_s]
    by_cases z : g = n
    · subst z
      rw [hg_bK_t he]
      exact Nat.le_max_right ..
    · exact Nat.le_trans (hg_mx_ge he n (by omega)) (Nat.le_max_left ..)
theorem hg_mx_bd {e : Nat → Nat → Prop} {K : Nat → Nat} {f b : Nat} : ∀ n, (∀ g, g < n → e f g → K g ≤ b) → hg_mx e K f n ≤ b
  | 0, _ => Nat.zero_le _
  | n + 1, h => by
    rw [hg_mx_s]
    refine Nat.max_le.mpr ⟨hg_mx_bd n (fun g hg => h g (by omega)), ?_⟩
    by_cases z : e f n
    · rw [hg_bK_t z]
      exact h n (by omega) z
    · rw [hg_bK_f z]
      exact Nat.zero_le _
/-- the greatest over the first n of a list, of those that P holds of -/
noncomputable def hg_lm (P : Nat → Prop) (K : Nat → Nat) (hits : Nat → Nat) : Nat → Nat
  | 0 => 0
  | n + 1 => Nat.max (hg_lm P K hits n) (hg_b (P (hits n)) * K (hits n))
theorem hg_lm_s (P : Nat → Prop) (K : Nat → Nat) (hits : Nat → Nat) (n : Nat) : hg_lm P K hits (n + 1) = Nat.max (hg_lm P K hits n) (hg_b (P (hits n)) * K (hits n)) := rfl
theorem hg_lm_t {P : Nat → Prop} {K : Nat → Nat} {hits : Nat → Nat} {n : Nat} (h : P (hits n)) : hg_lm P K hits (n + 1) = Nat.max (hg_lm P K hits n) (K (hits n)) := by rw [hg_lm_s, hg_bK_t h]
theorem hg_lm_f {P : Nat → Prop} {K : Nat → Nat} {hits : Nat → Nat} {n : Nat} (h : ¬ P (hits n)) : hg_lm P K hits (n + 1) = hg_lm P K hits n := by
  rw [hg_lm_s, hg_bK_f h]
  exact Nat.max_eq_left (Nat.zero_le _)
theorem hg_lm_ge {P : Nat → Prop} {K : Nat → Nat} {hits : Nat → Nat} {i : Nat} (h : P (hits i)) : ∀ n, i < n → K (hits i) ≤ hg_lm P K hits n
  | 0, hn => by omega
  | n + 1, hn => by
    by_cases z : i = n
    · subst z
      rw [hg_lm_t h]
      exact Nat.le_max_right ..
    · rw [hg_lm_s]
      exact Nat.le_trans (hg_lm_ge h n (by omega)) (Nat.le_max_left ..)
theorem hg_lm_bd {P : Nat → Prop} {K : Nat → Nat} {hits : Nat → Nat} {b : Nat} : ∀ n, (∀ i, i < n → P (hits i) → K (hits i) ≤ b) → hg_lm P K hits n ≤ b
  | 0, _ => Nat.zero_le _
  | n + 1, h => by
    have h1 := hg_lm_bd n (fun i hi => h i (by omega))
    by_cases z : P (hits n)
    · rw [hg_lm_t z]
      exact Nat.max_le.mpr ⟨h1, h n (by omega) z⟩
    · rw [hg_lm_f z]
      exact h1
theorem hg_lm_mx {e : Nat → Nat → Prop} {P : Nat → Prop} {K : Nat → Nat} {hits : Nat → Nat} {f n N : Nat} (h1 : ∀ i, i < n → P (hits i) → e f (hits i) ∧ hits i < N) (h2 : ∀ g, g < N → e f g → ∃ i, i < n ∧ hits i = g ∧ P (hits i)) : hg_lm P K hits n = hg_mx e K f N := by
  refine Nat.le_antisymm (hg_lm_bd n fun i hi hp => ?_) (hg_mx_bd N fun g hg he => ?_)
  · obtain ⟨a1, a2⟩ := h1 i hi hp
    exact hg_mx_ge a1 N a2
  · obtain ⟨i, a1, a2, a3⟩ := h2 g hg he
    rw [← a2]
    exact hg_lm_ge a3 n a1
/-! the greater and the lesser of two, as the machine has them -/
theorem hg_imax {a b : Nat} (ha : a < 2 ^ 31) (hb : b < 2 ^ 31) : (if nI a < nI b then nI b else nI a) = nI (Nat.max a b) := by
  by_cases h : a < b
  · rw [if_pos ((nI_ltI ha hb).mpr h)]
    congr 1
    exact (Nat.max_eq_right (Nat.le_of_lt h)).symm
  · rw [if_neg (fun z => h ((nI_ltI ha hb).mp z))]
    congr 1
    exact (Nat.max_eq_left (by omega)).symm
theorem hg_imin {a b : Nat} (ha : a < 2 ^ 31) (hb : b < 2 ^ 31) : (if nI b < nI a then nI b else nI a) = nI (Nat.min a b) := by
  by_cases h : b < a
  · rw [if_pos ((nI_ltI hb ha).mpr h)]
    congr 1
    exact (Nat.min_eq_right (Nat.le_of_lt h)).symm
  · rw [if_neg (fun z => h ((nI_ltI hb ha).mp z))]
    congr 1
    exact (Nat.min_eq_left (by omega)).symm
theorem hg_b0 {P : Prop} (h : hg_b P = 0) : ¬ P := fun z => by rw [hg_b_t z] at h; omega
theorem hg_b1 {P : Prop} (h : hg_b P ≠ 0) : P := by
  by_cases z : P
  · exact z
  · exact absurd (hg_b_f z) h
end
section
/-! Int32 by its bits: the first rows out of kit/laws/BITS.to-paste (family bt), then the columns of a row -/
def bt (x : Int32) (i : Nat) : Bool := x.toBitVec.getLsbD i
theorem b_ext {x y : Int32} (h : ∀ i, i < 32 → bt x i = bt y i) : x = y := Int32.toBitVec_inj.mp (BitVec.eq_of_getLsbD_eq (fun i hi => h i hi))
theorem b_or (x y : Int32) (i : Nat) : bt (x ||| y) i = (bt x i || bt y i) := by unfold bt; rw [Int32.toBitVec_or, BitVec.getLsbD_or]
theorem b_and (x y : Int32) (i : Nat) : bt (x &&& y) i = (bt x i && bt y i) := by unfold bt; rw [Int32.toBitVec_and, BitVec.getLsbD_and]
theorem b_0 (i : Nat) : bt 0 i = false := BitVec.getLsbD_zero
/-- the bits of the columns l .. r -/
def hg_cb (l r : Nat) : Int32 := (((nI 1) <<< ((nI (r - l + 1)) &&& 31)) - (nI 1)) <<< ((nI l) &&& 31)
theorem hg_cb_bt : ∀ l, l < 20 → ∀ r, r < 20 → l ≤ r → ∀ i, i < 32 → bt (hg_cb l r) i = decide (l ≤ i ∧ i ≤ r) := by decide +kernel
theorem hg_and0 {x y : Int32} : x &&& y = 0 ↔ ∀ i, i < 32 → ¬ (bt x i = true ∧ bt y i = true) := by
  constructor
  · intro h i _ q
    have h1 := b_and x y i
    rw [h, b_0, q.1, q.2] at h1
    cases h1
  · intro h
    refine b_ext fun i hi => ?_
    rw [b_and, b_0]
    cases h1 : bt x i
    · rfl
    · cases h2 : bt y i
      · rfl
      · exact absurd ⟨h1, h2⟩ (h i hi)
/-- a row of columns, one bit each, none from 20 on -/
def hg_row (x : Int32) (p : Nat → Prop) : Prop := ∀ i, i < 32 → (bt x i = true ↔ i < 20 ∧ p i)
theorem hg_row_0 : hg_row (nI 0) (fun _ => False) := fun i _ => by
  rw [nI_0, b_0]
  exact ⟨fun h => (by cases h), fun h => h.2.elim⟩
theorem hg_row_cb {l r : Nat} (hl : l ≤ r) (hr : r < 20) : hg_row (hg_cb l r) (fun i => l ≤ i ∧ i ≤ r) := fun i hi => by
  rw [hg_cb_bt l (by omega) r hr hl i hi, decide_eq_true_iff]
  exact ⟨fun h => ⟨by omega, h⟩, fun h => h.2⟩
theorem hg_row_or {x y : Int32} {p q : Nat → Prop} (hx : hg_row x p) (hy : hg_row y q) : hg_row (x ||| y) (fun i => p i ∨ q i) := fun i hi => by
  rw [b_or, Bool.or_eq_true, hx i hi, hy i hi]
  exact ⟨fun h => h.elim (fun z => ⟨z.1, Or.inl z.2⟩) (fun z => ⟨z.1, Or.inr z.2⟩), fun h => h.2.elim (fun z => Or.inl ⟨h.1, z⟩) (fun z => Or.inr ⟨h.1, z⟩)⟩
theorem hg_row_to {x : Int32} {p q : Nat → Prop} (hx : hg_row x p) (h : ∀ i, i < 20 → (p i ↔ q i)) : hg_row x q := fun i hi => by
  rw [hx i hi]
  exact ⟨fun z => ⟨z.1, (h i z.1).1 z.2⟩, fun z => ⟨z.1, (h i z.1).2 z.2⟩⟩
theorem hg_row_and {x y : Int32} {p q : Nat → Prop} (hx : hg_row x p) (hy : hg_row y q) : ¬ x &&& y = 0 ↔ ∃ i, i < 20 ∧ p i ∧ q i := by
  rw [hg_and0]
  constructor
  · intro h
    by_cases g : ∃ i, i < 20 ∧ p i ∧ q i
    · exact g
    · exfalso
      refine h fun i hi z => g ?_
      have h1 := (hx i hi).1 z.1
      have h2 := (hy i hi).1 z.2
      exact ⟨i, h1.1, h1.2, h2.2⟩
  · intro ⟨i, hi, h1, h2⟩ h
    exact h i (by omega) ⟨(hx i (by omega)).2 ⟨hi, h1⟩, (hy i (by omega)).2 ⟨hi, h2⟩⟩
end
section
/-! the class's cells by kind: 0 the graph, 1 over, 2 dirtyRows, 3 the sweep, 4 live, 5 hits, 6 path, 7 open, 8 a formula by its first cell, 9 its spoken rows; the rest is μ's. G: the counts; N: a formula's numbers by field and first cell; bc: its columns -/
def hg_w (ad : Nat → Nat → Nat) (cF cI : ClassId) (G : Nat → Nat) (a : Nat → Nat → Option Nat) (dr : Nat → Int32) (N : Nat → Nat → Nat) (bc : Nat → Int32) (sp : Nat → Nat → Int32) (μ : Nat → Nat → va_E) (k i : Nat) : va_E := match k with
  | 0 => .inr (0, [.ref (ad 1 0), .ref (ad 2 0), .ref (ad 3 0), .int (nI (G 0))])
  | 1 => .inl (cF, 400, .inr (.inr (.inr (.inr (a 0)))))
  | 2 => .inl (cI, 20, .inl dr)
  | 3 => .inr (2, [.ref (ad 4 0), .int (nI (G 1)), .ref (ad 5 0), .int (nI (G 2)), .ref (ad 6 0), .int (nI (G 3)), .ref (ad 7 0), .int (nI (G 4)), .int (nI (G 5))])
  | 4 => .inl (cF, 400, .inr (.inr (.inr (.inr (a 1)))))
  | 5 => .inl (cF, 400, .inr (.inr (.inr (.inr (a 2)))))
  | 6 => .inl (cF, 400, .inr (.inr (.inr (.inr (a 3)))))
  | 7 => .inl (cF, 400, .inr (.inr (.inr (.inr (a 4)))))
  | 8 => .inr (1, [.int (nI (N 0 i)), .int (nI (N 1 i)), .int (nI (N 2 i)), .int (nI (N 3 i)), .int (nI (N 4 i)), .int (bc i), .ref (ad 9 i), .int (nI (N 7 i)), .int (nI (N 8 i)), .int (nI (N 9 i)), .int (nI (N 10 i)), .int (nI (N 11 i)), .int (nI (N 12 i)), .int (nI (N 13 i)), .int (nI (N 14 i))])
  | 9 => .inl (cI, 20, .inl (sp i))
  | k => μ k i
/-- the cells of which there is one each -/
def hg_ok (ok : Nat → Nat → Prop) : Prop := (∀ k, k < 8 → ok k 0) ∧ ∀ k i, ok k i → k < 8 → i = 0
section HGW
variable {ad : Nat → Nat → Nat} {cF cI : ClassId} {G : Nat → Nat} {a : Nat → Nat → Option Nat} {dr : Nat → Int32} {N : Nat → Nat → Nat} {bc : Nat → Int32} {sp : Nat → Nat → Int32} {μ : Nat → Nat → va_E}
theorem hg_w_N0 (u v : Nat) : tg_up (hg_w ad cF cI G a dr N bc sp μ) 8 u (.inr (1, ([.int (nI (N 0 u)), .int (nI (N 1 u)), .int (nI (N 2 u)), .int (nI (N 3 u)), .int (nI (N 4 u)), .int (bc u), .ref (ad 9 u), .int (nI (N 7 u)), .int (nI (N 8 u)), .int (nI (N 9 u)), .int (nI (N 10 u)), .int (nI (N 11 u)), .int (nI (N 12 u)), .int (nI (N 13 u)), .int (nI (N 14 u))] : List Value).set 0 (.int (nI v)))) = hg_w ad cF cI G a dr (tg_up N 0 u v) bc sp μ := by
  funext k i
  by_cases h : k = 8 ∧ i = u
  · obtain ⟨rfl, rfl⟩ := h
    rw [tg_up_self]
    simp [hg_w, tg_up]
  · rw [tg_up_ne _ _ h]
    by_cases hk : k = 8
    · subst hk
      have hi : i ≠ u := fun z => h ⟨rfl, z⟩
      simp [hg_w, tg_up, hi]
    · unfold hg_w
      split <;> first | rfl | exact absurd rfl hk
theorem hg_w_N1 (u v : Nat) : tg_up (hg_w ad cF cI G a dr N bc sp μ) 8 u (.inr (1, ([.int (nI (N 0 u)), .int (nI (N 1 u)), .int (nI (N 2 u)), .int (nI (N 3 u)), .int (nI (N 4 u)), .int (bc u), .ref (ad 9 u), .int (nI (N 7 u)), .int (nI (N 8 u)), .int (nI (N 9 u)), .int (nI (N 10 u)), .int (nI (N 11 u)), .int (nI (N 12 u)), .int (nI (N 13 u)), .int (nI (N 14 u))] : List Value).set 1 (.int (nI v)))) = hg_w ad cF cI G a dr (tg_up N 1 u v) bc sp μ := by
  funext k i
  by_cases h : k = 8 ∧ i = u
  · obtain ⟨rfl, rfl⟩ := h
    rw [tg_up_self]
    simp [hg_w, tg_up]
  · rw [tg_up_ne _ _ h]
    by_cases hk : k = 8
    · subst hk
      have hi : i ≠ u := fun z => h ⟨rfl, z⟩
      simp [hg_w, tg_up, hi]
    · unfold hg_w
      split <;> first | rfl | exact absurd rfl hk
theorem hg_w_N2 (u v : Nat) : tg_up (hg_w ad cF cI G a dr N bc sp μ) 8 u (.inr (1, ([.int (nI (N 0 u)), .int (nI (N 1 u)), .int (nI (N 2 u)), .int (nI (N 3 u)), .int (nI (N 4 u)), .int (bc u), .ref (ad 9 u), .int (nI (N 7 u)), .int (nI (N 8 u)), .int (nI (N 9 u)), .int (nI (N 10 u)), .int (nI (N 11 u)), .int (nI (N 12 u)), .int (nI (N 13 u)), .int (nI (N 14 u))] : List Value).set 2 (.int (nI v)))) = hg_w ad cF cI G a dr (tg_up N 2 u v) bc sp μ := by
  funext k i
  by_cases h : k = 8 ∧ i = u
  · obtain ⟨rfl, rfl⟩ := h
    rw [tg_up_self]
    simp [hg_w, tg_up]
  · rw [tg_up_ne _ _ h]
    by_cases hk : k = 8
    · subst hk
      have hi : i ≠ u := fun z => h ⟨rfl, z⟩
      simp [hg_w, tg_up, hi]
    · unfold hg_w
      split <;> first | rfl | exact absurd rfl hk
theorem hg_w_N3 (u v : Nat) : tg_up (hg_w ad cF cI G a dr N bc sp μ) 8 u (.inr (1, ([.int (nI (N 0 u)), .int (nI (N 1 u)), .int (nI (N 2 u)), .int (nI (N 3 u)), .int (nI (N 4 u)), .int (bc u), .ref (ad 9 u), .int (nI (N 7 u)), .int (nI (N 8 u)), .int (nI (N 9 u)), .int (nI (N 10 u)), .int (nI (N 11 u)), .int (nI (N 12 u)), .int (nI (N 13 u)), .int (nI (N 14 u))] : List Value).set 3 (.int (nI v)))) = hg_w ad cF cI G a dr (tg_up N 3 u v) bc sp μ := by
  funext k i
  by_cases h : k = 8 ∧ i = u
  · obtain ⟨rfl, rfl⟩ := h
    rw [tg_up_self]
    simp [hg_w, tg_up]
  · rw [tg_up_ne _ _ h]
    by_cases hk : k = 8
    · subst hk
      have hi : i ≠ u := fun z => h ⟨rfl, z⟩
      simp [hg_w, tg_up, hi]
    · unfold hg_w
      split <;> first | rfl | exact absurd rfl hk
theorem hg_w_N4 (u v : Nat) : tg_up (hg_w ad cF cI G a dr N bc sp μ) 8 u (.inr (1, ([.int (nI (N 0 u)), .int (nI (N 1 u)), .int (nI (N 2 u)), .int (nI (N 3 u)), .int (nI (N 4 u)), .int (bc u), .ref (ad 9 u), .int (nI (N 7 u)), .int (nI (N 8 u)), .int (nI (N 9 u)), .int (nI (N 10 u)), .int (nI (N 11 u)), .int (nI (N 12 u)), .int (nI (N 13 u)), .int (nI (N 14 u))] : List Value).set 4 (.int (nI v)))) = hg_w ad cF cI G a dr (tg_up N 4 u v) bc sp μ := by
  funext k i
  by_cases h : k = 8 ∧ i = u
  · obtain ⟨rfl, rfl⟩ := h
    rw [tg_up_self]
    simp [hg_w, tg_up]
  · rw [tg_up_ne _ _ h]
    by_cases hk : k = 8
    · subst hk
      have hi : i ≠ u := fun z => h ⟨rfl, z⟩
      simp [hg_w, tg_up, hi]
    · unfold hg_w
      split <;> first | rfl | exact absurd rfl hk
theorem hg_w_N7 (u v : Nat) : tg_up (hg_w ad cF cI G a dr N bc sp μ) 8 u (.inr (1, ([.int (nI (N 0 u)), .int (nI (N 1 u)), .int (nI (N 2 u)), .int (nI (N 3 u)), .int (nI (N 4 u)), .int (bc u), .ref (ad 9 u), .int (nI (N 7 u)), .int (nI (N 8 u)), .int (nI (N 9 u)), .int (nI (N 10 u)), .int (nI (N 11 u)), .int (nI (N 12 u)), .int (nI (N 13 u)), .int (nI (N 14 u))] : List Value).set 7 (.int (nI v)))) = hg_w ad cF cI G a dr (tg_up N 7 u v) bc sp μ := by
  funext k i
  by_cases h : k = 8 ∧ i = u
  · obtain ⟨rfl, rfl⟩ := h
    rw [tg_up_self]
    simp [hg_w, tg_up]
  · rw [tg_up_ne _ _ h]
    by_cases hk : k = 8
    · subst hk
      have hi : i ≠ u := fun z => h ⟨rfl, z⟩
      simp [hg_w, tg_up, hi]
    · unfold hg_w
      split <;> first | rfl | exact absurd rfl hk
theorem hg_w_N8 (u v : Nat) : tg_up (hg_w ad cF cI G a dr N bc sp μ) 8 u (.inr (1, ([.int (nI (N 0 u)), .int (nI (N 1 u)), .int (nI (N 2 u)), .int (nI (N 3 u)), .int (nI (N 4 u)), .int (bc u), .ref (ad 9 u), .int (nI (N 7 u)), .int (nI (N 8 u)), .int (nI (N 9 u)), .int (nI (N 10 u)), .int (nI (N 11 u)), .int (nI (N 12 u)), .int (nI (N 13 u)), .int (nI (N 14 u))] : List Value).set 8 (.int (nI v)))) = hg_w ad cF cI G a dr (tg_up N 8 u v) bc sp μ := by
  funext k i
  by_cases h : k = 8 ∧ i = u
  · obtain ⟨rfl, rfl⟩ := h
    rw [tg_up_self]
    simp [hg_w, tg_up]
  · rw [tg_up_ne _ _ h]
    by_cases hk : k = 8
    · subst hk
      have hi : i ≠ u := fun z => h ⟨rfl, z⟩
      simp [hg_w, tg_up, hi]
    · unfold hg_w
      split <;> first | rfl | exact absurd rfl hk
theorem hg_w_N9 (u v : Nat) : tg_up (hg_w ad cF cI G a dr N bc sp μ) 8 u (.inr (1, ([.int (nI (N 0 u)), .int (nI (N 1 u)), .int (nI (N 2 u)), .int (nI (N 3 u)), .int (nI (N 4 u)), .int (bc u), .ref (ad 9 u), .int (nI (N 7 u)), .int (nI (N 8 u)), .int (nI (N 9 u)), .int (nI (N 10 u)), .int (nI (N 11 u)), .int (nI (N 12 u)), .int (nI (N 13 u)), .int (nI (N 14 u))] : List Value).set 9 (.int (nI v)))) = hg_w ad cF cI G a dr (tg_up N 9 u v) bc sp μ := by
  funext k i
  by_cases h : k = 8 ∧ i = u
  · obtain ⟨rfl, rfl⟩ := h
    rw [tg_up_self]
    simp [hg_w, tg_up]
  · rw [tg_up_ne _ _ h]
    by_cases hk : k = 8
    · subst hk
      have hi : i ≠ u := fun z => h ⟨rfl, z⟩
      simp [hg_w, tg_up, hi]
    · unfold hg_w
      split <;> first | rfl | exact absurd rfl hk
theorem hg_w_N10 (u v : Nat) : tg_up (hg_w ad cF cI G a dr N bc sp μ) 8 u (.inr (1, ([.int (nI (N 0 u)), .int (nI (N 1 u)), .int (nI (N 2 u)), .int (nI (N 3 u)), .int (nI (N 4 u)), .int (bc u), .ref (ad 9 u), .int (nI (N 7 u)), .int (nI (N 8 u)), .int (nI (N 9 u)), .int (nI (N 10 u)), .int (nI (N 11 u)), .int (nI (N 12 u)), .int (nI (N 13 u)), .int (nI (N 14 u))] : List Value).set 10 (.int (nI v)))) = hg_w ad cF cI G a dr (tg_up N 10 u v) bc sp μ := by
  funext k i
  by_cases h : k = 8 ∧ i = u
  · obtain ⟨rfl, rfl⟩ := h
    rw [tg_up_self]
    simp [hg_w, tg_up]
  · rw [tg_up_ne _ _ h]
    by_cases hk : k = 8
    · subst hk
      have hi : i ≠ u := fun z => h ⟨rfl, z⟩
      simp [hg_w, tg_up, hi]
    · unfold hg_w
      split <;> first | rfl | exact absurd rfl hk
theorem hg_w_N11 (u v : Nat) : tg_up (hg_w ad cF cI G a dr N bc sp μ) 8 u (.inr (1, ([.int (nI (N 0 u)), .int (nI (N 1 u)), .int (nI (N 2 u)), .int (nI (N 3 u)), .int (nI (N 4 u)), .int (bc u), .ref (ad 9 u), .int (nI (N 7 u)), .int (nI (N 8 u)), .int (nI (N 9 u)), .int (nI (N 10 u)), .int (nI (N 11 u)), .int (nI (N 12 u)), .int (nI (N 13 u)), .int (nI (N 14 u))] : List Value).set 11 (.int (nI v)))) = hg_w ad cF cI G a dr (tg_up N 11 u v) bc sp μ := by
  funext k i
  by_cases h : k = 8 ∧ i = u
  · obtain ⟨rfl, rfl⟩ := h
    rw [tg_up_self]
    simp [hg_w, tg_up]
  · rw [tg_up_ne _ _ h]
    by_cases hk : k = 8
    · subst hk
      have hi : i ≠ u := fun z => h ⟨rfl, z⟩
      simp [hg_w, tg_up, hi]
    · unfold hg_w
      split <;> first | rfl | exact absurd rfl hk
theorem hg_w_N12 (u v : Nat) : tg_up (hg_w ad cF cI G a dr N bc sp μ) 8 u (.inr (1, ([.int (nI (N 0 u)), .int (nI (N 1 u)), .int (nI (N 2 u)), .int (nI (N 3 u)), .int (nI (N 4 u)), .int (bc u), .ref (ad 9 u), .int (nI (N 7 u)), .int (nI (N 8 u)), .int (nI (N 9 u)), .int (nI (N 10 u)), .int (nI (N 11 u)), .int (nI (N 12 u)), .int (nI (N 13 u)), .int (nI (N 14 u))] : List Value).set 12 (.int (nI v)))) = hg_w ad cF cI G a dr (tg_up N 12 u v) bc sp μ := by
  funext k i
  by_cases h : k = 8 ∧ i = u
  · obtain ⟨rfl, rfl⟩ := h
    rw [tg_up_self]
    simp [hg_w, tg_up]
  · rw [tg_up_ne _ _ h]
    by_cases hk : k = 8
    · subst hk
      have hi : i ≠ u := fun z => h ⟨rfl, z⟩
      simp [hg_w, tg_up, hi]
    · unfold hg_w
      split <;> first | rfl | exact absurd rfl hk
theorem hg_w_N13 (u v : Nat) : tg_up (hg_w ad cF cI G a dr N bc sp μ) 8 u (.inr (1, ([.int (nI (N 0 u)), .int (nI (N 1 u)), .int (nI (N 2 u)), .int (nI (N 3 u)), .int (nI (N 4 u)), .int (bc u), .ref (ad 9 u), .int (nI (N 7 u)), .int (nI (N 8 u)), .int (nI (N 9 u)), .int (nI (N 10 u)), .int (nI (N 11 u)), .int (nI (N 12 u)), .int (nI (N 13 u)), .int (nI (N 14 u))] : List Value).set 13 (.int (nI v)))) = hg_w ad cF cI G a dr (tg_up N 13 u v) bc sp μ := by
  funext k i
  by_cases h : k = 8 ∧ i = u
  · obtain ⟨rfl, rfl⟩ := h
    rw [tg_up_self]
    simp [hg_w, tg_up]
  · rw [tg_up_ne _ _ h]
    by_cases hk : k = 8
    · subst hk
      have hi : i ≠ u := fun z => h ⟨rfl, z⟩
      simp [hg_w, tg_up, hi]
    · unfold hg_w
      split <;> first | rfl | exact absurd rfl hk
theorem hg_w_N14 (u v : Nat) : tg_up (hg_w ad cF cI G a dr N bc sp μ) 8 u (.inr (1, ([.int (nI (N 0 u)), .int (nI (N 1 u)), .int (nI (N 2 u)), .int (nI (N 3 u)), .int (nI (N 4 u)), .int (bc u), .ref (ad 9 u), .int (nI (N 7 u)), .int (nI (N 8 u)), .int (nI (N 9 u)), .int (nI (N 10 u)), .int (nI (N 11 u)), .int (nI (N 12 u)), .int (nI (N 13 u)), .int (nI (N 14 u))] : List Value).set 14 (.int (nI v)))) = hg_w ad cF cI G a dr (tg_up N 14 u v) bc sp μ := by
  funext k i
  by_cases h : k = 8 ∧ i = u
  · obtain ⟨rfl, rfl⟩ := h
    rw [tg_up_self]
    simp [hg_w, tg_up]
  · rw [tg_up_ne _ _ h]
    by_cases hk : k = 8
    · subst hk
      have hi : i ≠ u := fun z => h ⟨rfl, z⟩
      simp [hg_w, tg_up, hi]
    · unfold hg_w
      split <;> first | rfl | exact absurd rfl hk
theorem hg_w_G0 {ok : Nat → Nat → Prop} (hO : hg_ok ok) (v : Nat) : ∀ k i, ok k i → tg_up (hg_w ad cF cI G a dr N bc sp μ) 0 0 (.inr (0, ([.ref (ad 1 0), .ref (ad 2 0), .ref (ad 3 0), .int (nI (G 0))] : List Value).set 3 (.int (nI v)))) k i = hg_w ad cF cI (va_up G 0 v) a dr N bc sp μ k i := by
  intro k i ho
  by_cases hk : k = 0
  · subst hk
    have hi := hO.2 0 i ho (by decide)
    subst hi
    rw [tg_up_self]
    simp [hg_w, va_up]
  · rw [tg_up_ne _ _ (fun z => hk z.1)]
    unfold hg_w
    split <;> first | rfl | (simp [va_up]; done) | exact absurd rfl hk
theorem hg_w_G1 {ok : Nat → Nat → Prop} (hO : hg_ok ok) (v : Nat) : ∀ k i, ok k i → tg_up (hg_w ad cF cI G a dr N bc sp μ) 3 0 (.inr (2, ([.ref (ad 4 0), .int (nI (G 1)), .ref (ad 5 0), .int (nI (G 2)), .ref (ad 6 0), .int (nI (G 3)), .ref (ad 7 0), .int (nI (G 4)), .int (nI (G 5))] : List Value).set 1 (.int (nI v)))) k i = hg_w ad cF cI (va_up G 1 v) a dr N bc sp μ k i := by
  intro k i ho
  by_cases hk : k = 3
  · subst hk
    have hi := hO.2 3 i ho (by decide)
    subst hi
    rw [tg_up_self]
    simp [hg_w, va_up]
  · rw [tg_up_ne _ _ (fun z => hk z.1)]
    unfold hg_w
    split <;> first | rfl | (simp [va_up]; done) | exact absurd rfl hk
theorem hg_w_G2 {ok : Nat → Nat → Prop} (hO : hg_ok ok) (v : Nat) : ∀ k i, ok k i → tg_up (hg_w ad cF cI G a dr N bc sp μ) 3 0 (.inr (2, ([.ref (ad 4 0), .int (nI (G 1)), .ref (ad 5 0), .int (nI (G 2)), .ref (ad 6 0), .int (nI (G 3)), .ref (ad 7 0), .int (nI (G 4)), .int (nI (G 5))] : List Value).set 3 (.int (nI v)))) k i = hg_w ad cF cI (va_up G 2 v) a dr N bc sp μ k i := by
  intro k i ho
  by_cases hk : k = 3
  · subst hk
    have hi := hO.2 3 i ho (by decide)
    subst hi
    rw [tg_up_self]
    simp [hg_w, va_up]
  · rw [tg_up_ne _ _ (fun z => hk z.1)]
    unfold hg_w
    split <;> first | rfl | (simp [va_up]; done) | exact absurd rfl hk
theorem hg_w_G3 {ok : Nat → Nat → Prop} (hO : hg_ok ok) (v : Nat) : ∀ k i, ok k i → tg_up (hg_w ad cF cI G a dr N bc sp μ) 3 0 (.inr (2, ([.ref (ad 4 0), .int (nI (G 1)), .ref (ad 5 0), .int (nI (G 2)), .ref (ad 6 0), .int (nI (G 3)), .ref (ad 7 0), .int (nI (G 4)), .int (nI (G 5))] : List Value).set 5 (.int (nI v)))) k i = hg_w ad cF cI (va_up G 3 v) a dr N bc sp μ k i := by
  intro k i ho
  by_cases hk : k = 3
  · subst hk
    have hi := hO.2 3 i ho (by decide)
    subst hi
    rw [tg_up_self]
    simp [hg_w, va_up]
  · rw [tg_up_ne _ _ (fun z => hk z.1)]
    unfold hg_w
    split <;> first | rfl | (simp [va_up]; done) | exact absurd rfl hk
theorem hg_w_G4 {ok : Nat → Nat → Prop} (hO : hg_ok ok) (v : Nat) : ∀ k i, ok k i → tg_up (hg_w ad cF cI G a dr N bc sp μ) 3 0 (.inr (2, ([.ref (ad 4 0), .int (nI (G 1)), .ref (ad 5 0), .int (nI (G 2)), .ref (ad 6 0), .int (nI (G 3)), .ref (ad 7 0), .int (nI (G 4)), .int (nI (G 5))] : List Value).set 7 (.int (nI v)))) k i = hg_w ad cF cI (va_up G 4 v) a dr N bc sp μ k i := by
  intro k i ho
  by_cases hk : k = 3
  · subst hk
    have hi := hO.2 3 i ho (by decide)
    subst hi
    rw [tg_up_self]
    simp [hg_w, va_up]
  · rw [tg_up_ne _ _ (fun z => hk z.1)]
    unfold hg_w
    split <;> first | rfl | (simp [va_up]; done) | exact absurd rfl hk
theorem hg_w_G5 {ok : Nat → Nat → Prop} (hO : hg_ok ok) (v : Nat) : ∀ k i, ok k i → tg_up (hg_w ad cF cI G a dr N bc sp μ) 3 0 (.inr (2, ([.ref (ad 4 0), .int (nI (G 1)), .ref (ad 5 0), .int (nI (G 2)), .ref (ad 6 0), .int (nI (G 3)), .ref (ad 7 0), .int (nI (G 4)), .int (nI (G 5))] : List Value).set 8 (.int (nI v)))) k i = hg_w ad cF cI (va_up G 5 v) a dr N bc sp μ k i := by
  intro k i ho
  by_cases hk : k = 3
  · subst hk
    have hi := hO.2 3 i ho (by decide)
    subst hi
    rw [tg_up_self]
    simp [hg_w, va_up]
  · rw [tg_up_ne _ _ (fun z => hk z.1)]
    unfold hg_w
    split <;> first | rfl | (simp [va_up]; done) | exact absurd rfl hk
theorem hg_w_a0 {ok : Nat → Nat → Prop} (hO : hg_ok ok) (x : Nat) (y : Option Nat) : ∀ k i, ok k i → tg_up (hg_w ad cF cI G a dr N bc sp μ) 1 0 (.inl (cF, 400, .inr (.inr (.inr (.inr (va_up (a 0) x y)))))) k i = hg_w ad cF cI G (va_up a 0 (va_up (a 0) x y)) dr N bc sp μ k i := by
  intro k i ho
  by_cases hk : k = 1
  · subst hk
    have hi := hO.2 1 i ho (by decide)
    subst hi
    rw [tg_up_self]
    simp [hg_w, va_up_self]
  · rw [tg_up_ne _ _ (fun z => hk z.1)]
    unfold hg_w
    split <;> first | rfl | (rw [va_up_ne _ _ (by decide)]; done) | exact absurd rfl hk
theorem hg_w_a1 {ok : Nat → Nat → Prop} (hO : hg_ok ok) (x : Nat) (y : Option Nat) : ∀ k i, ok k i → tg_up (hg_w ad cF cI G a dr N bc sp μ) 4 0 (.inl (cF, 400, .inr (.inr (.inr (.inr (va_up (a 1) x y)))))) k i = hg_w ad cF cI G (va_up a 1 (va_up (a 1) x y)) dr N bc sp μ k i := by
  intro k i ho
  by_cases hk : k = 4
  · subst hk
    have hi := hO.2 4 i ho (by decide)
    subst hi
    rw [tg_up_self]
    simp [hg_w, va_up_self]
  · rw [tg_up_ne _ _ (fun z => hk z.1)]
    unfold hg_w
    split <;> first | rfl | (rw [va_up_ne _ _ (by decide)]; done) | exact absurd rfl hk
theorem hg_w_a2 {ok : Nat → Nat → Prop} (hO : hg_ok ok) (x : Nat) (y : Option Nat) : ∀ k i, ok k i → tg_up (hg_w ad cF cI G a dr N bc sp μ) 5 0 (.inl (cF, 400, .inr (.inr (.inr (.inr (va_up (a 2) x y)))))) k i = hg_w ad cF cI G (va_up a 2 (va_up (a 2) x y)) dr N bc sp μ k i := by
  intro k i ho
  by_cases hk : k = 5
  · subst hk
    have hi := hO.2 5 i ho (by decide)
    subst hi
    rw [tg_up_self]
    simp [hg_w, va_up_self]
  · rw [tg_up_ne _ _ (fun z => hk z.1)]
    unfold hg_w
    split <;> first | rfl | (rw [va_up_ne _ _ (by decide)]; done) | exact absurd rfl hk
theorem hg_w_a3 {ok : Nat → Nat → Prop} (hO : hg_ok ok) (x : Nat) (y : Option Nat) : ∀ k i, ok k i → tg_up (hg_w ad cF cI G a dr N bc sp μ) 6 0 (.inl (cF, 400, .inr (.inr (.inr (.inr (va_up (a 3) x y)))))) k i = hg_w ad cF cI G (va_up a 3 (va_up (a 3) x y)) dr N bc sp μ k i := by
  intro k i ho
  by_cases hk : k = 6
  · subst hk
    have hi := hO.2 6 i ho (by decide)
    subst hi
    rw [tg_up_self]
    simp [hg_w, va_up_self]
  · rw [tg_up_ne _ _ (fun z => hk z.1)]
    unfold hg_w
    split <;> first | rfl | (rw [va_up_ne _ _ (by decide)]; done) | exact absurd rfl hk
theorem hg_w_a4 {ok : Nat → Nat → Prop} (hO : hg_ok ok) (x : Nat) (y : Option Nat) : ∀ k i, ok k i → tg_up (hg_w ad cF cI G a dr N bc sp μ) 7 0 (.inl (cF, 400, .inr (.inr (.inr (.inr (va_up (a 4) x y)))))) k i = hg_w ad cF cI G (va_up a 4 (va_up (a 4) x y)) dr N bc sp μ k i := by
  intro k i ho
  by_cases hk : k = 7
  · subst hk
    have hi := hO.2 7 i ho (by decide)
    subst hi
    rw [tg_up_self]
    simp [hg_w, va_up_self]
  · rw [tg_up_ne _ _ (fun z => hk z.1)]
    unfold hg_w
    split <;> first | rfl | (rw [va_up_ne _ _ (by decide)]; done) | exact absurd rfl hk
theorem hg_w_dr {ok : Nat → Nat → Prop} (hO : hg_ok ok) (x : Nat) (v : Int32) : ∀ k i, ok k i → tg_up (hg_w ad cF cI G a dr N bc sp μ) 2 0 (.inl (cI, 20, .inl (upd dr x v))) k i = hg_w ad cF cI G a (upd dr x v) N bc sp μ k i := by
  intro k i ho
  by_cases hk : k = 2
  · subst hk
    have hi := hO.2 2 i ho (by decide)
    subst hi
    rw [tg_up_self]
    rfl
  · rw [tg_up_ne _ _ (fun z => hk z.1)]
    unfold hg_w
    split <;> first | rfl | exact absurd rfl hk
theorem hg_w_sp (u x : Nat) (v : Int32) : tg_up (hg_w ad cF cI G a dr N bc sp μ) 9 u (.inl (cI, 20, .inl (upd (sp u) x v))) = hg_w ad cF cI G a dr N bc (va_up sp u (upd (sp u) x v)) μ := by
  funext k i
  by_cases h : k = 9 ∧ i = u
  · obtain ⟨rfl, rfl⟩ := h
    rw [tg_up_self]
    simp [hg_w, va_up_self]
  · rw [tg_up_ne _ _ h]
    by_cases hk : k = 9
    · subst hk
      have hi : i ≠ u := fun z => h ⟨rfl, z⟩
      simp [hg_w, va_up_ne _ _ hi]
    · unfold hg_w
      split <;> first | rfl | exact absurd rfl hk
end HGW
end
section
/-! the formula's own methods -/
abbrev hg_tys (cI cF cZ cJ cA cB : ClassId) : List (ClassId × FieldType) := [(cI, .int), (cF, .object "HangGraph$Formula"), (cZ, .boolean), (cJ, .long), (cA, .array .int), (cB, .array .boolean)]
/-- f hangs on g: a row of g's block where f speaks of one of its columns -/
def hg_hk (N : Nat → Nat → Nat) (bc : Nat → Int32) (sp : Nat → Nat → Int32) (f g : Nat) : Prop := ∃ row, N 1 g ≤ row ∧ row ≤ N 3 g ∧ ¬ ((sp f row) &&& (bc g)) = 0
/-- f speaks of a cell of the rows x -/
def hg_hd (sp : Nat → Nat → Int32) (x : Nat → Int32) (f : Nat) : Prop := ∃ row, row < 20 ∧ ¬ ((sp f row) &&& (x row)) = 0
/-- f's block has a cell of the rows x -/
def hg_hh (N : Nat → Nat → Nat) (bc : Nat → Int32) (x : Nat → Int32) (f : Nat) : Prop := ∃ row, N 1 f ≤ row ∧ row ≤ N 3 f ∧ ¬ ((bc f) &&& (x row)) = 0
section HGF
variable {l : Launch} {D : va_G} {F : Nat → Prop} {Nn : State → Heap → Prop} {ad : Nat → Nat → Nat} {ok : Nat → Nat → Prop} {cF cI cZ cJ cA cB : ClassId} {G : Nat → Nat} {a : Nat → Nat → Option Nat} {dr : Nat → Int32} {N : Nat → Nat → Nat} {bc : Nat → Int32} {sp : Nat → Nat → Int32} {μ : Nat → Nat → va_E} {T : Nat → Prop}
/-- a formula forgets the last sweep -/
def hg_fg (N : Nat → Nat → Nat) (f : Nat) : Nat → Nat → Nat := (tg_up (tg_up (tg_up (tg_up (tg_up (tg_up (tg_up N 8 f 0) 9 f 0) 10 f 0) 11 f 0) 12 f 0) 13 f 0) 14 f 0)
set_option maxRecDepth 100000 in
set_option maxHeartbeats 4000000 in
/-- forget -/
theorem c_forget (hO : hg_ok ok) (hT : ∀ f, T f → ok 8 f ∧ ok 9 f) (f : Nat) (hf : T f) : tg_Met l yF_forget wsF_forget ({ frames := 0, cells := 0, slots := 0, locals := 0 }) D vwCl (hg_tys cI cF cZ cJ cA cB) F Nn ad ok (hg_w ad cF cI G a dr N bc sp μ) [.ref (ad 8 f)] (tg_po ad ok fun r w1 => r = none ∧ w1 = hg_w ad cF cI G a dr (hg_fg N f) bc sp μ) := by
  refine tg_start (cc := cF_forget) (maxL := 1) (ret := none) (by decide) rfl (Nat.le_of_ble_eq_true rfl) ?_
  intro p e R s m args below meth c Q hx hb hml hr hlocks hown hname hts hK hN hR hQ
  have hown : s.vm.findClass "HangGraph$Formula" = some m.cls := hown
  have hts : ∀ w ∈ lw_g, w.before args s = true := fun w z => hts w (List.mem_cons_of_mem _ z)
  refine tg_aload_n hx hb dF_forget_0 rfl rfl ?_
  refine tg_iconst (v := nI 0) hx hb dF_forget_1 (by decide +kernel) ?_
  refine tg_put (T := TF) (N := 15) (ty := .boolean) hx hb hts inF tyF tyF_ok nmF hown hK (hT f hf).1 rfl rfl 8 (by decide) (hts _ wf_F_44) (fun _ z => z) rfl (by decide +kernel) (by decide +kernel) (by decide +kernel) (Nat.le_of_ble_eq_true rfl) dF_forget_2 ?_
  refine tg_w (hg_w_N8 f 0) ?_
  refine tg_aload_n hx hb dF_forget_5 rfl rfl ?_
  refine tg_iconst (v := nI 0) hx hb dF_forget_6 (by decide +kernel) ?_
  refine tg_put (T := TF) (N := 15) (ty := .boolean) hx hb hts inF tyF tyF_ok nmF hown hK (hT f hf).1 rfl rfl 9 (by decide) (hts _ wf_F_48) (fun _ z => z) rfl (by decide +kernel) (by decide +kernel) (by decide +kernel) (Nat.le_of_ble_eq_true rfl) dF_forget_7 ?_
  refine tg_w (hg_w_N9 f 0) ?_
  refine tg_aload_n hx hb dF_forget_10 rfl rfl ?_
  refine tg_iconst (v := nI 0) hx hb dF_forget_11 (by decide +kernel) ?_
  refine tg_put (T := TF) (N := 15) (ty := .int) hx hb hts inF tyF tyF_ok nmF hown hK (hT f hf).1 rfl rfl 10 (by decide) (hts _ wf_F_51) (fun _ z => z) rfl (by decide +kernel) rfl rfl (Nat.le_of_ble_eq_true rfl) dF_forget_12 ?_
  refine tg_w (hg_w_N10 f 0) ?_
  refine tg_aload_n hx hb dF_forget_15 rfl rfl ?_
  refine tg_iconst (v := nI 0) hx hb dF_forget_16 (by decide +kernel) ?_
  refine tg_put (T := TF) (N := 15) (ty := .int) hx hb hts inF tyF tyF_ok nmF hown hK (hT f hf).1 rfl rfl 11 (by decide) (hts _ wf_F_54) (fun _ z => z) rfl (by decide +kernel) rfl rfl (Nat.le_of_ble_eq_true rfl) dF_forget_17 ?_
  refine tg_w (hg_w_N11 f 0) ?_
  refine tg_aload_n hx hb dF_forget_20 rfl rfl ?_
  refine tg_iconst (v := nI 0) hx hb dF_forget_21 (by decide +kernel) ?_
  refine tg_put (T := TF) (N := 15) (ty := .int) hx hb hts inF tyF tyF_ok nmF hown hK (hT f hf).1 rfl rfl 12 (by decide) (hts _ wf_F_57) (fun _ z => z) rfl (by decide +kernel) rfl rfl (Nat.le_of_ble_eq_true rfl) dF_forget_22 ?_
  refine tg_w (hg_w_N12 f 0) ?_
  refine tg_aload_n hx hb dF_forget_25 rfl rfl ?_
  refine tg_iconst (v := nI 0) hx hb dF_forget_26 (by decide +kernel) ?_
  refine tg_put (T := TF) (N := 15) (ty := .int) hx hb hts inF tyF tyF_ok nmF hown hK (hT f hf).1 rfl rfl 13 (by decide) (hts _ wf_F_60) (fun _ z => z) rfl (by decide +kernel) rfl rfl (Nat.le_of_ble_eq_true rfl) dF_forget_27 ?_
  refine tg_w (hg_w_N13 f 0) ?_
  refine tg_aload_n hx hb dF_forget_30 rfl rfl ?_
  refine tg_iconst (v := nI 0) hx hb dF_forget_31 (by decide +kernel) ?_
  refine tg_put (T := TF) (N := 15) (ty := .boolean) hx hb hts inF tyF tyF_ok nmF hown hK (hT f hf).1 rfl rfl 14 (by decide) (hts _ wf_F_63) (fun _ z => z) rfl (by decide +kernel) (by decide +kernel) (by decide +kernel) (Nat.le_of_ble_eq_true rfl) dF_forget_32 ?_
  refine tg_w (hg_w_N14 f 0) ?_
  exact tg_vret hx hb hlocks hr hQ ⟨rfl, rfl, rfl, rfl⟩ dF_forget_35
set_option maxRecDepth 100000 in
set_option maxHeartbeats 4000000 in
/-- does f hang on g? -/
theorem c_hangsOn (hO : hg_ok ok) (hT : ∀ f, T f → ok 8 f ∧ ok 9 f) (f g : Nat) (hf : T f) (hg : T g) (hN1 : N 1 g ≤ N 3 g) (hN3 : N 3 g < 20) : tg_Met l yF_hangsOn wsF_hangsOn ({ frames := 0, cells := 0, slots := 0, locals := 0 }) D vwCl (hg_tys cI cF cZ cJ cA cB) F Nn ad ok (hg_w ad cF cI G a dr N bc sp μ) [.ref (ad 8 f), .ref (ad 8 g)] (tg_po ad ok fun r w1 => r = some (.int (nI (hg_b (hg_hk N bc sp f g)))) ∧ w1 = (hg_w ad cF cI G a dr N bc sp μ)) := by
  refine tg_start (cc := cF_hangsOn) (maxL := 3) (ret := some .boolean) (by decide) rfl (Nat.le_of_ble_eq_true rfl) ?_
  intro p e R s m args below meth c Q hx hb hml hr hlocks hown hname hts hK hN hR hQ
  have hown : s.vm.findClass "HangGraph$Formula" = some m.cls := hown
  have hts : ∀ w ∈ lw_g, w.before args s = true := fun w z => hts w (List.mem_cons_of_mem _ z)
  refine tg_aload_n hx hb dF_hangsOn_0 rfl rfl ?_
  refine tg_get (T := TF) (N := 15) hx hb hts inF hown hK (hT g hg).1 rfl rfl 1 (by decide) (hts _ wf_F_19) (fun _ z => z) rfl dF_hangsOn_1 ?_
  refine tg_istore_n (L' := [(0, .ref (ad 8 f)), (1, .ref (ad 8 g)), (2, .int (nI (N 1 g)))]) hx hb dF_hangsOn_4 rfl (by decide) rfl rfl ?_
  refine tg_loop (fun i : Nat => (N 1 g ≤ i ∧ i ≤ 20) ∧ ∀ row, N 1 g ≤ row → row < i → (sp f (row)) &&& (bc g) = 0) (fun i => N 3 g + 1 - i) (fun i => tg_W p l e R s m args below meth c Q 3 D vwCl F ad ok (hg_w ad cF cI G a dr N bc sp μ) [(0, .ref (ad 8 f)), (1, .ref (ad 8 g)), (2, .int (nI (i)))] 0 0 5 []) ?_ (N 1 g) ⟨⟨Nat.le_refl _, by omega⟩, fun row z1 z2 => absurd z1 (Nat.not_le.mpr z2)⟩
  intro i ⟨⟨hi1, hi0⟩, hi2⟩ ih
  refine tg_iload_n hx hb dF_hangsOn_5 rfl rfl ?_
  refine tg_aload_n hx hb dF_hangsOn_6 rfl rfl ?_
  refine tg_get (T := TF) (N := 15) hx hb hts inF hown hK (hT g hg).1 rfl rfl 3 (by decide) (hts _ wf_F_25) (fun _ z => z) rfl dF_hangsOn_7 ?_
  refine tg_icmp_gt (tgt := 35) hx hb dF_hangsOn_10 (by decide) (fun q_1 => ?_) (fun q_1 => ?_)
  · have q_1' := q_1
    have h_2 : N 3 g < i := (nI_ltI (by omega) (by omega)).mp q_1
    refine tg_iconst (v := nI 0) hx hb dF_hangsOn_35 (by decide +kernel) ?_
    have hp : ¬ hg_hk N bc sp f g := fun ⟨row, z1, z2, z3⟩ => z3 (hi2 row z1 (by omega))
    exact tg_zret hx hb hlocks hr hQ (by decide +kernel) ⟨rfl, rfl, by rw [hg_b_f hp], rfl⟩ dF_hangsOn_36
  · have q_1' := q_1
    have h_3 : i ≤ N 3 g := Nat.le_of_not_lt fun z => q_1 ((nI_ltI (by omega) (by omega)).mpr z)
    refine tg_aload_n hx hb dF_hangsOn_13 rfl rfl ?_
    refine tg_get (T := TF) (N := 15) hx hb hts inF hown hK (hT f hf).1 rfl rfl 6 (by decide) (hts _ wf_F_37) (fun _ z => z) rfl dF_hangsOn_14 ?_
    refine tg_iload_n hx hb dF_hangsOn_17 rfl rfl ?_
    refine tg_iald (t0 := 0) hx hb hK (hT f hf).2 rfl rfl (x := i) (by decide) (by omega) dF_hangsOn_18 ?_
    refine tg_aload_n hx hb dF_hangsOn_19 rfl rfl ?_
    refine tg_get (T := TF) (N := 15) hx hb hts inF hown hK (hT g hg).1 rfl rfl 5 (by decide) (hts _ wf_F_34) (fun _ z => z) rfl dF_hangsOn_20 ?_
    refine tg_iand hx hb dF_hangsOn_23 ?_
    refine tg_if_eq (tgt := 29) hx hb dF_hangsOn_24 (by decide) (fun q_4 => ?_) (fun q_4 => ?_)
    · have q_4' := q_4
      refine tg_iinc (v := nI (i + 1)) (L' := [(0, .ref (ad 8 f)), (1, .ref (ad 8 g)), (2, .int (nI (i + 1)))]) hx hb dF_hangsOn_29 rfl (nI_1 _) (by decide) rfl rfl ?_
      refine tg_goto (tgt := 5) hx hb dF_hangsOn_32 (by decide) ?_
      exact ih (i + 1) ⟨⟨Nat.le_succ_of_le hi1, by omega⟩, fun row z1 z2 => by
        rcases Nat.lt_succ_iff_lt_or_eq.mp z2 with z | z
        · exact hi2 row z1 z
        · rw [z]; exact q_4⟩ (by omega)
    · have q_4' := q_4
      refine tg_iconst (v := nI 1) hx hb dF_hangsOn_27 (by decide +kernel) ?_
      have hp : hg_hk N bc sp f g := ⟨i, hi1, by omega, q_4⟩
      exact tg_zret hx hb hlocks hr hQ (by decide +kernel) ⟨rfl, rfl, by rw [hg_b_t hp], rfl⟩ dF_hangsOn_28
set_option maxRecDepth 100000 in
set_option maxHeartbeats 4000000 in
/-- does f speak of a dirty cell? -/
theorem c_hangsOnOneOf (hO : hg_ok ok) (hT : ∀ f, T f → ok 8 f ∧ ok 9 f) (f : Nat) (hf : T f) : tg_Met l yF_hangsOnOneOf wsF_hangsOnOneOf ({ frames := 0, cells := 0, slots := 0, locals := 0 }) D vwCl (hg_tys cI cF cZ cJ cA cB) F Nn ad ok (hg_w ad cF cI G a dr N bc sp μ) [.ref (ad 8 f), .ref (ad 2 0)] (tg_po ad ok fun r w1 => r = some (.int (nI (hg_b (hg_hd sp dr f)))) ∧ w1 = (hg_w ad cF cI G a dr N bc sp μ)) := by
  refine tg_start (cc := cF_hangsOnOneOf) (maxL := 3) (ret := some .boolean) (by decide) rfl (Nat.le_of_ble_eq_true rfl) ?_
  intro p e R s m args below meth c Q hx hb hml hr hlocks hown hname hts hK hN hR hQ
  have hown : s.vm.findClass "HangGraph$Formula" = some m.cls := hown
  have hts : ∀ w ∈ lw_g, w.before args s = true := fun w z => hts w (List.mem_cons_of_mem _ z)
  refine tg_iconst (v := nI 0) hx hb dF_hangsOnOneOf_0 (by decide +kernel) ?_
  refine tg_istore_n (L' := [(0, .ref (ad 8 f)), (1, .ref (ad 2 0)), (2, .int (nI (0)))]) hx hb dF_hangsOnOneOf_1 rfl (by decide) rfl rfl ?_
  refine tg_loop (fun i : Nat => (0 ≤ i ∧ i ≤ 20) ∧ ∀ row, 0 ≤ row → row < i → (sp f (row)) &&& (dr (row)) = 0) (fun i => 20 - i) (fun i => tg_W p l e R s m args below meth c Q 3 D vwCl F ad ok (hg_w ad cF cI G a dr N bc sp μ) [(0, .ref (ad 8 f)), (1, .ref (ad 2 0)), (2, .int (nI (i)))] 0 0 2 []) ?_ (0) ⟨⟨Nat.le_refl _, by omega⟩, fun row z1 z2 => absurd z1 (Nat.not_le.mpr z2)⟩
  intro i ⟨⟨hi1, hi0⟩, hi2⟩ ih
  refine tg_iload_n hx hb dF_hangsOnOneOf_2 rfl rfl ?_
  refine tg_bipush (v := nI 20) hx hb dF_hangsOnOneOf_3 (by decide +kernel) ?_
  refine tg_icmp_ge (tgt := 29) hx hb dF_hangsOnOneOf_5 (by decide) (fun q_1 => ?_) (fun q_1 => ?_)
  · have q_1' := q_1
    have h_2 : 20 ≤ i := (nI_leI (by omega) (by omega)).mp q_1
    refine tg_iconst (v := nI 0) hx hb dF_hangsOnOneOf_29 (by decide +kernel) ?_
    have hp : ¬ hg_hd sp dr f := fun ⟨row, z2, z3⟩ => z3 (hi2 row (Nat.zero_le _) (by omega))
    exact tg_zret hx hb hlocks hr hQ (by decide +kernel) ⟨rfl, rfl, by rw [hg_b_f hp], rfl⟩ dF_hangsOnOneOf_30
  · have q_1' := q_1
    have h_3 : i < 20 := Nat.lt_of_not_le fun z => q_1 ((nI_leI (by omega) (by omega)).mpr z)
    refine tg_aload_n hx hb dF_hangsOnOneOf_8 rfl rfl ?_
    refine tg_get (T := TF) (N := 15) hx hb hts inF hown hK (hT f hf).1 rfl rfl 6 (by decide) (hts _ wf_F_37) (fun _ z => z) rfl dF_hangsOnOneOf_9 ?_
    refine tg_iload_n hx hb dF_hangsOnOneOf_12 rfl rfl ?_
    refine tg_iald (t0 := 0) hx hb hK (hT f hf).2 rfl rfl (x := i) (by decide) (by omega) dF_hangsOnOneOf_13 ?_
    refine tg_aload_n hx hb dF_hangsOnOneOf_14 rfl rfl ?_
    refine tg_iload_n hx hb dF_hangsOnOneOf_15 rfl rfl ?_
    refine tg_iald (t0 := 0) hx hb hK (hO.1 2 (by decide)) rfl rfl (x := i) (by decide) (by omega) dF_hangsOnOneOf_16 ?_
    refine tg_iand hx hb dF_hangsOnOneOf_17 ?_
    refine tg_if_eq (tgt := 23) hx hb dF_hangsOnOneOf_18 (by decide) (fun q_4 => ?_) (fun q_4 => ?_)
    · have q_4' := q_4
      refine tg_iinc (v := nI (i + 1)) (L' := [(0, .ref (ad 8 f)), (1, .ref (ad 2 0)), (2, .int (nI (i + 1)))]) hx hb dF_hangsOnOneOf_23 rfl (nI_1 _) (by decide) rfl rfl ?_
      refine tg_goto (tgt := 2) hx hb dF_hangsOnOneOf_26 (by decide) ?_
      exact ih (i + 1) ⟨⟨Nat.le_succ_of_le hi1, by omega⟩, fun row z1 z2 => by
        rcases Nat.lt_succ_iff_lt_or_eq.mp z2 with z | z
        · exact hi2 row z1 z
        · rw [z]; exact q_4⟩ (by omega)
    · have q_4' := q_4
      refine tg_iconst (v := nI 1) hx hb dF_hangsOnOneOf_21 (by decide +kernel) ?_
      have hp : hg_hd sp dr f := ⟨i, by omega, q_4⟩
      exact tg_zret hx hb hlocks hr hQ (by decide +kernel) ⟨rfl, rfl, by rw [hg_b_t hp], rfl⟩ dF_hangsOnOneOf_22
set_option maxRecDepth 100000 in
set_option maxHeartbeats 4000000 in
/-- has f's block a dirty cell? -/
theorem c_holdsOneOf (hO : hg_ok ok) (hT : ∀ f, T f → ok 8 f ∧ ok 9 f) (f : Nat) (hf : T f) (hN1 : N 1 f ≤ N 3 f) (hN3 : N 3 f < 20) : tg_Met l yF_holdsOneOf wsF_holdsOneOf ({ frames := 0, cells := 0, slots := 0, locals := 0 }) D vwCl (hg_tys cI cF cZ cJ cA cB) F Nn ad ok (hg_w ad cF cI G a dr N bc sp μ) [.ref (ad 8 f), .ref (ad 2 0)] (tg_po ad ok fun r w1 => r = some (.int (nI (hg_b (hg_hh N bc dr f)))) ∧ w1 = (hg_w ad cF cI G a dr N bc sp μ)) := by
  refine tg_start (cc := cF_holdsOneOf) (maxL := 3) (ret := some .boolean) (by decide) rfl (Nat.le_of_ble_eq_true rfl) ?_
  intro p e R s m args below meth c Q hx hb hml hr hlocks hown hname hts hK hN hR hQ
  have hown : s.vm.findClass "HangGraph$Formula" = some m.cls := hown
  have hts : ∀ w ∈ lw_g, w.before args s = true := fun w z => hts w (List.mem_cons_of_mem _ z)
  refine tg_aload_n hx hb dF_holdsOneOf_0 rfl rfl ?_
  refine tg_get (T := TF) (N := 15) hx hb hts inF hown hK (hT f hf).1 rfl rfl 1 (by decide) (hts _ wf_F_19) (fun _ z => z) rfl dF_holdsOneOf_1 ?_
  refine tg_istore_n (L' := [(0, .ref (ad 8 f)), (1, .ref (ad 2 0)), (2, .int (nI (N 1 f)))]) hx hb dF_holdsOneOf_4 rfl (by decide) rfl rfl ?_
  refine tg_loop (fun i : Nat => (N 1 f ≤ i ∧ i ≤ 20) ∧ ∀ row, N 1 f ≤ row → row < i → (bc f) &&& (dr (row)) = 0) (fun i => N 3 f + 1 - i) (fun i => tg_W p l e R s m args below meth c Q 3 D vwCl F ad ok (hg_w ad cF cI G a dr N bc sp μ) [(0, .ref (ad 8 f)), (1, .ref (ad 2 0)), (2, .int (nI (i)))] 0 0 5 []) ?_ (N 1 f) ⟨⟨Nat.le_refl _, by omega⟩, fun row z1 z2 => absurd z1 (Nat.not_le.mpr z2)⟩
  intro i ⟨⟨hi1, hi0⟩, hi2⟩ ih
  refine tg_iload_n hx hb dF_holdsOneOf_5 rfl rfl ?_
  refine tg_aload_n hx hb dF_holdsOneOf_6 rfl rfl ?_
  refine tg_get (T := TF) (N := 15) hx hb hts inF hown hK (hT f hf).1 rfl rfl 3 (by decide) (hts _ wf_F_25) (fun _ z => z) rfl dF_holdsOneOf_7 ?_
  refine tg_icmp_gt (tgt := 32) hx hb dF_holdsOneOf_10 (by decide) (fun q_1 => ?_) (fun q_1 => ?_)
  · have q_1' := q_1
    have h_2 : N 3 f < i := (nI_ltI (by omega) (by omega)).mp q_1
    refine tg_iconst (v := nI 0) hx hb dF_holdsOneOf_32 (by decide +kernel) ?_
    have hp : ¬ hg_hh N bc dr f := fun ⟨row, z1, z2, z3⟩ => z3 (hi2 row z1 (by omega))
    exact tg_zret hx hb hlocks hr hQ (by decide +kernel) ⟨rfl, rfl, by rw [hg_b_f hp], rfl⟩ dF_holdsOneOf_33
  · have q_1' := q_1
    have h_3 : i ≤ N 3 f := Nat.le_of_not_lt fun z => q_1 ((nI_ltI (by omega) (by omega)).mpr z)
    refine tg_aload_n hx hb dF_holdsOneOf_13 rfl rfl ?_
    refine tg_get (T := TF) (N := 15) hx hb hts inF hown hK (hT f hf).1 rfl rfl 5 (by decide) (hts _ wf_F_34) (fun _ z => z) rfl dF_holdsOneOf_14 ?_
    refine tg_aload_n hx hb dF_holdsOneOf_17 rfl rfl ?_
    refine tg_iload_n hx hb dF_holdsOneOf_18 rfl rfl ?_
    refine tg_iald (t0 := 0) hx hb hK (hO.1 2 (by decide)) rfl rfl (x := i) (by decide) (by omega) dF_holdsOneOf_19 ?_
    refine tg_iand hx hb dF_holdsOneOf_20 ?_
    refine tg_if_eq (tgt := 26) hx hb dF_holdsOneOf_21 (by decide) (fun q_4 => ?_) (fun q_4 => ?_)
    · have q_4' := q_4
      refine tg_iinc (v := nI (i + 1)) (L' := [(0, .ref (ad 8 f)), (1, .ref (ad 2 0)), (2, .int (nI (i + 1)))]) hx hb dF_holdsOneOf_26 rfl (nI_1 _) (by decide) rfl rfl ?_
      refine tg_goto (tgt := 5) hx hb dF_holdsOneOf_29 (by decide) ?_
      exact ih (i + 1) ⟨⟨Nat.le_succ_of_le hi1, by omega⟩, fun row z1 z2 => by
        rcases Nat.lt_succ_iff_lt_or_eq.mp z2 with z | z
        · exact hi2 row z1 z
        · rw [z]; exact q_4⟩ (by omega)
    · have q_4' := q_4
      refine tg_iconst (v := nI 1) hx hb dF_holdsOneOf_24 (by decide +kernel) ?_
      have hp : hg_hh N bc dr f := ⟨i, hi1, by omega, q_4⟩
      exact tg_zret hx hb hlocks hr hQ (by decide +kernel) ⟨rfl, rfl, by rw [hg_b_t hp], rfl⟩ dF_holdsOneOf_25
end HGF
end
section
/-! what is known besides the good words: links of nest mates, arrays of rows, texts, exceptions, two statics of Throwable; it outlives every call -/
def hg_AA (t : FieldType) (U : State) : Prop := (Cond.arrayOver (.array t)).before #[] U = true
theorem hg_AA.moved {t : FieldType} {u U : State} (hvm : u.vm.Alike U.vm) (h : hg_AA t u) : hg_AA t U := by
  obtain ⟨comp, c, k, h1, h2, h3, h4, h5⟩ := arrayOverA_spec h
  obtain ⟨k', hk', he⟩ := hvm.2.2 _ _ h3
  have hi := (hvm.findIdx?_eq _ (fun _ => rfl)).trans h2
  have hkind : k'.kind = .array comp (.array t) := by rw [he]; exact h4
  have f1 : U.vm.findClass (FieldType.array t).toString = some comp := by rw [hvm.findClass]; exact h1
  have f2 : U.vm.findClass ("[" ++ (FieldType.array t).toString) = some c := by rw [hvm.findClass]; exact h5
  unfold hg_AA Cond.before Cond.holds
  simp only [Cond.value]
  rw [f1, Option.bind_some]
  refine (congrArg (fun o : Option Nat => (o.bind (fun c => (U.vm.classes[c]?).map fun (k : Class) => match k.kind with | .array _ ty => decide (ty = FieldType.array t) && decide (U.vm.findClass ("[" ++ (FieldType.array t).toString) = some c) | _ => false) == some true)) hi).trans ?_
  simp [hk', hkind, f2]
def hg_strs : List (Nat × String) := [(112, "no such cell"), (114, "the block is empty or beyond the grid"), (120, "blocks would overlap"), (125, "no formula has this first cell"), (116, "the rectangle is empty or beyond the grid"), (59, "the formula has 20 rectangles already"), (93, "what is not 0, 1 or 2")]
def hg_excs : List String := ["java/lang/IllegalArgumentException", "java/lang/IllegalStateException", "java/util/NoSuchElementException", "java/lang/IndexOutOfBoundsException"]
def hg_decl : List MethodName := [⟨"java/lang/RuntimeException", "<init>", "()V"⟩, ⟨"java/lang/RuntimeException", "<init>", "(Ljava/lang/String;)V"⟩, ⟨"java/lang/Exception", "<init>", "()V"⟩, ⟨"java/lang/Exception", "<init>", "(Ljava/lang/String;)V"⟩, ⟨"java/lang/Throwable", "<init>", "()V"⟩, ⟨"java/lang/Throwable", "<init>", "(Ljava/lang/String;)V"⟩]
def hg_nest : List Cond := [.methodLinkNest "HangGraph$Formula" 9 yH_cellAt "HangGraph", .methodLinkNest "HangGraph$Formula" 31 yH_columnBits "HangGraph"]
def hg_N (F : Nat → Prop) (U : State) (H : Heap) : Prop :=
  (∀ w ∈ hg_nest, va_Nw w U) ∧ (va_AO "HangGraph$Formula" U ∧ hg_AA .int U ∧ hg_AA .boolean U) ∧ (∀ q ∈ hg_strs, ∃ sa : Nat, vk_R "HangGraph" q.1 q.2 sa U) ∧ (∀ E ∈ hg_excs, va_Nw (.castable E E) U) ∧ (∀ y ∈ hg_decl, va_Nw (.declares y) U) ∧ (∀ E ∈ hg_excs, ∀ E' ∈ hg_excs, E ≠ E' → va_Nc E E' U) ∧
  vx_Zq Bundle.tN "UNASSIGNED_STACK" Bundle.steD F U H ∧ vx_Zq Bundle.tN "SUPPRESSED_SENTINEL" Bundle.listD F U H
theorem hg_Mv (F : Nat → Prop) : tg_Mv F (hg_N F) := by
  have one : ∀ (u U : State) (H : Heap), u.WarmedH U.vm → hg_N F u H → hg_N F U H := by
    intro u U H hW ⟨h1, ⟨h2, h2a, h2b⟩, h3, h4, h5, h6, h7, h8⟩
    refine ⟨fun w hw => ?_, ⟨h2.moved hW.alike, h2a.moved hW.alike, h2b.moved hW.alike⟩, fun q hq => ?_, fun E hE => (h4 E hE).warmC hW, fun y hy => (h5 y hy).warmD hW, fun E hE E' hE' hne => (h6 E hE E' hE' hne).moved hW.alike, h7.moved hW.alike, h8.moved hW.alike⟩
    · have hz := h1 w hw
      simp only [hg_nest, List.mem_cons, List.not_mem_nil, or_false] at hw
      rcases hw with e | e
      · rw [e] at hz ⊢
        exact va_Nw.warmM hW hz
      · rw [e] at hz ⊢
        exact va_Nw.warmM hW hz
    · obtain ⟨sa, h⟩ := h3 q hq
      exact ⟨sa, h.warm hW⟩
  refine ⟨one, fun u U H hv h => one u U H (by rw [← hv]; exact State.WarmedH.refl u) h, fun U H H1 hz hk h => ?_⟩
  obtain ⟨h1, h2, h3, h4, h5, h6, h7, h8⟩ := h
  exact ⟨h1, h2, h3, h4, h5, h6, h7.kept hk, h8.kept hk⟩
/-- the words of a throw -/
theorem hg_at {F : Nat → Prop} {U : State} {H : Heap} {args : Array Value} (hts : ∀ w ∈ lw_g, w.before args U = true) (hN : hg_N F U H) {E : String} (hE : E ∈ hg_excs) {ic : Nat} (h1 : ∀ w ∈ (vx_atS "HangGraph" ic E ["java/lang/RuntimeException", "java/lang/Exception"]).filter goodWord, w ∈ lw_g)
    (h2 : ∀ w ∈ (vx_atS "HangGraph" ic E ["java/lang/RuntimeException", "java/lang/Exception"]).filter (fun w => !goodWord w), w ∈ Cond.castable E E :: hg_decl.map Cond.declares) : ∀ w ∈ vx_atS "HangGraph" ic E ["java/lang/RuntimeException", "java/lang/Exception"], w.before args U = true := by
  refine vx_hat (fun w hw => hts w (h1 w hw)) h2 fun w hw => ?_
  rcases List.mem_cons.mp hw with e | h
  · rw [e]
    exact va_Nw.use rfl (hN.2.2.2.1 E hE)
  · obtain ⟨y, hy, e⟩ := List.mem_map.mp h
    rw [← e]
    exact va_Nw.use rfl (hN.2.2.2.2.1 y hy)
theorem hg_at_IAE1 : ∀ w ∈ (vx_atS "HangGraph" 95 "java/lang/IllegalArgumentException" ["java/lang/RuntimeException", "java/lang/Exception"]).filter goodWord, w ∈ lw_g := by decide +kernel
theorem hg_at_IAE2 : ∀ w ∈ (vx_atS "HangGraph" 95 "java/lang/IllegalArgumentException" ["java/lang/RuntimeException", "java/lang/Exception"]).filter (fun w => !goodWord w), w ∈ Cond.castable "java/lang/IllegalArgumentException" "java/lang/IllegalArgumentException" :: hg_decl.map Cond.declares := by decide +kernel
theorem hg_at_ISE1 : ∀ w ∈ (vx_atS "HangGraph" 122 "java/lang/IllegalStateException" ["java/lang/RuntimeException", "java/lang/Exception"]).filter goodWord, w ∈ lw_g := by decide +kernel
theorem hg_at_ISE2 : ∀ w ∈ (vx_atS "HangGraph" 122 "java/lang/IllegalStateException" ["java/lang/RuntimeException", "java/lang/Exception"]).filter (fun w => !goodWord w), w ∈ Cond.castable "java/lang/IllegalStateException" "java/lang/IllegalStateException" :: hg_decl.map Cond.declares := by decide +kernel
theorem hg_at_IOE1 : ∀ w ∈ (vx_atS "HangGraph" 61 "java/lang/IndexOutOfBoundsException" ["java/lang/RuntimeException", "java/lang/Exception"]).filter goodWord, w ∈ lw_g := by decide +kernel
theorem hg_at_IOE2 : ∀ w ∈ (vx_atS "HangGraph" 61 "java/lang/IndexOutOfBoundsException" ["java/lang/RuntimeException", "java/lang/Exception"]).filter (fun w => !goodWord w), w ∈ Cond.castable "java/lang/IndexOutOfBoundsException" "java/lang/IndexOutOfBoundsException" :: hg_decl.map Cond.declares := by decide +kernel
theorem hg_ot_IAE : ∀ w ∈ Cond.classLink "HangGraph" 91 "java/lang/IllegalArgumentException" :: Cond.initialized "java/lang/IllegalArgumentException" :: vx_atS "HangGraph" 95 "java/lang/IllegalArgumentException" ["java/lang/RuntimeException", "java/lang/Exception"], vx_ot w = true := by decide +kernel
theorem hg_ot_ISE : ∀ w ∈ Cond.classLink "HangGraph" 118 "java/lang/IllegalStateException" :: Cond.initialized "java/lang/IllegalStateException" :: vx_atS "HangGraph" 122 "java/lang/IllegalStateException" ["java/lang/RuntimeException", "java/lang/Exception"], vx_ot w = true := by decide +kernel
theorem hg_ot_IOE : ∀ w ∈ Cond.classLink "HangGraph" 57 "java/lang/IndexOutOfBoundsException" :: Cond.initialized "java/lang/IndexOutOfBoundsException" :: vx_atS "HangGraph" 61 "java/lang/IndexOutOfBoundsException" ["java/lang/RuntimeException", "java/lang/Exception"], vx_ot w = true := by decide +kernel
end
section
/-! throwing over worlds by names: the world is as it was, one new cell holds the exception -/
def tg_XC (D : va_G) (cl : List vw_C) (F : Nat → Prop) (ad : Nat → Nat → Nat) (ok : Nat → Nat → Prop) (w : Nat → Nat → va_E) (E : String) : String → State → State → Prop := fun E' st t => E' = E ∧ tg_Y D cl F ad ok w t.heap ∧ va_F F st t
def tg_no : Array Value → State → Outcome → State → Prop := fun _ _ _ _ => False
def tg_MetT (l : Launch) (y : MethodName) (ws : List Cond) (rm : Room) (D : va_G) (cl : List vw_C) (tys : List (ClassId × FieldType)) (F : Nat → Prop) (Nn : State → Heap → Prop) (ad : Nat → Nat → Nat) (ok : Nat → Nat → Prop) (w : Nat → Nat → va_E) (av : List Value) (E : String) : Prop :=
  vx_Met l y ws rm (va_Pc av (tg_B D cl tys F Nn ad ok w)) tg_no (tg_XC D cl F ad ok w E) rm.cells rm.slots F
theorem tg_Y.kept {D : va_G} {cl : List vw_C} {F : Nat → Prop} {ad : Nat → Nat → Nat} {ok : Nat → Nat → Prop} {w : Nat → Nat → va_E} {H H1 : Heap} (h : tg_Y D cl F ad ok w H) (hk : ∀ q : Nat, q < H.size → H1[q]? = H[q]?) : tg_Y D cl F ad ok w H1 :=
  ⟨fun k i ho => (h.1 k i ho).kept (hk _ (h.1 k i ho).lt), h.2⟩
section TGT
variable {p : Program} {l : Launch} {e : Env} {R : Room} {s : State} {m : MethodId} {args : Array Value} {below : List Frame} {meth : Method} {c : Code} {cells slots : Nat} {Q : State → Prop}
variable {cc bytes : ByteArray} {pc nL maxL index n : Nat} {st : List Value} {D : va_G} {cl : List vw_C} {tys : List (ClassId × FieldType)} {F : Nat → Prop} {Nn : State → Heap → Prop} {ad : Nat → Nat → Nat} {ok : Nat → Nat → Prop} {w : Nat → Nat → va_E} {L : List (Nat × Value)}
variable {y : MethodName} {ws ws' Ts : List Cond} {rm : Room} {ret : Option FieldType} {own C : String} {As rest : List Value} {E : String} {mc ms : Nat}
theorem tg_startT {av : List Value} (hy : plainName y.cls = true) (hw : ws = Cond.code y cc maxL ret :: ws') (hlen : (lg_sl av).length ≤ maxL)
    (body : ∀ (p : Program) (e : Env) (R : Room) (s : State) (m : MethodId) (args : Array Value) (below : List Frame) (meth : Method) (c : Code) (Q : State → Prop), p.tables.exec = Jvm.exec → c.code = cc → c.maxLocals = maxL → meth.sig.returnType = ret → meth.locks = false → s.vm.findClass y.cls = some m.cls → (∀ w ∈ ws, w.before args s = true) → va_K D cl tys s → Nn s s.heap → (∀ x ∈ c.exceptionTable.toList, False) → R = (headSpec ws rm).room → Q = vx_MQ below tg_no (tg_XC D cl F ad ok w E) args s rm.cells rm.slots F →
      tg_W p l e R s m args below meth c Q maxL D cl F ad ok w (lv_args 0 av) 0 0 0 []) : tg_MetT l y ws rm D cl tys F Nn ad ok w av E := by
  refine vx_ofW (cc := cc) (maxL := maxL) (ret := ret) hy hw ?_
  intro p e s m args below meth c s₁ B hml hnt hv
  obtain ⟨rfl, hY, hF, hK, hN⟩ := hv
  rw [lg_entry_eq]
  exact body p e _ s m _ below meth c _ B.exec B.bytes hml B.returns B.notSynchronized (findClass_of_methodNamed B.named) (atoms_spec (ws := ws) B.pre) hK hN hnt rfl rfl s.heap [] _ (tg_Z.start hY hF) (lv_entry av hlen)
/-- throw new E("text"), uncaught -/
theorem tg_throw (hx : p.tables.exec = Jvm.exec) (hb : c.code = cc) (hml : c.maxLocals = nL) (hl9 : l.stackTraces = false) {text : String} {ik is ic : Nat} (hown : s.vm.findClass "HangGraph" = some m.cls) (hts : ∀ w ∈ lw_g, w.before args s = true) (hN : hg_N F s s.heap) (hE : E ∈ hg_excs) (hcls : Bundle.fit E = true)
    (hk : Cond.classLink "HangGraph" ik E ∈ lw_g) (hini : Cond.initialized E ∈ lw_g) (hstr : (is, text) ∈ hg_strs)
    (h1 : ∀ w ∈ (vx_atS "HangGraph" ic E ["java/lang/RuntimeException", "java/lang/Exception"]).filter goodWord, w ∈ lw_g)
    (h2 : ∀ w ∈ (vx_atS "HangGraph" ic E ["java/lang/RuntimeException", "java/lang/Exception"]).filter (fun w => !goodWord w), w ∈ Cond.castable E E :: hg_decl.map Cond.declares)
    (hgood : ∀ w ∈ Cond.classLink "HangGraph" ik E :: Cond.initialized E :: vx_atS "HangGraph" ic E ["java/lang/RuntimeException", "java/lang/Exception"], vx_ot w = true)
    (hnt : ∀ x ∈ c.exceptionTable.toList, False) (hlocks : meth.locks = false) (hQ : Q = vx_MQ below tg_no (tg_XC D cl F ad ok w E) args s mc ms F)
    (d0 : decode cc pc = .ok (.new ik, 3)) (d3 : decode cc (pc + 3) = .ok (.dup, 1)) (d4 : decode cc (pc + 4) = .ok (.ldc is, 2)) (d6 : decode cc (pc + 6) = .ok (.invokespecial ic, 3)) (d9 : decode cc (pc + 9) = .ok (.athrow, 1))
    (hRframes : 5 < R.frames) (hRlocals : (st.map fun v => v.category).sum + 82 ≤ R.locals) (hRcells : cells + 1 ≤ R.cells) (hRslots : slots + 6 ≤ R.slots) (hc : cells + 1 ≤ mc) (hs : slots + 6 ≤ ms) :
    tg_W p l e R s m args below meth c Q nL D cl F ad ok w L cells slots pc st := by
  subst hQ
  intro H locs ls hZ h
  obtain ⟨sa, hsa⟩ := hN.2.2.1 _ hstr
  refine vx_throwS (own := "HangGraph") (cls := E) (names := ["java/lang/RuntimeException", "java/lang/Exception"]) (A := F) hx hb hl9 hown hcls (by decide +kernel) (hts _ hk) (hts _ hini) hsa (hg_at hts hN hE h1 h2) hgood hN.2.2.2.2.2.2.1 hN.2.2.2.2.2.2.2 hZ.2.2 (h.1.trans hml.symm) d0 d3 d4 d6 d9 (fun x hx => (hnt x hx).elim) hRframes hRlocals hRcells hRslots hlocks (fun t _ t2 t3 => ?_) hZ.2.2.2.2 hc hs
  exact ⟨rfl, hZ.1.kept t3, Nat.le_trans hZ.2.2.1 t2, fun q q1 q2 => (t3 q (Nat.lt_of_lt_of_le q1 hZ.2.2.1)).trans (hZ.2.2.2.1 q q1 q2)⟩
/-- a call that throws -/
def tg_RunT (p : Program) (l : Launch) (e : Env) (R : Room) (s : State) (m : MethodId) (args : Array Value) (below : List Frame) (meth : Method) (c : Code) (nL : Nat) (D : va_G) (cl : List vw_C) (F : Nat → Prop) (ad : Nat → Nat → Nat) (ok : Nat → Nat → Prop) (w : Nat → Nat → va_E) (L : List (Nat × Value)) (cells slots : Nat) (rm : Room) (pc : Nat) (st rest : List Value) (E : String) : Prop :=
  ∀ (H : Heap) (locs : List Loc) (ls : Array Slot), tg_Z D cl F ad ok w s.heap H locs → lv_has ls nL L → ∀ T : State, T.heap = H → Stand p l e R s m args below meth c T locs cells slots →
    ∃ (q : Addr) (T' : State) (locs1 : List Loc) (ce : Cell), Stand p l e R s m args below meth c T' locs1 (cells + rm.cells) (slots + rm.slots) ∧ tg_Z D cl F ad ok w s.heap T'.heap locs1 ∧ T'.heap[q]? = some ce ∧ ce.vm = .none ∧ s.vm.findClass E = some ce.cls ∧
      Steps p.tables e below (T.setTop (F0 m pc ls st)) ((T'.setTop (F0 m pc ls rest)).pushFrame (.throwing q))
theorem tg_runT (hr : ∀ (H : Heap) (locs : List Loc) (ls : Array Slot), tg_Z D cl F ad ok w s.heap H locs → lv_has ls nL L → ∃ a : Array Value, vx_Run p l e R s m args below meth c H locs cells slots rm.cells rm.slots (F0 m pc ls st) rest (tg_no a) (tg_XC D cl F ad ok w E) F) : tg_RunT p l e R s m args below meth c nL D cl F ad ok w L cells slots rm pc st rest E := by
  intro H locs ls hZ h T hT X
  obtain ⟨a, hv⟩ := hr H locs ls hZ h
  rcases hv T hT X with ⟨v, st₀, t, T', LL, h0, X', hL, e1, e2, hq, -⟩ | ⟨q, st₀, t, T', LL, E', ce, h0, X', hL, e1, e2, ⟨hE, hY, hz, hk⟩, hce, hcv, hcl, stp⟩
  · exact hq.elim
  · subst hE
    rw [h0] at hz hk
    obtain ⟨-, g3, g4⟩ := hZ
    exact ⟨q, T', locs ++ LL, ce, X', ⟨by rw [e1]; exact hY, g3, Nat.le_trans g4.1 (by rw [e1]; exact hz), fun q h1 h2 => by rw [e1, hk q (Nat.lt_of_lt_of_le h1 g4.1) h2]; exact g4.2.1 q h1 h2, fun q hq => by
      rcases List.mem_append.mp hq with h | h
      · exact g4.2.2 q h
      · exact hL q h⟩, by rw [e1]; exact hce, hcv, hcl, stp⟩
theorem tg_runST (S : CallFix p m c cc nL s args Ts own) (hK : va_K D cl tys s) (hN : Nn s s.heap) (hMv : tg_Mv F Nn) (hM : tg_MetT l y ws rm D cl tys F Nn ad ok w As E) (cw : CallB R s args own index y bytes maxL ret ws rm rm.cells rm.slots n ∧ (Cond.static y).before args s = true) (hn : As.length = n) (hW : (rest.map fun v => v.category).sum ≤ 8) (hf : cells + rm.cells ≤ R.cells ∧ slots + rm.slots ≤ R.slots) (hst : st = As.reverse ++ rest) (hdg : decode cc pc = .ok (.invokestatic index, 3)) : tg_RunT p l e R s m args below meth c nL D cl F ad ok w L cells slots rm pc st rest E := by
  subst hst
  exact tg_runT fun H locs ls hZ h => ⟨_, vx_runS S hM cw (tg_pre hMv hZ hK hN) rfl hn h.1 rfl (lv_room hW) hdg hf⟩
theorem tg_runVT (S : CallFix p m c cc nL s args Ts own) (hK : va_K D cl tys s) (hN : Nn s s.heap) (hMv : tg_Mv F Nn) {k i ci : Nat} (hk : ok k i) {fs : List Value} (he : w k i = .inr (ci, fs)) {q : vw_C} (hc : cl[ci]? = some q) (hC : q.1 = C) (hM : tg_MetT l y ws rm D cl tys F Nn ad ok w (.ref (ad k i) :: As) E) (cw : CallW R s args own C index y bytes maxL ret ws rm rm.cells rm.slots n) (hn : As.length = n) (hW : (rest.map fun v => v.category).sum ≤ 8) (hf : cells + rm.cells ≤ R.cells ∧ slots + rm.slots ≤ R.slots) (hst : st = As.reverse ++ .ref (ad k i) :: rest) (hdg : decode cc pc = .ok (.invokevirtual index, 3)) : tg_RunT p l e R s m args below meth c nL D cl F ad ok w L cells slots rm pc st rest E := by
  subst hC
  subst hst
  exact tg_runT fun H locs ls hZ h => ⟨_, vx_runV S hM cw (tg_preV hMv hZ hK hN hk he hc) rfl hn h.1 rfl (lv_room hW) hdg hf⟩
/-- .. and isn't caught here -/
theorem tg_passT (hr : tg_RunT p l e R s m args below meth c nL D cl F ad ok w L cells slots rm pc st rest E) (hnt : ∀ x ∈ c.exceptionTable.toList, False) (hlocks : meth.locks = false) (hQ : Q = vx_MQ below tg_no (tg_XC D cl F ad ok w E) args s mc ms F) (hc : cells + rm.cells ≤ mc) (hs : slots + rm.slots ≤ ms) : tg_W p l e R s m args below meth c Q nL D cl F ad ok w L cells slots pc st := by
  subst hQ
  intro H locs ls hZ h T hT X
  obtain ⟨q, T', locs1, ce, X', hZ', hce, hcv, hcl, stp⟩ := hr H locs ls hZ h T hT X
  obtain ⟨t2, a1, b1⟩ := vx_out (Qc := tg_no) (XC := tg_XC D cl F ad ok w E) (ls := ls) (rest := rest) (pc := pc) (free := F) (fun x hx => (hnt x hx).elim) hlocks hce hcv hcl (fun t ht _ => ⟨rfl, by rw [ht]; exact hZ'.1, hZ'.2.2.F ht⟩) hZ'.2.2.2.2 hc hs T' rfl X'
  exact ⟨t2, stp.trans a1, b1⟩
/-- .. or is caught by the row x of this method's table -/
theorem tg_catchT {own name : String} (hr : tg_RunT p l e R s m args below meth c nL D cl F ad ok w L cells slots rm pc st rest E) (hown : s.vm.findClass own = some m.cls) (pre : List ExceptionTableEntry) (x : ExceptionTableEntry) (suf : List ExceptionTableEntry) (hsplit : c.exceptionTable.toList = pre ++ x :: suf)
    (hpass : ∀ z ∈ pre, covers z pc = false ∨ (z.catchType ≠ 0 ∧ ∃ nm : String, (Cond.classLink own z.catchType nm).before args s = true ∧ va_Nc E nm s)) (hx : covers x pc = true) (h0 : x.catchType ≠ 0)
    (hlink : (Cond.classLink own x.catchType name).before args s = true) (hcast : (Cond.castable E name).before args s = true)
    (kk : ∀ q : Nat, tg_W p l e R s m args below meth c Q nL D cl F ad ok w L (cells + rm.cells) (slots + rm.slots) x.handlerPc [.ref q]) : tg_W p l e R s m args below meth c Q nL D cl F ad ok w L cells slots pc st := by
  intro H locs ls hZ h T hT X
  obtain ⟨q, T', locs1, ce, X', hZ', hce, hcv, hcl, stp⟩ := hr H locs ls hZ h T hT X
  obtain ⟨t2, a1, b1⟩ := vx_catch (ls := ls) (rest := rest) hown pre x suf hsplit hpass hx h0 hlink hcast hce hcv hcl (kk q T'.heap locs1 ls hZ' h) T' rfl X'
  exact ⟨t2, stp.trans a1, b1⟩
end TGT
end
section
/-! 'throw new NoSuchElementException("text")': its constructor links the next one at another index than the classes of the kit's row, so the walk is laid out anew. The two rows follow the library's proof of Stand.ctorThrowS (BundleOwnThrow) and the kit's vx_throwS, with the first pass of the chain taken on its own. -/
abbrev hn_X : String := "java/util/NoSuchElementException"
abbrev hn_R : String := "java/lang/RuntimeException"
def hn_six : ByteArray := ⟨#[0x2a, 0x2b, 0xb7, 0x00, 0x0d, 0xb1]⟩
theorem hn_0 : decode hn_six 0 = .ok (.aload_n 0, 1) := by decide +kernel
theorem hn_1 : decode hn_six 1 = .ok (.aload_n 1, 1) := by decide +kernel
theorem hn_2 : decode hn_six 2 = .ok (.invokespecial 13, 3) := by decide +kernel
theorem hn_5 : decode hn_six 5 = .ok (.return_, 1) := by decide +kernel
def hn_rest (own : String) (ic : Nat) : List Cond :=
  [.methodLink own ic (Bundle.initS hn_X), .instantiable hn_X 6, .castable hn_X hn_X, .selects hn_X Bundle.tFill0 Bundle.tFill0, .selects hn_X Bundle.tFill Bundle.tFill,
   .lays hn_X Bundle.tN "cause" "Ljava/lang/Throwable;", .lays hn_X Bundle.tN "stackTrace" Bundle.steD, .lays hn_X Bundle.tN "suppressedExceptions" Bundle.listD, .lays hn_X Bundle.tN "detailMessage" "Ljava/lang/String;",
   .isRef (.static Bundle.tN "UNASSIGNED_STACK" Bundle.steD), .isRef (.static Bundle.tN "SUPPRESSED_SENTINEL" Bundle.listD),
   .fieldLink Bundle.tN 198 Bundle.tN "backtrace" "Ljava/lang/Object;", .lays Bundle.tN Bundle.tN "backtrace" "Ljava/lang/Object;", .lays hn_X Bundle.tN "backtrace" "Ljava/lang/Object;"]
def hn_all (own : String) (ic : Nat) : List Cond := Bundle.throwableAtoms ++ (Bundle.throwableSAtoms ++ (Bundle.passSAtoms hn_X hn_R 13 hn_six ++ (Bundle.chainSAtoms hn_R ["java/lang/Exception"] ++ hn_rest own ic)))
def hn_at (own : String) (ic : Nat) : List Cond := (hn_all own ic).filter vx_no
section HGN
variable {p : Program} {l : Launch} {e : Env} {R : Room} {s : State} {m₀ : MethodId} {args : Array Value} {below : List Frame} {meth : Method} {c : Code} {W : State} {locs : List Loc} {cells slots : Nat}
set_option maxHeartbeats 2000000 in
theorem hn_ctor (X : Stand p l e R s m₀ args below meth c W locs cells slots) (hexec : p.tables.exec = Jvm.exec) (htr : e.platform.stackTraces = false) {own : String} {ic : Nat}
    (hown : s.vm.findClass own = some m₀.cls)
    (h : ∀ a ∈ hn_all own ic, a.before args s = true)
    (hlocs : ∀ x ∈ locs, ∀ cell, s.heap[x.base]? = some cell → cell.vm.isStatics = false)
    {a : Addr} {cX : ClassId} {kX : Class} (hfoundX : s.vm.findClass hn_X = some cX) (hkX : s.vm.classes[cX]? = some kX) (hcell : W.heap[a]? = some (freshCell cX kX)) (hnew : s.heap.size ≤ a)
    {msg : Value} (hmsg : msg.isRef = true)
    {g : JFrame} (hg : g.method = m₀) (hsize : g.locals.size = c.maxLocals) (hlocked : g.locked = none) (hentered : g.entered = []) {rest : List Value} (hstack : g.stack = msg :: .ref a :: .ref a :: rest)
    (hd6 : decode c.code g.pc = .ok (.invokespecial ic, 3)) (hd9 : decode c.code (g.pc + 3) = .ok (.athrow, 1)) (hout : ∀ x ∈ c.exceptionTable.toList, covers x (g.pc + 3) = false)
    (hRframes : 5 < R.frames) (hRlocals : 2 * g.monitorRoom + ((Value.ref a :: rest).map fun v => v.category).sum + 81 ≤ R.locals) (hlocks : meth.locks = false) :
    ∃ U : State, Steps p.tables e below (W.setTop g) U ∧ U.status = .running ∧ Ended U below (.threw a) ∧ s.WarmedH U.vm ∧ s.sameButNew ({ U with vm := s.vm } : State) locs cells slots ∧
      ∃ ce, U.heap[a]? = some ce ∧ s.vm.findClass hn_X = some ce.cls ∧ ce.vm = .none := by
  have howns : e.platform.frameOwnsMonitors = true := by rw [X.admits.platform]
  have hfin : e.platform.finalization = false := by rw [X.admits.platform]
  have hpl : e.platform.magicAccessors = ({} : Platform).magicAccessors := by rw [X.admits.platform]
  have i1 : ∀ x ∈ Bundle.throwableAtoms, x.before args s = true := fun x hx => h x (List.mem_append_left _ hx)
  have i2 : ∀ x ∈ Bundle.throwableSAtoms, x.before args s = true := fun x hx => h x (List.mem_append_right _ (List.mem_append_left _ hx))
  have i3 : ∀ x ∈ Bundle.passSAtoms hn_X hn_R 13 hn_six, x.before args s = true := fun x hx => h x (List.mem_append_right _ (List.mem_append_right _ (List.mem_append_left _ hx)))
  have i4 : ∀ x ∈ Bundle.chainSAtoms hn_R ["java/lang/Exception"], x.before args s = true := fun x hx => h x (List.mem_append_right _ (List.mem_append_right _ (List.mem_append_right _ (List.mem_append_left _ hx))))
  have i5 : ∀ x ∈ hn_rest own ic, x.before args s = true := fun x hx => h x (List.mem_append_right _ (List.mem_append_right _ (List.mem_append_right _ (List.mem_append_right _ hx))))
  have a' : ∀ x, x ∈ hn_rest own ic → x.holds args s none s [] = true := fun x hx => i5 x hx
  obtain ⟨T, Z0, L, -, Y⟩ := ThrowableC.of_atoms (args := args) howns hfin hpl i1
  obtain ⟨Z, M, LZ, LM, hnZ⟩ := Init0T.ofS_atoms (args := args) hpl L Y i2
  obtain ⟨P1, L1, hP1m, hP1s⟩ := PassC.ofS_atoms (args := args) (s := s) hpl (X := hn_X) (Y := hn_R) (by decide +kernel) (by decide) hn_0 hn_1 hn_2 hn_5 i3
  obtain ⟨P2, Ps, hlen, L2, hL, hP2m, hlink2, hlink⟩ := Bundle.chainS (args := args) hpl hnZ ["java/lang/Exception"] hn_R (by decide +kernel) (by decide +kernel) i4
  have hlink1 : P1.sup = P2.m := Option.some.inj (hP1s.symm.trans hP2m)
  have hfound : s.vm.findClass hn_X = some P1.m.cls := findClass_of_methodNamed hP1m
  cases Option.some.inj (hfoundX.symm.trans hfound)
  obtain ⟨c1, kX', hc1, hk, hord, -, -, hn6⟩ := Cond.instantiable_spec (a' (.instantiable hn_X 6) (by simp [hn_rest]))
  cases Option.some.inj (hc1.symm.trans hfound)
  cases Option.some.inj (hkX.symm.trans hk)
  have hsel0 : selectMethod e.platform s.vm P1.m.cls T.fill0 = .method T.fill0 := by
    obtain ⟨c2, r2, m2, q1, q2, q3, q4, -⟩ := Cond.selects_spec (a' (.selects hn_X Bundle.tFill0 Bundle.tFill0) (by simp [hn_rest]))
    cases Option.some.inj (q1.symm.trans hfound)
    cases Option.some.inj (q2.symm.trans (State.methodFound?_of_named Y.fill0 (by decide)))
    cases Option.some.inj (q3.symm.trans Y.fill0)
    rw [Launch.admits_selectMethod X.admits]; exact q4
  have hselF : selectMethod e.platform s.vm P1.m.cls T.fill = .method T.fill := by
    obtain ⟨c2, r2, m2, q1, q2, q3, q4, -⟩ := Cond.selects_spec (a' (.selects hn_X Bundle.tFill Bundle.tFill) (by simp [hn_rest]))
    cases Option.some.inj (q1.symm.trans hfound)
    cases Option.some.inj (q2.symm.trans (State.methodFound?_of_named Y.fill (by decide)))
    cases Option.some.inj (q3.symm.trans Y.fill)
    rw [Launch.admits_selectMethod X.admits]; exact q4
  obtain ⟨cellS0, hcS0, hiss⟩ := Y.statics
  obtain ⟨u0, hu0⟩ := Cond.staticRefV Y.unassigned L.unassignedStatic L.statics hcS0 hiss (a' (.isRef (.static Bundle.tN "UNASSIGNED_STACK" Bundle.steD)) (by simp [hn_rest]))
  obtain ⟨sen, hsen⟩ := Cond.staticRefV Y.sentinel L.sentinelStatic L.statics hcS0 hiss (a' (.isRef (.static Bundle.tN "SUPPRESSED_SENTINEL" Bundle.listD)) (by simp [hn_rest]))
  obtain ⟨ci198, i198, fB, hk198, hg198, ha198, hsB, -, hnB, htB, hffB⟩ := Cond.ownField (t := .object "java/lang/Object") Y.found L.cls (by decide +kernel) (a' (.fieldLink Bundle.tN 198 Bundle.tN "backtrace" "Ljava/lang/Object;") (by simp [hn_rest])) (a' (.lays Bundle.tN Bundle.tN "backtrace" "Ljava/lang/Object;") (by simp [hn_rest])) e.platform hpl
  obtain ⟨cellS, hcS', heS, -, hkeep⟩ := X.same.2.2.2.2.2 T.aS cellS0 hcS0
  have hcellS : W.heap[T.aS]? = some cellS := hcS'
  have hout' : ∀ i, (⟨T.aS, i⟩ : Loc) ∉ locs := fun i hmem => by
    have := hlocs _ hmem cellS0 hcS0
    rw [hiss] at this; cases this
  have hknownS : cellS.vm ≠ .unknown := by
    rw [heS]; intro hu
    rw [show cellS0.vm = .unknown from hu] at hiss
    cases hiss
  have hneS : T.aS ≠ a := Nat.ne_of_lt (Nat.lt_of_lt_of_le (Array.getElem?_eq_some_iff.mp hcS0).1 hnew)
  obtain ⟨iM, hffM⟩ := Y.msg
  obtain ⟨tyC, dC, hdC, hdnC⟩ := Cond.laysAt hfound hk Y.cause (a' (.lays hn_X Bundle.tN "cause" "Ljava/lang/Throwable;") (by simp [hn_rest]))
  obtain ⟨tyS, dS, hdS, hdnS⟩ := Cond.laysAt hfound hk Y.stack (a' (.lays hn_X Bundle.tN "stackTrace" Bundle.steD) (by simp [hn_rest]))
  obtain ⟨tyP, dP, hdP, hdnP⟩ := Cond.laysAt hfound hk Y.supp (a' (.lays hn_X Bundle.tN "suppressedExceptions" Bundle.listD) (by simp [hn_rest]))
  obtain ⟨tyM, dM, hdM, hdnM⟩ := Cond.laysAt hfound hk hffM (a' (.lays hn_X Bundle.tN "detailMessage" "Ljava/lang/String;") (by simp [hn_rest]))
  obtain ⟨tyB, dB, hdB, hdnB⟩ := Cond.laysAt hfound hk hffB (a' (.lays hn_X Bundle.tN "backtrace" "Ljava/lang/Object;") (by simp [hn_rest]))
  have bC := Cond.laysApart hdB hdC hdnB hdnC (by rw [hnB, Y.causeName]; decide)
  have bS := Cond.laysApart hdB hdS hdnB hdnS (by rw [hnB, Y.stackName]; decide)
  have bP := Cond.laysApart hdB hdP hdnB hdnP (by rw [hnB, Y.suppName]; decide)
  have hskip : SkipFacts T e.platform s (fun u => u) u0 ((preparedCellV T.toThrowableT (freshCell P1.m.cls kX) a u0 sen).withEntry W.cur) :=
    ⟨{ ci198 := ci198, i198 := i198, fBack := fB }, ⟨hk198, hg198, ha198, hsB⟩, by
      have := fresh_default (c := P1.m.cls) tyB
      rw [htB] at this
      simpa [preparedCellV, Cell.setSlot, Cell.withEntry, Array.getElem?_setIfInBounds, bC, bS, bP, bC.symm, bS.symm, bP.symm, defaultValue] using this, fun _ _ => rfl⟩
  obtain ⟨tm, methC, cdC, kC, vm₁, hnC, -, -, -, -, -, -, -, hW₁, st1⟩ := Steps.initColdS (tb := p.tables) (e := e) (below := below) (s := s) (U := W) X.here hexec X.warmed hpl hown (t := Bundle.initS hn_X) rfl rfl (by decide)
    (a' (.methodLink own ic (Bundle.initS hn_X)) (by simp [hn_rest])) (i3 (.instanceMethod (Bundle.initS hn_X)) (by simp [Bundle.passSAtoms])) (bytes := hn_six) (maxL := 2) (i3 (.code (Bundle.initS hn_X) hn_six 2 none) (by simp [Bundle.passSAtoms]))
    (f := g) hg (a := a) (msg := msg) (rest := .ref a :: rest) hstack hd6
  cases Option.some.inj (hnC.symm.trans hP1m)
  have X₁ := X.noted hW₁
  obtain ⟨vm₂, X₂, st2⟩ := X₁.ctorMessageOffV hexec (g := { g with stack := .ref a :: rest }) hg hsize T L Z LZ M LM (P1 :: P2 :: Ps)
    (fun P hP => by
      rcases List.mem_cons.mp hP with rfl | hP
      · exact L1
      · rcases List.mem_cons.mp hP with rfl | hP
        · exact L2
        · exact hL P hP) ⟨hlink1, hlink2, hlink⟩ (u0 := u0) (sen := sen) (self := a) hmsg (cell := freshCell P1.m.cls kX) (cellS := cellS)
    hcell (fun _ => by simp) (by simp) rfl rfl hsel0 hselF hcellS hneS hknownS (by rw [hkeep _ (hout' _)]; exact hu0) (by rw [hkeep _ (hout' _)]; exact hsen)
    (Takes.of_laid hk hord tyC (by rw [Y.causeType]; rfl)) (Takes.of_laid hk hord tyS (by rw [Y.stackType]; exact fits_refV_array _ u0)) (Takes.of_laid hk hord tyP (by rw [Y.suppType]; exact fits_refV_object _ sen))
    (Takes.of_laid hk hord tyM (by rw [Y.msgType]; exact fits_refV_object _ ⟨msg, hmsg⟩)) Y.objLocals hskip htr [] hd6
    (by have hl1 : Ps.length = 1 := hlen
        simp only [List.length_cons, hl1]; omega) (by
        have hl1 : Ps.length = 1 := hlen
        simp only [List.length_cons, hl1]; exact hRlocals)
  obtain ⟨hwalk, hrun, hended, hWU, hsame⟩ := X₂.athrowLeaves hexec (g := { g with stack := .ref a :: rest, pc := g.pc + 3 }) hg hlocked hentered hout (a := a) (rest := rest) rfl hd9
  have hlt : a < ((W.setVm vm₁).setVm vm₂).heap.size := (Array.getElem?_eq_some_iff.mp hcell).1
  have hU := heapAt_setCell_self (s := (W.setVm vm₁).setVm vm₂) (plainBareV T.toThrowableT (freshCell P1.m.cls kX) a u0 sen msg) hlt
  refine ⟨_, st1 _ (fun acts => ?_), hrun, hended, hWU, hsame.weaken (fun y hy hlt' => ?_) (Nat.le_refl _) (Nat.le_refl _), _, hU, hfound, rfl⟩
  · rw [doInvoke_state]
    exact st2 _ hwalk
  · rcases List.mem_append.mp hy with h1 | h1
    · exact h1
    · exfalso
      have hb : y.base = a := by
        simp only [List.mem_cons, List.not_mem_nil, or_false] at h1
        rcases h1 with rfl | rfl | rfl | rfl | rfl <;> rfl
      rw [hb] at hlt'
      exact Nat.not_lt.mpr hnew hlt'
end HGN
end
section
/-! 'throw new NoSuchElementException("text")' over worlds by names -/
section HGN2
variable {p : Program} {l : Launch} {e : Env} {R : Room} {s : State} {m : MethodId} {args : Array Value} {below : List Frame} {meth : Method} {c : Code} {H : Heap} {locs : List Loc} {cells slots : Nat} {ls : Array Slot} {rest : List Value}
variable {Qc : Array Value → State → Outcome → State → Prop} {XC : String → State → State → Prop} {free : Addr → Prop}
theorem hn_throwS {cc : ByteArray} {pc : Nat} (hexec : p.tables.exec = Jvm.exec) (hb : c.code = cc) (hl : l.stackTraces = false) {own text : String} {ik is ic mc ms sa : Nat} {A : Nat → Prop}
    (hown : s.vm.findClass own = some m.cls)
    (hk : (Cond.classLink own ik hn_X).before args s = true) (hini : (Cond.initialized hn_X).before args s = true) (hstr : vk_R own is text sa s) (hat : ∀ w ∈ hn_at own ic, w.before args s = true)
    (hgood : ∀ w ∈ Cond.classLink own ik hn_X :: Cond.initialized hn_X :: hn_at own ic, vx_ot w = true)
    (hU : vx_Zq Bundle.tN "UNASSIGNED_STACK" Bundle.steD A s s.heap) (hN : vx_Zq Bundle.tN "SUPPRESSED_SENTINEL" Bundle.listD A s s.heap) (hS : va_S A s.heap H locs) (hsize : ls.size = c.maxLocals)
    (d0 : decode cc pc = .ok (.new ik, 3)) (d3 : decode cc (pc + 3) = .ok (.dup, 1)) (d4 : decode cc (pc + 4) = .ok (.ldc is, 2)) (d6 : decode cc (pc + 6) = .ok (.invokespecial ic, 3)) (d9 : decode cc (pc + 9) = .ok (.athrow, 1))
    (hout : ∀ x ∈ c.exceptionTable.toList, covers x (pc + 9) = false)
    (hRframes : 5 < R.frames) (hRlocals : (rest.map fun v => v.category).sum + 82 ≤ R.locals) (hRcells : cells + 1 ≤ R.cells) (hRslots : slots + 6 ≤ R.slots) (hlocks : meth.locks = false)
    (hx : ∀ t : State, s.vm.Alike t.vm → H.size ≤ t.heap.size → (∀ q : Nat, q < H.size → t.heap[q]? = H[q]?) → XC hn_X s t)
    (hf : ∀ z ∈ locs, free z.base) (hc : cells + 1 ≤ mc) (hs : slots + 6 ≤ ms) :
    W p l e R s m args below meth c H locs cells slots (vx_MQ below Qc XC args s mc ms free) (F0 m pc ls rest) := by
  intro T hT X
  have htr : e.platform.stackTraces = false := (show e.platform.stackTraces = l.stackTraces by rw [X.admits.platform]).trans hl
  have Y := vx_rebase X (R' := { frames := R.frames, locals := R.locals, cells := 1, slots := 6 }) (Nat.le_refl _) (Nat.le_refl _) hRcells hRslots
  obtain ⟨s', hA⟩ : ∃ z, z = (T.setVm s.vm).setFrames (.invoking m args :: below) := ⟨_, rfl⟩
  rw [← hA] at Y
  have hvm : s'.vm = s.vm := by rw [hA]; rfl
  have hhp : s'.heap = H := by rw [hA]; exact hT
  have hW0 : s.WarmedH s'.vm := by rw [hvm]; exact State.WarmedH.refl s
  have hat' : ∀ w ∈ hn_at own ic, w.before args s' = true := fun w hw => vx_ot_at hW0 hvm.symm (hgood w (List.mem_cons_of_mem _ (List.mem_cons_of_mem _ hw))) (hat w hw)
  have hk' : (Cond.classLink own ik hn_X).before args s' = true := vx_ot_at hW0 hvm.symm (hgood _ List.mem_cons_self) hk
  have hini' : (Cond.initialized hn_X).before args s' = true := vx_ot_at hW0 hvm.symm (hgood _ (List.mem_cons_of_mem _ List.mem_cons_self)) hini
  have hU' : vx_Zq Bundle.tN "UNASSIGNED_STACK" Bundle.steD A s' s'.heap := by rw [hhp]; exact vx_Zq.moved hW0.alike (hU.kept hS.2.1)
  have hN' : vx_Zq Bundle.tN "SUPPRESSED_SENTINEL" Bundle.listD A s' s'.heap := by rw [hhp]; exact vx_Zq.moved hW0.alike (hN.kept hS.2.1)
  have h : ∀ w ∈ hn_all own ic, w.before args s' = true := vx_own hat' (vx_isRefq hU'.1) (vx_isRefq hN'.1) hU'.2.word hN'.2.word
  have hown' : s'.vm.findClass own = some m.cls := by rw [hvm]; exact hown
  have hins : (Cond.instantiable hn_X 6).before args s' = true := h _ (List.mem_append_right _ (List.mem_append_right _ (List.mem_append_right _ (List.mem_append_right _ (by simp [hn_rest])))))
  obtain ⟨vm₁, cX, kX, hfX, hkX, -, -, X₁, st1⟩ := Y.newCold hexec (own := own) (C := hn_X) (index := ik) (n := 6) hown' hk' hins hini'
    (g := F0 m pc ls rest) rfl (by rw [hb]; exact d0) (Nat.le_refl _) (Nat.le_refl _)
  generalize hT1 : (T.setVm vm₁).pushCell { cls := cX, slots := kX.instanceTypes.map defaultValue, vm := .none } = T1 at X₁ st1
  have hcat : (Value.ref T.heap.size).category = 1 := rfl
  have hcellA : T1.heap[T.heap.size]? = some (freshCell cX kX) := by rw [← hT1]; exact State.heap_pushCell_size _ _
  have d3' : decode c.code (pc + 3) = .ok (.dup, 1) := by rw [hb]; exact d3
  have d4' : decode c.code (pc + 4) = .ok (.ldc is, 2) := by rw [hb]; exact d4
  have hstr' : vk_R own is text sa s' := vk_R.warm hW0 hstr
  obtain ⟨U, hsteps, hrun, hend, hW, hsame, ce, hce, hO1, hO2⟩ := hn_ctor X₁ hexec htr (own := own) (ic := ic) hown' h (fun x hx => nomatch hx) hfX hkX hcellA (by rw [hhp, hT]; exact Nat.le_refl _) (msg := .ref sa) rfl
    (g := { method := m, pc := pc + 6, locals := ls, stack := .ref sa :: .ref T.heap.size :: .ref T.heap.size :: rest, locked := none }) rfl hsize rfl rfl (rest := rest) rfl
    (by rw [hb]; exact d6) (by rw [hb]; exact d9) hout hRframes (by simp only [List.map_cons, List.sum_cons, hcat]; omega) hlocks
  obtain ⟨f1, f2⟩ := vx_frame hsame
  rw [hhp] at f1 f2
  have hWs : s.WarmedH U.vm := State.WarmedH.trans hW0 hW
  have hcl : s.vm.findClass hn_X = some ce.cls := by
    have h9 := hO1
    rw [hvm] at h9
    exact h9
  have hall : s.sameButNew ({ U with vm := s.vm } : State) locs mc ms := by
    subst hA
    obtain ⟨e1, e2⟩ := hsame
    rw [State.setFrames_setFrames] at e1
    have h2 : (T.setVm s.vm).sameButNew ({ U with vm := s.vm } : State) [] (0 + 1) (0 + 6) := ⟨e1, e2⟩
    have h3 := X.same.trans h2
    rw [List.append_nil] at h3
    exact h3.mono hc hs
  refine ⟨U, ?_, .threw T.heap.size, hrun, hend, Or.inr ⟨T.heap.size, rfl, hn_X, ce, locs, hx U hWs.alike f1 (fun q hq => f2 q hq (fun z hz => nomatch hz)), hce, hO2, hcl, hWs, hall, hf⟩⟩
  refine st1 _ ?_
  show Steps p.tables e below (T1.setTop { method := m, pc := pc + 3, locals := ls, stack := .ref T.heap.size :: rest, locked := none }) _
  jvm_step X₁.here [X₁.here.top, hexec, d3', Value.category]
  exact X₁.ldcString hexec (own := own) (text := text) (index := is) (a := sa) hown' hstr'.1 hstr'.2
    (g := { method := m, pc := pc + 4, locals := ls, stack := .ref T.heap.size :: .ref T.heap.size :: rest, locked := none }) rfl d4' _ hsteps
theorem hn_at1 : ∀ w ∈ (hn_at "HangGraph" 127).filter goodWord, w ∈ lw_g := by decide +kernel
theorem hn_at2 : ∀ w ∈ (hn_at "HangGraph" 127).filter (fun w => !goodWord w), w ∈ Cond.castable hn_X hn_X :: hg_decl.map Cond.declares := by decide +kernel
theorem hn_ot : ∀ w ∈ Cond.classLink "HangGraph" 123 hn_X :: Cond.initialized hn_X :: hn_at "HangGraph" 127, vx_ot w = true := by decide +kernel
end HGN2
section HGN3
variable {p : Program} {l : Launch} {e : Env} {R : Room} {s : State} {m : MethodId} {args : Array Value} {below : List Frame} {meth : Method} {c : Code} {cells slots : Nat} {Q : State → Prop}
variable {cc : ByteArray} {pc nL : Nat} {st : List Value} {D : va_G} {cl : List vw_C} {F : Nat → Prop} {ad : Nat → Nat → Nat} {ok : Nat → Nat → Prop} {w : Nat → Nat → va_E} {L : List (Nat × Value)} {mc ms : Nat}
theorem tg_throwN (hx : p.tables.exec = Jvm.exec) (hb : c.code = cc) (hml : c.maxLocals = nL) (hl9 : l.stackTraces = false) {text : String} {is : Nat} (hown : s.vm.findClass "HangGraph" = some m.cls) (hts : ∀ w ∈ lw_g, w.before args s = true) (hN : hg_N F s s.heap)
    (hk : Cond.classLink "HangGraph" 123 hn_X ∈ lw_g) (hini : Cond.initialized hn_X ∈ lw_g) (hstr : (is, text) ∈ hg_strs)
    (hnt : ∀ x ∈ c.exceptionTable.toList, False) (hlocks : meth.locks = false) (hQ : Q = vx_MQ below tg_no (tg_XC D cl F ad ok w hn_X) args s mc ms F)
    (d0 : decode cc pc = .ok (.new 123, 3)) (d3 : decode cc (pc + 3) = .ok (.dup, 1)) (d4 : decode cc (pc + 4) = .ok (.ldc is, 2)) (d6 : decode cc (pc + 6) = .ok (.invokespecial 127, 3)) (d9 : decode cc (pc + 9) = .ok (.athrow, 1))
    (hRframes : 5 < R.frames) (hRlocals : (st.map fun v => v.category).sum + 82 ≤ R.locals) (hRcells : cells + 1 ≤ R.cells) (hRslots : slots + 6 ≤ R.slots) (hc : cells + 1 ≤ mc) (hs : slots + 6 ≤ ms) :
    tg_W p l e R s m args below meth c Q nL D cl F ad ok w L cells slots pc st := by
  subst hQ
  intro H locs ls hZ h
  obtain ⟨sa, hsa⟩ := hN.2.2.1 _ hstr
  have hat : ∀ w ∈ hn_at "HangGraph" 127, w.before args s = true := vx_hat (fun w hw => hts w (hn_at1 w hw)) hn_at2 (fun w hw => by
    rcases List.mem_cons.mp hw with z | z
    · rw [z]
      exact va_Nw.use rfl (hN.2.2.2.1 hn_X (by decide))
    · obtain ⟨y, h1, h2⟩ := List.mem_map.mp z
      rw [← h2]
      exact va_Nw.use rfl (hN.2.2.2.2.1 y h1))
  refine hn_throwS (own := "HangGraph") (A := F) hx hb hl9 hown (hts _ hk) (hts _ hini) hsa hat hn_ot hN.2.2.2.2.2.2.1 hN.2.2.2.2.2.2.2 hZ.2.2 (h.1.trans hml.symm) d0 d3 d4 d6 d9 (fun x hx => (hnt x hx).elim) hRframes hRlocals hRcells hRslots hlocks (fun t _ t2 t3 => ?_) hZ.2.2.2.2 hc hs
  exact ⟨rfl, hZ.1.kept t3, Nat.le_trans hZ.2.2.1 t2, fun q q1 q2 => (t3 q (Nat.lt_of_lt_of_le q1 hZ.2.2.1)).trans (hZ.2.2.2.1 q q1 q2)⟩
end HGN3
end
section
/-! the sweep's small writers -/
section HGS
variable {l : Launch} {D : va_G} {F : Nat → Prop} {Nn : State → Heap → Prop} {ad : Nat → Nat → Nat} {ok : Nat → Nat → Prop} {cF cI cZ cJ cA cB : ClassId} {G : Nat → Nat} {a : Nat → Nat → Option Nat} {dr : Nat → Int32} {N : Nat → Nat → Nat} {bc : Nat → Int32} {sp : Nat → Nat → Int32} {μ : Nat → Nat → va_E} {T : Nat → Prop}
set_option maxRecDepth 100000 in
set_option maxHeartbeats 4000000 in
/-- one more is hit -/
theorem c_addHit (hO : hg_ok ok) (hT : ∀ f, T f → ok 8 f ∧ ok 9 f) (f : Nat) (hf : T f) (hc : G 2 < 400) : tg_Met l yS_addHit wsS_addHit ({ frames := 0, cells := 0, slots := 0, locals := 0 }) D vwCl (hg_tys cI cF cZ cJ cA cB) F Nn ad ok (hg_w ad cF cI G a dr N bc sp μ) [.ref (ad 3 0), .ref (ad 8 f)] (tg_po ad ok fun r w1 => r = none ∧ w1 = hg_w ad cF cI (va_up G 2 (G 2 + 1)) (va_up a 2 (va_up (a 2) (G 2) (some (ad 8 f)))) dr (tg_up N 8 f 1) bc sp μ) := by
  refine tg_start (cc := cS_addHit) (maxL := 2) (ret := none) (by decide) rfl (Nat.le_of_ble_eq_true rfl) ?_
  intro p e R s m args below meth c Q hx hb hml hr hlocks hown hname hts hK hN hR hQ
  have hown : s.vm.findClass "HangGraph$Sweep" = some m.cls := hown
  have hts : ∀ w ∈ lw_g, w.before args s = true := fun w z => hts w (List.mem_cons_of_mem _ z)
  refine tg_aload_n hx hb dS_addHit_0 rfl rfl ?_
  refine tg_iconst (v := nI 1) hx hb dS_addHit_1 (by decide +kernel) ?_
  refine tg_put (T := TF) (N := 15) (ty := .boolean) hx hb hts inF tyF tyF_ok nmF hown hK (hT f hf).1 rfl rfl 8 (by decide) (hts _ wf_S_62) (fun _ z => z) rfl (by decide +kernel) (by decide +kernel) (by decide +kernel) (Nat.le_of_ble_eq_true rfl) dS_addHit_2 ?_
  refine tg_w (hg_w_N8 f 1) ?_
  refine tg_aload_n hx hb dS_addHit_5 rfl rfl ?_
  refine tg_get (T := TS) (N := 9) hx hb hts inS hown hK (hO.1 3 (by decide)) rfl rfl 2 (by decide) (hts _ wf_S_17) (fun _ z => z) rfl dS_addHit_6 ?_
  refine tg_aload_n hx hb dS_addHit_9 rfl rfl ?_
  refine tg_get (T := TS) (N := 9) hx hb hts inS hown hK (hO.1 3 (by decide)) rfl rfl 3 (by decide) (hts _ wf_S_30) (fun _ z => z) rfl dS_addHit_10 ?_
  refine tg_aload_n hx hb dS_addHit_13 rfl rfl ?_
  refine tg_aast (t0 := 1) hx hb hK (hO.1 5 (by decide)) rfl rfl (hT f hf).1 rfl rfl (x := G 2) (by decide) (by omega) dS_addHit_14 ?_
  refine tg_wp (hg_w_a2 hO (G 2) (some (ad 8 f))) ?_
  refine tg_aload_n hx hb dS_addHit_15 rfl rfl ?_
  refine tg_dup hx hb dS_addHit_16 rfl ?_
  refine tg_get (T := TS) (N := 9) hx hb hts inS hown hK (hO.1 3 (by decide)) rfl rfl 3 (by decide) (hts _ wf_S_30) (fun _ z => z) rfl dS_addHit_17 ?_
  refine tg_iconst (v := nI 1) hx hb dS_addHit_20 (by decide +kernel) ?_
  refine tg_iadd hx hb dS_addHit_21 ?_
  refine tg_top (y := nI ((G 2) + (1))) (nI_add _ _) ?_
  refine tg_put (T := TS) (N := 9) (ty := .int) hx hb hts inS tyS tyS_ok nmS hown hK (hO.1 3 (by decide)) rfl rfl 3 (by decide) (hts _ wf_S_30) (fun _ z => z) rfl (by decide +kernel) rfl rfl (Nat.le_of_ble_eq_true rfl) dS_addHit_22 ?_
  refine tg_wp (hg_w_G2 hO ((G 2) + (1))) ?_
  exact tg_vret hx hb hlocks hr hQ ⟨rfl, rfl, rfl, rfl⟩ dS_addHit_25
set_option maxRecDepth 100000 in
set_option maxHeartbeats 4000000 in
/-- the walk comes to f -/
theorem c_enter (hO : hg_ok ok) (hT : ∀ f, T f → ok 8 f ∧ ok 9 f) (f : Nat) (hf : T f) (hp : G 3 < 400) (ho : G 4 < 400) : tg_Met l yS_enter wsS_enter ({ frames := 0, cells := 0, slots := 0, locals := 0 }) D vwCl (hg_tys cI cF cZ cJ cA cB) F Nn ad ok (hg_w ad cF cI G a dr N bc sp μ) [.ref (ad 3 0), .ref (ad 8 f)] (tg_po ad ok fun r w1 => r = none ∧ w1 = hg_w ad cF cI (va_up (va_up (va_up G 5 (G 5 + 1)) 3 (G 3 + 1)) 4 (G 4 + 1)) (va_up (va_up a 3 (va_up (a 3) (G 3) (some (ad 8 f)))) 4 (va_up (a 4) (G 4) (some (ad 8 f)))) dr (tg_up (tg_up N 11 f (G 5 + 1)) 12 f (G 5 + 1)) bc sp μ) := by
  refine tg_start (cc := cS_enter) (maxL := 2) (ret := none) (by decide) rfl (Nat.le_of_ble_eq_true rfl) ?_
  intro p e R s m args below meth c Q hx hb hml hr hlocks hown hname hts hK hN hR hQ
  have hown : s.vm.findClass "HangGraph$Sweep" = some m.cls := hown
  have hts : ∀ w ∈ lw_g, w.before args s = true := fun w z => hts w (List.mem_cons_of_mem _ z)
  refine tg_aload_n hx hb dS_enter_0 rfl rfl ?_
  refine tg_dup hx hb dS_enter_1 rfl ?_
  refine tg_get (T := TS) (N := 9) hx hb hts inS hown hK (hO.1 3 (by decide)) rfl rfl 8 (by decide) (hts _ wf_S_39) (fun _ z => z) rfl dS_enter_2 ?_
  refine tg_iconst (v := nI 1) hx hb dS_enter_5 (by decide +kernel) ?_
  refine tg_iadd hx hb dS_enter_6 ?_
  refine tg_top (y := nI ((G 5) + (1))) (nI_add _ _) ?_
  refine tg_put (T := TS) (N := 9) (ty := .int) hx hb hts inS tyS tyS_ok nmS hown hK (hO.1 3 (by decide)) rfl rfl 8 (by decide) (hts _ wf_S_39) (fun _ z => z) rfl (by decide +kernel) rfl rfl (Nat.le_of_ble_eq_true rfl) dS_enter_7 ?_
  refine tg_wp (hg_w_G5 hO ((G 5) + (1))) ?_
  refine tg_aload_n hx hb dS_enter_10 rfl rfl ?_
  refine tg_aload_n hx hb dS_enter_11 rfl rfl ?_
  refine tg_get (T := TS) (N := 9) hx hb hts inS hown hK (hO.1 3 (by decide)) rfl rfl 8 (by decide) (hts _ wf_S_39) (fun _ z => z) rfl dS_enter_12 ?_
  refine tg_top (y := nI ((G 5) + (1))) (by simp [va_up]) ?_
  refine tg_put (T := TF) (N := 15) (ty := .int) hx hb hts inF tyF tyF_ok nmF hown hK (hT f hf).1 rfl rfl 11 (by decide) (hts _ wf_S_86) (fun _ z => z) rfl (by decide +kernel) rfl rfl (Nat.le_of_ble_eq_true rfl) dS_enter_15 ?_
  refine tg_w (hg_w_N11 f ((G 5) + (1))) ?_
  refine tg_aload_n hx hb dS_enter_18 rfl rfl ?_
  refine tg_aload_n hx hb dS_enter_19 rfl rfl ?_
  refine tg_get (T := TS) (N := 9) hx hb hts inS hown hK (hO.1 3 (by decide)) rfl rfl 8 (by decide) (hts _ wf_S_39) (fun _ z => z) rfl dS_enter_20 ?_
  refine tg_top (y := nI ((G 5) + (1))) (by simp [va_up]) ?_
  refine tg_put (T := TF) (N := 15) (ty := .int) hx hb hts inF tyF tyF_ok nmF hown hK (hT f hf).1 rfl rfl 12 (by decide) (hts _ wf_S_89) (fun _ z => z) rfl (by decide +kernel) rfl rfl (Nat.le_of_ble_eq_true rfl) dS_enter_23 ?_
  refine tg_w (hg_w_N12 f ((G 5) + (1))) ?_
  refine tg_aload_n hx hb dS_enter_26 rfl rfl ?_
  refine tg_get (T := TS) (N := 9) hx hb hts inS hown hK (hO.1 3 (by decide)) rfl rfl 4 (by decide) (hts _ wf_S_20) (fun _ z => z) rfl dS_enter_27 ?_
  refine tg_aload_n hx hb dS_enter_30 rfl rfl ?_
  refine tg_get (T := TS) (N := 9) hx hb hts inS hown hK (hO.1 3 (by decide)) rfl rfl 5 (by decide) (hts _ wf_S_33) (fun _ z => z) rfl dS_enter_31 ?_
  refine tg_top (y := nI (G 3)) (by simp [va_up]) ?_
  refine tg_aload_n hx hb dS_enter_34 rfl rfl ?_
  refine tg_aast (t0 := 1) hx hb hK (hO.1 6 (by decide)) rfl rfl (hT f hf).1 rfl rfl (x := G 3) (by decide) (by omega) dS_enter_35 ?_
  refine tg_wp (hg_w_a3 hO (G 3) (some (ad 8 f))) ?_
  refine tg_aload_n hx hb dS_enter_36 rfl rfl ?_
  refine tg_dup hx hb dS_enter_37 rfl ?_
  refine tg_get (T := TS) (N := 9) hx hb hts inS hown hK (hO.1 3 (by decide)) rfl rfl 5 (by decide) (hts _ wf_S_33) (fun _ z => z) rfl dS_enter_38 ?_
  refine tg_top (y := nI (G 3)) (by simp [va_up]) ?_
  refine tg_iconst (v := nI 1) hx hb dS_enter_41 (by decide +kernel) ?_
  refine tg_iadd hx hb dS_enter_42 ?_
  refine tg_top (y := nI ((G 3) + (1))) (nI_add _ _) ?_
  refine tg_put (T := TS) (N := 9) (ty := .int) hx hb hts inS tyS tyS_ok nmS hown hK (hO.1 3 (by decide)) rfl rfl 5 (by decide) (hts _ wf_S_33) (fun _ z => z) rfl (by decide +kernel) rfl rfl (Nat.le_of_ble_eq_true rfl) dS_enter_43 ?_
  refine tg_wp (hg_w_G3 hO ((G 3) + (1))) ?_
  refine tg_aload_n hx hb dS_enter_46 rfl rfl ?_
  refine tg_get (T := TS) (N := 9) hx hb hts inS hown hK (hO.1 3 (by decide)) rfl rfl 6 (by decide) (hts _ wf_S_23) (fun _ z => z) rfl dS_enter_47 ?_
  refine tg_aload_n hx hb dS_enter_50 rfl rfl ?_
  refine tg_get (T := TS) (N := 9) hx hb hts inS hown hK (hO.1 3 (by decide)) rfl rfl 7 (by decide) (hts _ wf_S_36) (fun _ z => z) rfl dS_enter_51 ?_
  refine tg_top (y := nI (G 4)) (by simp [va_up]) ?_
  refine tg_aload_n hx hb dS_enter_54 rfl rfl ?_
  refine tg_aast (t0 := 1) hx hb hK (hO.1 7 (by decide)) rfl rfl (hT f hf).1 rfl rfl (x := G 4) (by decide) (by omega) dS_enter_55 ?_
  refine tg_wp (hg_w_a4 hO (G 4) (some (ad 8 f))) ?_
  refine tg_aload_n hx hb dS_enter_56 rfl rfl ?_
  refine tg_dup hx hb dS_enter_57 rfl ?_
  refine tg_get (T := TS) (N := 9) hx hb hts inS hown hK (hO.1 3 (by decide)) rfl rfl 7 (by decide) (hts _ wf_S_36) (fun _ z => z) rfl dS_enter_58 ?_
  refine tg_top (y := nI (G 4)) (by simp [va_up]) ?_
  refine tg_iconst (v := nI 1) hx hb dS_enter_61 (by decide +kernel) ?_
  refine tg_iadd hx hb dS_enter_62 ?_
  refine tg_top (y := nI ((G 4) + (1))) (nI_add _ _) ?_
  refine tg_put (T := TS) (N := 9) (ty := .int) hx hb hts inS tyS tyS_ok nmS hown hK (hO.1 3 (by decide)) rfl rfl 7 (by decide) (hts _ wf_S_36) (fun _ z => z) rfl (by decide +kernel) rfl rfl (Nat.le_of_ble_eq_true rfl) dS_enter_63 ?_
  refine tg_wp (hg_w_G4 hO ((G 4) + (1))) ?_
  exact tg_vret hx hb hlocks hr hQ ⟨rfl, rfl, rfl, rfl⟩ dS_enter_66
end HGS
end
section
/-! the sweep looks at the list of the hit -/
section HGS2
variable {l : Launch} {D : va_G} {F : Nat → Prop} {Nn : State → Heap → Prop} {ad : Nat → Nat → Nat} {ok : Nat → Nat → Prop} {cF cI cZ cJ cA cB : ClassId} {G : Nat → Nat} {a : Nat → Nat → Option Nat} {dr : Nat → Int32} {N : Nat → Nat → Nat} {bc : Nat → Int32} {sp : Nat → Nat → Int32} {μ : Nat → Nat → va_E} {T : Nat → Prop}
set_option maxRecDepth 100000 in
set_option maxHeartbeats 4000000 in
/-- the greatest rank of those that f hangs on -/
theorem c_greatest (hO : hg_ok ok) (hT : ∀ f, T f → ok 8 f ∧ ok 9 f) (hMv : tg_Mv F Nn) (hNN : ∀ u, T u → N 1 u ≤ N 3 u ∧ N 3 u < 20) (hits : Nat → Nat) (hh : G 2 ≤ 400) (hhs : ∀ i, i < G 2 → T (hits i) ∧ a 2 i = some (ad 8 (hits i))) (hrk : ∀ u, T u → N 10 u < 1000) (f : Nat) (hf : T f) : tg_Met l yS_greatestRankBelow wsS_greatestRankBelow ({ frames := 1, cells := 0, slots := 0, locals := 40 }) D vwCl (hg_tys cI cF cZ cJ cA cB) F Nn ad ok (hg_w ad cF cI G a dr N bc sp μ) [.ref (ad 3 0), .ref (ad 8 f)] (tg_po ad ok fun r w1 => r = some (.int (nI (hg_lm (hg_hk N bc sp f) (N 10) hits (G 2)))) ∧ w1 = (hg_w ad cF cI G a dr N bc sp μ)) := by
  refine tg_start (cc := cS_greatestRankBelow) (maxL := 4) (ret := some .int) (by decide) rfl (Nat.le_of_ble_eq_true rfl) ?_
  intro p e R s m args below meth c Q hx hb hml hr hlocks hown hname hts hK hN hR hQ
  have hown : s.vm.findClass "HangGraph$Sweep" = some m.cls := hown
  have hts : ∀ w ∈ lw_g, w.before args s = true := fun w z => hts w (List.mem_cons_of_mem _ z)
  refine tg_iconst (v := nI 0) hx hb dS_greatestRankBelow_0 (by decide +kernel) ?_
  refine tg_istore_n (L' := [(0, .ref (ad 3 0)), (1, .ref (ad 8 f)), (2, .int (nI (0)))]) hx hb dS_greatestRankBelow_1 rfl (by decide) rfl rfl ?_
  refine tg_iconst (v := nI 0) hx hb dS_greatestRankBelow_2 (by decide +kernel) ?_
  refine tg_istore_n (L' := [(0, .ref (ad 3 0)), (1, .ref (ad 8 f)), (2, .int (nI (0))), (3, .int (nI (0)))]) hx hb dS_greatestRankBelow_3 rfl (by decide) rfl rfl ?_
  refine tg_loop (fun i : Nat => i ≤ G 2) (fun i => G 2 - i) (fun i => tg_W p l e R s m args below meth c Q 4 D vwCl F ad ok (hg_w ad cF cI G a dr N bc sp μ) [(0, .ref (ad 3 0)), (1, .ref (ad 8 f)), (2, .int (nI (hg_lm (hg_hk N bc sp f) (N 10) hits i))), (3, .int (nI (i)))] 0 0 4 []) ?_ 0 (Nat.zero_le _)
  intro i hi0 ih
  have hl : hg_lm (hg_hk N bc sp f) (N 10) hits i ≤ 1000 := hg_lm_bd i fun j hj _ => Nat.le_of_lt (hrk _ (hhs j (by omega)).1)
  refine tg_iload_n hx hb dS_greatestRankBelow_4 rfl rfl ?_
  refine tg_aload_n hx hb dS_greatestRankBelow_5 rfl rfl ?_
  refine tg_get (T := TS) (N := 9) hx hb hts inS hown hK (hO.1 3 (by decide)) rfl rfl 3 (by decide) (hts _ wf_S_30) (fun _ z => z) rfl dS_greatestRankBelow_6 ?_
  refine tg_icmp_ge (tgt := 45) hx hb dS_greatestRankBelow_9 (by decide) (fun q_1 => ?_) (fun q_1 => ?_)
  · have q_1' := q_1
    have h_2 : G 2 ≤ i := (nI_leI (by omega) (by omega)).mp q_1
    refine tg_iload_n hx hb dS_greatestRankBelow_45 rfl rfl ?_
    have e9 : i = G 2 := by omega
    subst e9
    exact tg_iret hx hb hlocks hr hQ ⟨rfl, rfl, rfl, rfl⟩ dS_greatestRankBelow_46
  · have q_1' := q_1
    have h_3 : i < G 2 := Nat.lt_of_not_le fun z => q_1 ((nI_leI (by omega) (by omega)).mpr z)
    have hi := hhs i (by omega)
    refine tg_aload_n hx hb dS_greatestRankBelow_12 rfl rfl ?_
    refine tg_aload_n hx hb dS_greatestRankBelow_13 rfl rfl ?_
    refine tg_get (T := TS) (N := 9) hx hb hts inS hown hK (hO.1 3 (by decide)) rfl rfl 2 (by decide) (hts _ wf_S_17) (fun _ z => z) rfl dS_greatestRankBelow_14 ?_
    refine tg_iload_n hx hb dS_greatestRankBelow_17 rfl rfl ?_
    refine tg_aald (t0 := 1) hx hb hK (hO.1 5 (by decide)) rfl rfl (x := i) (by decide) (by omega) dS_greatestRankBelow_18 ?_
    refine tg_st (st' := .ref (ad 8 (hits i)) :: [.ref (ad 8 f)]) (by rw [hi.2]; rfl) ?_
    refine tg_callV (C := "HangGraph$Formula") (As := [.ref (ad 8 (hits i))]) (rest := []) ⟨hx, hb, hml, hown, hts⟩ hK hN hMv (hT f hf).1 rfl rfl rfl (c_hangsOn hO hT f (hits i) hf hi.1 (hNN _ hi.1).1 (hNN _ hi.1).2) (cwV 1 hts (lg_V wm_S_66 wi_F_hangsOn we_F_hangsOn wn_F wc_F_hangsOn) rfl rfl rfl ⟨rfl, by decide, by decide, rfl⟩ ⟨by rw [hR]; exact Nat.le_of_ble_eq_true rfl, by rw [hR]; exact Nat.le_of_ble_eq_true rfl⟩) rfl (Nat.le_of_ble_eq_true rfl) ⟨by rw [hR]; exact Nat.le_of_ble_eq_true rfl, by rw [hR]; exact Nat.le_of_ble_eq_true rfl⟩ rfl dS_greatestRankBelow_19 (tg_kv rfl rfl ?_)
    have hb9 := hg_b_le (hg_hk N bc sp f (hits i))
    refine tg_if_eq (tgt := 39) hx hb dS_greatestRankBelow_22 (by decide) (fun q_4 => ?_) (fun q_4 => ?_)
    · have q_4' := q_4
      rw [← nI_0] at q_4
      have h_5 : hg_b (hg_hk N bc sp f (hits i)) = 0 := (nI_eq (by omega) (by omega)).mp q_4
      refine tg_iinc (v := nI (i + 1)) (L' := [(0, .ref (ad 3 0)), (1, .ref (ad 8 f)), (2, .int (nI (hg_lm (hg_hk N bc sp f) (N 10) hits i))), (3, .int (nI (i + 1)))]) hx hb dS_greatestRankBelow_39 rfl (nI_1 _) (by decide) rfl rfl ?_
      refine tg_goto (tgt := 4) hx hb dS_greatestRankBelow_42 (by decide) ?_
      have e9 : hg_lm (hg_hk N bc sp f) (N 10) hits (i + 1) = hg_lm (hg_hk N bc sp f) (N 10) hits i := hg_lm_f (hg_b0 h_5)
      rw [← e9]
      exact ih (i + 1) (by omega) (by omega)
    · have q_4' := q_4
      rw [← nI_0] at q_4
      have h_6 : hg_b (hg_hk N bc sp f (hits i)) ≠ 0 := fun z => q_4 ((nI_eq (by omega) (by omega)).mpr z)
      have hr9 := hrk _ hi.1
      refine tg_iload_n hx hb dS_greatestRankBelow_25 rfl rfl ?_
      refine tg_aload_n hx hb dS_greatestRankBelow_26 rfl rfl ?_
      refine tg_get (T := TS) (N := 9) hx hb hts inS hown hK (hO.1 3 (by decide)) rfl rfl 2 (by decide) (hts _ wf_S_17) (fun _ z => z) rfl dS_greatestRankBelow_27 ?_
      refine tg_iload_n hx hb dS_greatestRankBelow_30 rfl rfl ?_
      refine tg_aald (t0 := 1) hx hb hK (hO.1 5 (by decide)) rfl rfl (x := i) (by decide) (by omega) dS_greatestRankBelow_31 ?_
      refine tg_st (st' := .ref (ad 8 (hits i)) :: [.int (nI (hg_lm (hg_hk N bc sp f) (N 10) hits i))]) (by rw [hi.2]; rfl) ?_
      refine tg_get (T := TF) (N := 15) hx hb hts inF hown hK (hT (hits i) hi.1).1 rfl rfl 10 (by decide) (hts _ wf_S_108) (fun _ z => z) rfl dS_greatestRankBelow_32 ?_
      refine tg_mmax hx hb hml hown (hts _ wm_S_114) (hts _ wt_java_lang_Math_max) (hts _ wn_java_lang_Math) (hts _ wc_java_lang_Math_max) (by rw [hR]; exact Nat.le_of_ble_eq_true rfl) (by rw [hR]; exact Nat.le_of_ble_eq_true rfl) (Nat.zero_le _) (Nat.zero_le _) dS_greatestRankBelow_35 ?_
      refine tg_top (y := nI (Nat.max (hg_lm (hg_hk N bc sp f) (N 10) hits i) (N 10 (hits i)))) (hg_imax (by omega) (by omega)) ?_
      refine tg_istore_n (L' := [(0, .ref (ad 3 0)), (1, .ref (ad 8 f)), (2, .int (nI (Nat.max (hg_lm (hg_hk N bc sp f) (N 10) hits i) (N 10 (hits i))))), (3, .int (nI (i)))]) hx hb dS_greatestRankBelow_38 rfl (by decide) rfl rfl ?_
      refine tg_iinc (v := nI (i + 1)) (L' := [(0, .ref (ad 3 0)), (1, .ref (ad 8 f)), (2, .int (nI (Nat.max (hg_lm (hg_hk N bc sp f) (N 10) hits i) (N 10 (hits i))))), (3, .int (nI (i + 1)))]) hx hb dS_greatestRankBelow_39 rfl (nI_1 _) (by decide) rfl rfl ?_
      refine tg_goto (tgt := 4) hx hb dS_greatestRankBelow_42 (by decide) ?_
      have e9 : hg_lm (hg_hk N bc sp f) (N 10) hits (i + 1) = Nat.max (hg_lm (hg_hk N bc sp f) (N 10) hits i) (N 10 (hits i)) := hg_lm_t (hg_b1 h_6)
      rw [← e9]
      exact ih (i + 1) (by omega) (by omega)
end HGS2
end
section
/-! what holds while the hit are found: lv lists the living, hs the hit -/
def hg_FV (T : Nat → Prop) (ad : Nat → Nat → Nat) (a : Nat → Nat → Option Nat) (G : Nat → Nat) (N : Nat → Nat → Nat) (lv hs : Nat → Nat) : Prop :=
  (∀ u, T u → u < 400) ∧ (∀ u, T u → N 1 u ≤ N 3 u ∧ N 3 u < 20) ∧ G 1 ≤ 400 ∧ (∀ i, i < G 1 → T (lv i) ∧ a 1 i = some (ad 8 (lv i))) ∧ (∀ u, T u → ∃ i, i < G 1 ∧ lv i = u) ∧ (∀ i j, i < j → j < G 1 → lv i < lv j) ∧
  (∀ i, i < G 2 → T (hs i) ∧ N 8 (hs i) ≠ 0 ∧ a 2 i = some (ad 8 (hs i))) ∧ (∀ u, N 8 u ≠ 0 → ∃ i, i < G 2 ∧ hs i = u) ∧ hg_cn (fun u => N 8 u ≠ 0) 400 = G 2
def hg_FK (T : Nat → Prop) (ad : Nat → Nat → Nat) (lv : Nat → Nat) (a0 : Nat → Nat → Option Nat) (G0 : Nat → Nat) (N0 : Nat → Nat → Nat) (hs0 : Nat → Nat) (a : Nat → Nat → Option Nat) (G : Nat → Nat) (N : Nat → Nat → Nat) (hs : Nat → Nat) : Prop :=
  hg_FV T ad a G N lv hs ∧ (∀ j, j ≠ 8 → N j = N0 j) ∧ (∀ k, k ≠ 2 → G k = G0 k) ∧ (∀ j, j ≠ 2 → a j = a0 j) ∧ (∀ j u, N j u < 1000000) ∧ (∀ k, G k < 1000000) ∧ G0 2 ≤ G 2 ∧ (∀ i, i < G0 2 → hs i = hs0 i) ∧ ∀ u, N0 8 u ≠ 0 → N 8 u ≠ 0
theorem hg_hkE {N N' : Nat → Nat → Nat} {bc : Nat → Int32} {sp : Nat → Nat → Int32} {f g : Nat} (h1 : N' 1 = N 1) (h3 : N' 3 = N 3) : hg_hk N' bc sp f g ↔ hg_hk N bc sp f g := by
  unfold hg_hk
  rw [h1, h3]
theorem hg_hhE {N N' : Nat → Nat → Nat} {bc : Nat → Int32} {x : Nat → Int32} {f : Nat} (h1 : N' 1 = N 1) (h3 : N' 3 = N 3) : hg_hh N' bc x f ↔ hg_hh N bc x f := by
  unfold hg_hh
  rw [h1, h3]
section HGH
variable {T : Nat → Prop} {ad : Nat → Nat → Nat} {a a0 a1 : Nat → Nat → Option Nat} {G G0 G1 : Nat → Nat} {N N0 N1 : Nat → Nat → Nat} {lv hs hs0 hs1 : Nat → Nat}
theorem hg_colA {α : Type} (N : Nat → Nat → α) (j u : Nat) (v : α) : (tg_up N j u v) j = va_up (N j) u v := by
  funext i
  simp [tg_up, va_up]
theorem hg_othA {α : Type} (N : Nat → Nat → α) {j k : Nat} (u : Nat) (v : α) (h : k ≠ j) : (tg_up N j u v) k = N k := by
  funext i
  simp [tg_up, h]
theorem hg_FV.room (h : hg_FV T ad a G N lv hs) : G 2 ≤ 400 := by
  obtain ⟨-, -, -, -, -, -, -, -, f9⟩ := h
  rw [← f9]
  exact hg_cn_bd _ 400
theorem hg_FV.add {f : Nat} (h : hg_FV T ad a G N lv hs) (hf : T f) (h8 : N 8 f = 0) : G 2 < 400 ∧ hg_FV T ad (va_up a 2 (va_up (a 2) (G 2) (some (ad 8 f)))) (va_up G 2 (G 2 + 1)) (tg_up N 8 f 1) lv (va_up hs (G 2) f) := by
  obtain ⟨f1, f2, f3, f4, f5, f6, f7, f8, f9⟩ := h
  have hlt : G 2 < 400 := by
    rw [← f9]
    exact hg_cn_room (x := f) (fun z => z h8) (f1 f hf)
  refine ⟨hlt, ?_⟩
  have g1 : va_up G 2 (G 2 + 1) 1 = G 1 := va_up_ne _ _ (by decide)
  have g2 : va_up G 2 (G 2 + 1) 2 = G 2 + 1 := va_up_self ..
  have e1 : va_up a 2 (va_up (a 2) (G 2) (some (ad 8 f))) 1 = a 1 := va_up_ne _ _ (by decide)
  have e2 : va_up a 2 (va_up (a 2) (G 2) (some (ad 8 f))) 2 = va_up (a 2) (G 2) (some (ad 8 f)) := va_up_self ..
  have n8 : ∀ u, va_up (N 8) f 1 u ≠ 0 ↔ (N 8 u ≠ 0 ∨ u = f) := fun u => by
    by_cases z : u = f
    · rw [z, va_up_self]
      exact ⟨fun _ => Or.inr rfl, fun _ => by omega⟩
    · rw [va_up_ne _ _ z]
      exact ⟨Or.inl, fun q => q.elim id fun q => absurd q z⟩
  unfold hg_FV
  rw [g1, g2, e1, e2, hg_colA, hg_othA N (j := 8) (k := 1) _ _ (by decide), hg_othA N (j := 8) (k := 3) _ _ (by decide)]
  refine ⟨f1, f2, f3, f4, f5, f6, fun i hi => ?_, fun u hu => ?_, ?_⟩
  · by_cases z : i = G 2
    · rw [z, va_up_self, va_up_self, va_up_self]
      exact ⟨hf, by omega, rfl⟩
    · rw [va_up_ne _ _ z, va_up_ne _ _ z]
      obtain ⟨a1, a2, a3⟩ := f7 i (by omega)
      exact ⟨a1, (n8 _).2 (Or.inl a2), a3⟩
  · rcases (n8 u).1 hu with z | z
    · obtain ⟨i, h1, h2⟩ := f8 u z
      exact ⟨i, by omega, by rw [va_up_ne _ _ (by omega)]; exact h2⟩
    · exact ⟨G 2, by omega, by rw [va_up_self]; exact z.symm⟩
  · rw [hg_cn_congr 400 (Q := fun u => (fun k => N 8 k ≠ 0) u ∨ u = f) (fun k _ => n8 k), hg_cn_add (P := fun k => N 8 k ≠ 0) (fun z => z h8) 400, f9, hg_b_t (f1 f hf)]
theorem hg_FK.add {f : Nat} (h : hg_FK T ad lv a0 G0 N0 hs0 a G N hs) (hf : T f) (h8 : N 8 f = 0) : G 2 < 400 ∧ hg_FK T ad lv a0 G0 N0 hs0 (va_up a 2 (va_up (a 2) (G 2) (some (ad 8 f)))) (va_up G 2 (G 2 + 1)) (tg_up N 8 f 1) (va_up hs (G 2) f) := by
  obtain ⟨k1, k2, k3, k4, k5, k6, k7, k8, k9⟩ := h
  obtain ⟨h1, h2⟩ := k1.add hf h8
  refine ⟨h1, h2, fun j hj => by rw [hg_othA _ _ _ hj]; exact k2 j hj, fun k hk => by rw [va_up_ne _ _ hk]; exact k3 k hk, fun j hj => by rw [va_up_ne _ _ hj]; exact k4 j hj, fun j u => ?_, fun k => ?_, by rw [va_up_self]; omega, fun i hi => by rw [va_up_ne _ _ (by omega)]; exact k8 i hi, fun u hu => ?_⟩
  · unfold tg_up
    split
    · omega
    · exact k5 j u
  · unfold va_up
    split
    · omega
    · exact k6 k
  · rw [hg_colA]
    by_cases z : u = f
    · rw [z, va_up_self]
      omega
    · rw [va_up_ne _ _ z]
      exact k9 u hu
theorem hg_FK.refl (h : hg_FV T ad a G N lv hs) (hB : ∀ j u, N j u < 1000000) (hBG : ∀ k, G k < 1000000) : hg_FK T ad lv a G N hs a G N hs := ⟨h, fun _ _ => rfl, fun _ _ => rfl, fun _ _ => rfl, hB, hBG, Nat.le_refl _, fun _ _ => rfl, fun _ z => z⟩
theorem hg_FK.trans (h : hg_FK T ad lv a0 G0 N0 hs0 a1 G1 N1 hs1) (h' : hg_FK T ad lv a1 G1 N1 hs1 a G N hs) : hg_FK T ad lv a0 G0 N0 hs0 a G N hs := by
  obtain ⟨k1, k2, k3, k4, k5, k6, k7, k8, k9⟩ := h
  obtain ⟨l1, l2, l3, l4, l5, l6, l7, l8, l9⟩ := h'
  exact ⟨l1, fun j hj => (l2 j hj).trans (k2 j hj), fun k hk => (l3 k hk).trans (k3 k hk), fun j hj => (l4 j hj).trans (k4 j hj), l5, l6, Nat.le_trans k7 l7, fun i hi => (l8 i (Nat.lt_of_lt_of_le hi k7)).trans (k8 i hi), fun u hu => l9 u (k9 u hu)⟩
end HGH
end
section
/-! the hit are found -/
section HGS5
variable {l : Launch} {D : va_G} {F : Nat → Prop} {Nn : State → Heap → Prop} {ad : Nat → Nat → Nat} {ok : Nat → Nat → Prop} {cF cI cZ cJ cA cB : ClassId} {G : Nat → Nat} {a : Nat → Nat → Option Nat} {dr : Nat → Int32} {N : Nat → Nat → Nat} {bc : Nat → Int32} {sp : Nat → Nat → Int32} {μ : Nat → Nat → va_E} {T : Nat → Prop}
set_option maxRecDepth 100000 in
set_option maxHeartbeats 4000000 in
/-- all that hang on g are hit -/
theorem c_hitAll (hO : hg_ok ok) (hT : ∀ f, T f → ok 8 f ∧ ok 9 f) (hMv : tg_Mv F Nn) (hB : ∀ j u, N j u < 1000000) (hBG : ∀ k, G k < 1000000) (lv hs : Nat → Nat) (hF : hg_FV T ad a G N lv hs) (g : Nat) (hg : T g) : tg_Met l yS_hitAllThatHangOn wsS_hitAllThatHangOn ({ frames := 1, cells := 0, slots := 0, locals := 40 }) D vwCl (hg_tys cI cF cZ cJ cA cB) F Nn ad ok (hg_w ad cF cI G a dr N bc sp μ) [.ref (ad 3 0), .ref (ad 8 g)] (tg_po ad ok fun r w1 => r = none ∧ ∃ a' G' N' hs', w1 = hg_w ad cF cI G' a' dr N' bc sp μ ∧ hg_FK T ad lv a G N hs a' G' N' hs' ∧ (∀ u, T u → hg_hk N bc sp u g → N' 8 u ≠ 0) ∧ ∀ u, N' 8 u ≠ 0 → N 8 u ≠ 0 ∨ (T u ∧ hg_hk N bc sp u g)) := by
  refine tg_start (cc := cS_hitAllThatHangOn) (maxL := 4) (ret := none) (by decide) rfl (Nat.le_of_ble_eq_true rfl) ?_
  intro p e R s m args below meth c Q hx hb hml hr hlocks hown hname hts hK hN hR hQ
  have hown : s.vm.findClass "HangGraph$Sweep" = some m.cls := hown
  have hts : ∀ w ∈ lw_g, w.before args s = true := fun w z => hts w (List.mem_cons_of_mem _ z)
  refine tg_iconst (v := nI 0) hx hb dS_hitAllThatHangOn_0 (by decide +kernel) ?_
  refine tg_istore_n (L' := [(0, .ref (ad 3 0)), (1, .ref (ad 8 g)), (2, .int (nI (0)))]) hx hb dS_hitAllThatHangOn_1 rfl (by decide) rfl rfl ?_
  refine tg_loop (fun x : Nat × (Nat → Nat) × (Nat → Nat → Option Nat) × (Nat → Nat → Nat) × (Nat → Nat) => hg_FK T ad lv a G N hs x.2.2.1 x.2.1 x.2.2.2.1 x.2.2.2.2 ∧ x.1 ≤ G 1 ∧ (∀ k, k < x.1 → hg_hk N bc sp (lv k) g → x.2.2.2.1 8 (lv k) ≠ 0) ∧ ∀ u, x.2.2.2.1 8 u ≠ 0 → N 8 u ≠ 0 ∨ (T u ∧ hg_hk N bc sp u g)) (fun x => G 1 - x.1) (fun x => tg_W p l e R s m args below meth c Q 4 D vwCl F ad ok (hg_w ad cF cI x.2.1 x.2.2.1 dr x.2.2.2.1 bc sp μ) [(0, .ref (ad 3 0)), (1, .ref (ad 8 g)), (2, .int (nI (x.1)))] 0 0 2 []) ?_ (0, G, a, N, hs) ⟨hg_FK.refl hF hB hBG, Nat.zero_le _, fun k hk => absurd hk (Nat.not_lt_zero _), fun u z => Or.inl z⟩
  intro ⟨i, G1, a1, N1, hs1⟩ ⟨hFK, hi0, hcl, hsn⟩ ih
  dsimp only at hFK hi0 hcl hsn ih ⊢
  have hFK' := hFK
  obtain ⟨hFV, hN1, hG1, ha1, hB1, hBG1, hg2, hpre, hmo⟩ := hFK'
  obtain ⟨f1, f2, f3, f4, f5, f6, f7, f8, f9⟩ := hFV
  have hNN := f2
  have hG11 := hG1 1 (by decide)
  refine tg_iload_n hx hb dS_hitAllThatHangOn_2 rfl rfl ?_
  refine tg_aload_n hx hb dS_hitAllThatHangOn_3 rfl rfl ?_
  refine tg_get (T := TS) (N := 9) hx hb hts inS hown hK (hO.1 3 (by decide)) rfl rfl 1 (by decide) (hts _ wf_S_26) (fun _ z => z) rfl dS_hitAllThatHangOn_4 ?_
  have hb_1 := hBG1 1
  refine tg_icmp_ge (tgt := 43) hx hb dS_hitAllThatHangOn_7 (by decide) (fun q_2 => ?_) (fun q_2 => ?_)
  · have q_2' := q_2
    have h_3 : G1 1 ≤ i := (nI_leI (by omega) (by omega)).mp q_2
    exact tg_vret hx hb hlocks hr hQ ⟨rfl, rfl, rfl, a1, G1, N1, hs1, rfl, hFK, fun u hu z => by obtain ⟨k, h1, h2⟩ := f5 u hu; rw [← h2]; exact hcl k (by omega) (by rw [h2]; exact z), hsn⟩ dS_hitAllThatHangOn_43
  · have q_2' := q_2
    have h_4 : i < G1 1 := Nat.lt_of_not_le fun z => q_2 ((nI_leI (by omega) (by omega)).mpr z)
    have hi := f4 i (by omega)
    have hhk : hg_hk N1 bc sp (lv i) g ↔ hg_hk N bc sp (lv i) g := hg_hkE (hN1 1 (by decide)) (hN1 3 (by decide))
    refine tg_aload_n hx hb dS_hitAllThatHangOn_10 rfl rfl ?_
    refine tg_get (T := TS) (N := 9) hx hb hts inS hown hK (hO.1 3 (by decide)) rfl rfl 0 (by decide) (hts _ wf_S_11) (fun _ z => z) rfl dS_hitAllThatHangOn_11 ?_
    refine tg_iload_n hx hb dS_hitAllThatHangOn_14 rfl rfl ?_
    refine tg_aald (t0 := 1) hx hb hK (hO.1 4 (by decide)) rfl rfl (x := i) (by decide) (by omega) dS_hitAllThatHangOn_15 ?_
    refine tg_st (st' := .ref (ad 8 (lv i)) :: []) (by rw [hi.2]; rfl) ?_
    refine tg_astore_n (L' := [(0, .ref (ad 3 0)), (1, .ref (ad 8 g)), (2, .int (nI (i))), (3, .ref (ad 8 (lv i)))]) hx hb dS_hitAllThatHangOn_16 rfl (by decide) rfl rfl ?_
    refine tg_aload_n hx hb dS_hitAllThatHangOn_17 rfl rfl ?_
    refine tg_get (T := TF) (N := 15) hx hb hts inF hown hK (hT (lv i) hi.1).1 rfl rfl 8 (by decide) (hts _ wf_S_62) (fun _ z => z) rfl dS_hitAllThatHangOn_18 ?_
    have hb_5 := hB1 8 (lv i)
    refine tg_if_ne (tgt := 37) hx hb dS_hitAllThatHangOn_21 (by decide) (fun q_6 => ?_) (fun q_6 => ?_)
    · have q_6' := q_6
      rw [← nI_0] at q_6
      have h_7 : N1 8 (lv i) ≠ 0 := fun z => q_6 ((nI_eq (by omega) (by omega)).mpr z)
      refine tg_iinc (v := nI (i + 1)) (L' := [(0, .ref (ad 3 0)), (1, .ref (ad 8 g)), (2, .int (nI (i + 1))), (3, .ref (ad 8 (lv i)))]) hx hb dS_hitAllThatHangOn_37 rfl (nI_1 _) (by decide) rfl rfl ?_
      refine tg_goto (tgt := 2) hx hb dS_hitAllThatHangOn_40 (by decide) ?_
      refine tg_sub (L' := [(0, .ref (ad 3 0)), (1, .ref (ad 8 g)), (2, .int (nI (i + 1)))]) (fun q hq => (List.mem_append_left [(3, .ref (ad 8 (lv i)))] hq : q ∈ [(0, .ref (ad 3 0)), (1, .ref (ad 8 g)), (2, .int (nI (i + 1)))] ++ [(3, .ref (ad 8 (lv i)))])) ?_
      exact ih (i + 1, G1, a1, N1, hs1) ⟨hFK, by dsimp only; omega, lt_s hcl (fun _ => h_7), hsn⟩ (by dsimp only; omega)
    · have q_6' := q_6
      rw [← nI_0] at q_6
      have h_8 : N1 8 (lv i) = 0 := (nI_eq (by omega) (by omega)).mp q_6
      refine tg_aload_n hx hb dS_hitAllThatHangOn_24 rfl rfl ?_
      refine tg_aload_n hx hb dS_hitAllThatHangOn_25 rfl rfl ?_
      refine tg_callV (C := "HangGraph$Formula") (As := [.ref (ad 8 g)]) (rest := []) ⟨hx, hb, hml, hown, hts⟩ hK hN hMv (hT (lv i) hi.1).1 rfl rfl rfl (c_hangsOn hO hT (lv i) g hi.1 hg (hNN _ hg).1 (hNN _ hg).2) (cwV 1 hts (lg_V wm_S_66 wi_F_hangsOn we_F_hangsOn wn_F wc_F_hangsOn) rfl rfl rfl ⟨rfl, by decide, by decide, rfl⟩ ⟨by rw [hR]; exact Nat.le_of_ble_eq_true rfl, by rw [hR]; exact Nat.le_of_ble_eq_true rfl⟩) rfl (Nat.le_of_ble_eq_true rfl) ⟨by rw [hR]; exact Nat.le_of_ble_eq_true rfl, by rw [hR]; exact Nat.le_of_ble_eq_true rfl⟩ rfl dS_hitAllThatHangOn_26 (tg_kv rfl rfl ?_)
      have hb9 := hg_b_le (hg_hk N1 bc sp (lv i) g)
      refine tg_if_eq (tgt := 37) hx hb dS_hitAllThatHangOn_29 (by decide) (fun q_9 => ?_) (fun q_9 => ?_)
      · have q_9' := q_9
        rw [← nI_0] at q_9
        have h_10 : hg_b (hg_hk N1 bc sp (lv i) g) = 0 := (nI_eq (by omega) (by omega)).mp q_9
        refine tg_iinc (v := nI (i + 1)) (L' := [(0, .ref (ad 3 0)), (1, .ref (ad 8 g)), (2, .int (nI (i + 1))), (3, .ref (ad 8 (lv i)))]) hx hb dS_hitAllThatHangOn_37 rfl (nI_1 _) (by decide) rfl rfl ?_
        refine tg_goto (tgt := 2) hx hb dS_hitAllThatHangOn_40 (by decide) ?_
        refine tg_sub (L' := [(0, .ref (ad 3 0)), (1, .ref (ad 8 g)), (2, .int (nI (i + 1)))]) (fun q hq => (List.mem_append_left [(3, .ref (ad 8 (lv i)))] hq : q ∈ [(0, .ref (ad 3 0)), (1, .ref (ad 8 g)), (2, .int (nI (i + 1)))] ++ [(3, .ref (ad 8 (lv i)))])) ?_
        exact ih (i + 1, G1, a1, N1, hs1) ⟨hFK, by dsimp only; omega, lt_s hcl (fun z => absurd (hhk.mpr z) (hg_b0 h_10)), hsn⟩ (by dsimp only; omega)
      · have q_9' := q_9
        rw [← nI_0] at q_9
        have h_11 : hg_b (hg_hk N1 bc sp (lv i) g) ≠ 0 := fun z => q_9 ((nI_eq (by omega) (by omega)).mpr z)
        refine tg_aload_n hx hb dS_hitAllThatHangOn_32 rfl rfl ?_
        refine tg_aload_n hx hb dS_hitAllThatHangOn_33 rfl rfl ?_
        have hA := hFK.add hi.1 (by omega)
        refine tg_callV (C := "HangGraph$Sweep") (As := [.ref (ad 8 (lv i))]) (rest := []) ⟨hx, hb, hml, hown, hts⟩ hK hN hMv (hO.1 3 (by decide)) rfl rfl rfl (c_addHit hO hT (lv i) hi.1 hA.1) (cwV 1 hts (lg_V wm_S_55 wi_S_addHit we_S_addHit wn_S wc_S_addHit) rfl rfl rfl ⟨rfl, by decide, by decide, rfl⟩ ⟨by rw [hR]; exact Nat.le_of_ble_eq_true rfl, by rw [hR]; exact Nat.le_of_ble_eq_true rfl⟩) rfl (Nat.le_of_ble_eq_true rfl) ⟨by rw [hR]; exact Nat.le_of_ble_eq_true rfl, by rw [hR]; exact Nat.le_of_ble_eq_true rfl⟩ rfl dS_hitAllThatHangOn_34 (tg_kn rfl rfl ?_)
        refine tg_iinc (v := nI (i + 1)) (L' := [(0, .ref (ad 3 0)), (1, .ref (ad 8 g)), (2, .int (nI (i + 1))), (3, .ref (ad 8 (lv i)))]) hx hb dS_hitAllThatHangOn_37 rfl (nI_1 _) (by decide) rfl rfl ?_
        refine tg_goto (tgt := 2) hx hb dS_hitAllThatHangOn_40 (by decide) ?_
        refine tg_sub (L' := [(0, .ref (ad 3 0)), (1, .ref (ad 8 g)), (2, .int (nI (i + 1)))]) (fun q hq => (List.mem_append_left [(3, .ref (ad 8 (lv i)))] hq : q ∈ [(0, .ref (ad 3 0)), (1, .ref (ad 8 g)), (2, .int (nI (i + 1)))] ++ [(3, .ref (ad 8 (lv i)))])) ?_
        exact ih (i + 1, (va_up G1 2 (G1 2 + 1)), (va_up a1 2 (va_up (a1 2) (G1 2) (some (ad 8 (lv i))))), (tg_up N1 8 (lv i) 1), (va_up hs1 (G1 2) (lv i))) ⟨hA.2, by dsimp only; omega, by dsimp only; rw [hg_colA]; exact lt_s (fun k hk z => by unfold va_up; split; omega; exact hcl k hk z) (fun _ => by rw [va_up_self]; omega), by dsimp only; rw [hg_colA]; exact fun u hu => by by_cases z : u = lv i; exact Or.inr ⟨by rw [z]; exact hi.1, by rw [z]; exact hhk.mp (hg_b1 h_11)⟩; rw [va_up_ne _ _ z] at hu; exact hsn u hu⟩ (by dsimp only; omega)
set_option maxRecDepth 100000 in
set_option maxHeartbeats 4000000 in
/-- the hit are found -/
theorem c_findHit (hO : hg_ok ok) (hT : ∀ f, T f → ok 8 f ∧ ok 9 f) (hMv : tg_Mv F Nn) (hB : ∀ j u, N j u < 1000000) (hBG : ∀ k, G k < 1000000) (lv hs : Nat → Nat) (hF : hg_FV T ad a G N lv hs) (h80 : ∀ u, N 8 u = 0) : tg_Met l yS_findHit wsS_findHit ({ frames := 2, cells := 0, slots := 0, locals := 90 }) D vwCl (hg_tys cI cF cZ cJ cA cB) F Nn ad ok (hg_w ad cF cI G a dr N bc sp μ) [.ref (ad 3 0), .ref (ad 2 0)] (tg_po ad ok fun r w1 => r = none ∧ ∃ a' G' N' hs', w1 = hg_w ad cF cI G' a' dr N' bc sp μ ∧ hg_FK T ad lv a G N hs a' G' N' hs' ∧ ∀ f, N' 8 f ≠ 0 ↔ ∃ g, hg_R (fun u v => T u ∧ T v ∧ hg_hk N bc sp u v) f g ∧ T g ∧ (hg_hh N bc dr g ∨ hg_hd sp dr g)) := by
  refine tg_start (cc := cS_findHit) (maxL := 4) (ret := none) (by decide) rfl (Nat.le_of_ble_eq_true rfl) ?_
  intro p e R s m args below meth c Q hx hb hml hr hlocks hown hname hts hK hN hR hQ
  have hown : s.vm.findClass "HangGraph$Sweep" = some m.cls := hown
  have hts : ∀ w ∈ lw_g, w.before args s = true := fun w z => hts w (List.mem_cons_of_mem _ z)
  refine tg_iconst (v := nI 0) hx hb dS_findHit_0 (by decide +kernel) ?_
  refine tg_istore_n (L' := [(0, .ref (ad 3 0)), (1, .ref (ad 2 0)), (2, .int (nI (0)))]) hx hb dS_findHit_1 rfl (by decide) rfl rfl ?_
  refine tg_loop (fun x : Nat × (Nat → Nat) × (Nat → Nat → Option Nat) × (Nat → Nat → Nat) × (Nat → Nat) => hg_FK T ad lv a G N hs x.2.2.1 x.2.1 x.2.2.2.1 x.2.2.2.2 ∧ x.1 ≤ G 1 ∧ (∀ k, k < x.1 → (hg_hh N bc dr (lv k) ∨ hg_hd sp dr (lv k)) → x.2.2.2.1 8 (lv k) ≠ 0) ∧ ∀ u, x.2.2.2.1 8 u ≠ 0 → (hg_hh N bc dr u ∨ hg_hd sp dr u) ∧ ∃ k, k < x.1 ∧ lv k = u) (fun x => G 1 - x.1) (fun x => tg_W p l e R s m args below meth c Q 4 D vwCl F ad ok (hg_w ad cF cI x.2.1 x.2.2.1 dr x.2.2.2.1 bc sp μ) [(0, .ref (ad 3 0)), (1, .ref (ad 2 0)), (2, .int (nI (x.1)))] 0 0 2 []) ?_ (0, G, a, N, hs) ⟨hg_FK.refl hF hB hBG, Nat.zero_le _, fun k hk => absurd hk (Nat.not_lt_zero _), fun u z => absurd (h80 u) z⟩
  intro ⟨i, G1, a1, N1, hs1⟩ ⟨hFK, hi0, hcl, hsn⟩ ih
  dsimp only at hFK hi0 hcl hsn ih ⊢
  have hFK' := hFK
  obtain ⟨hFV, hN1, hG1, ha1, hB1, hBG1, hg2, hpre, hmo⟩ := hFK'
  obtain ⟨f1, f2, f3, f4, f5, f6, f7, f8, f9⟩ := hFV
  have hNN := f2
  have hG11 := hG1 1 (by decide)
  refine tg_iload_n hx hb dS_findHit_2 rfl rfl ?_
  refine tg_aload_n hx hb dS_findHit_3 rfl rfl ?_
  refine tg_get (T := TS) (N := 9) hx hb hts inS hown hK (hO.1 3 (by decide)) rfl rfl 1 (by decide) (hts _ wf_S_26) (fun _ z => z) rfl dS_findHit_4 ?_
  have hb_1 := hBG1 1
  refine tg_icmp_ge (tgt := 44) hx hb dS_findHit_7 (by decide) (fun q_2 => ?_) (fun q_2 => ?_)
  · have q_2' := q_2
    have h_3 : G1 1 ≤ i := (nI_leI (by omega) (by omega)).mp q_2
    refine tg_iconst (v := nI 0) hx hb dS_findHit_44 (by decide +kernel) ?_
    refine tg_istore_n (L' := [(0, .ref (ad 3 0)), (1, .ref (ad 2 0)), (2, .int (nI (0)))]) hx hb dS_findHit_45 rfl (by decide) rfl rfl ?_
    have hini : ∀ u, T u → (hg_hh N bc dr u ∨ hg_hd sp dr u) → N1 8 u ≠ 0 := fun u hu z => by obtain ⟨k, h1, h2⟩ := f5 u hu; rw [← h2]; exact hcl k (by omega) (by rw [h2]; exact z)
    have hsn0 : ∀ u, N1 8 u ≠ 0 → ∃ g, hg_R (fun u v => T u ∧ T v ∧ hg_hk N bc sp u v) u g ∧ T g ∧ (hg_hh N bc dr g ∨ hg_hd sp dr g) := fun u z => ⟨u, hg_R_refl _ u, by obtain ⟨j, h1, h2⟩ := f8 u z; rw [← h2]; exact (f7 j h1).1, (hsn u z).1⟩
    refine tg_loop (fun x : Nat × (Nat → Nat) × (Nat → Nat → Option Nat) × (Nat → Nat → Nat) × (Nat → Nat) => hg_FK T ad lv a G N hs x.2.2.1 x.2.1 x.2.2.2.1 x.2.2.2.2 ∧ (∀ u, T u → (hg_hh N bc dr u ∨ hg_hd sp dr u) → x.2.2.2.1 8 u ≠ 0) ∧ (x.1 ≤ 400 ∧ ∀ j, j < x.1 → j < x.2.1 2 → ∀ u, T u → hg_hk N bc sp u (x.2.2.2.2 j) → x.2.2.2.1 8 u ≠ 0) ∧ ∀ u, x.2.2.2.1 8 u ≠ 0 → ∃ g, hg_R (fun u v => T u ∧ T v ∧ hg_hk N bc sp u v) u g ∧ T g ∧ (hg_hh N bc dr g ∨ hg_hd sp dr g)) (fun x => 400 - x.1) (fun x => tg_W p l e R s m args below meth c Q 4 D vwCl F ad ok (hg_w ad cF cI x.2.1 x.2.2.1 dr x.2.2.2.1 bc sp μ) [(0, .ref (ad 3 0)), (1, .ref (ad 2 0)), (2, .int (nI (x.1)))] 0 0 46 []) ?_ (0, G1, a1, N1, hs1) ⟨hFK, hini, ⟨Nat.zero_le _, fun j hj => absurd hj (Nat.not_lt_zero _)⟩, hsn0⟩
    clear hFK hi0 hcl hsn ih hN1 hG1 ha1 hB1 hBG1 hg2 hpre hmo f1 f2 f3 f4 f5 f6 f7 f8 f9 hNN hG11 hini hsn0
    intro ⟨i, G1, a1, N1, hs1⟩ ⟨hFK, hini, ⟨hi0, hcl⟩, hsn⟩ ih
    dsimp only at hFK hini hi0 hcl hsn ih ⊢
    have hFK' := hFK
    obtain ⟨hFV, hN1, hG1, ha1, hB1, hBG1, hg2, hpre, hmo⟩ := hFK'
    obtain ⟨f1, f2, f3, f4, f5, f6, f7, f8, f9⟩ := hFV
    have hrm := hFK.1.room
    refine tg_iload_n hx hb dS_findHit_46 rfl rfl ?_
    refine tg_sipush (v := nI 400) hx hb dS_findHit_47 (by decide +kernel) ?_
    refine tg_icmp_ge (tgt := 77) hx hb dS_findHit_50 (by decide) (fun q_4 => ?_) (fun q_4 => ?_)
    · have q_4' := q_4
      have h_5 : 400 ≤ i := (nI_leI (by omega) (by omega)).mp q_4
      have hend : G1 2 ≤ i := by omega
      exact tg_vret hx hb hlocks hr hQ ⟨rfl, rfl, rfl, a1, G1, N1, hs1, rfl, hFK, fun f => hg_hit_uniq (e := (fun u v => T u ∧ T v ∧ hg_hk N bc sp u v)) (h0 := fun g => T g ∧ (hg_hh N bc dr g ∨ hg_hd sp dr g)) (S := fun u => N1 8 u ≠ 0) (fun f z => hini f z.1 z.2) (fun f g z hg => by obtain ⟨j, h1, h2⟩ := f8 g hg; exact hcl j (by omega) h1 f z.1 (by rw [h2]; exact z.2.2)) hsn f⟩ dS_findHit_77
    · have q_4' := q_4
      have h_6 : i < 400 := Nat.lt_of_not_le fun z => q_4 ((nI_leI (by omega) (by omega)).mpr z)
      refine tg_iload_n hx hb dS_findHit_53 rfl rfl ?_
      refine tg_aload_n hx hb dS_findHit_54 rfl rfl ?_
      refine tg_get (T := TS) (N := 9) hx hb hts inS hown hK (hO.1 3 (by decide)) rfl rfl 3 (by decide) (hts _ wf_S_30) (fun _ z => z) rfl dS_findHit_55 ?_
      have hb_7 := hBG1 2
      refine tg_icmp_ge (tgt := 77) hx hb dS_findHit_58 (by decide) (fun q_8 => ?_) (fun q_8 => ?_)
      · have q_8' := q_8
        have h_9 : G1 2 ≤ i := (nI_leI (by omega) (by omega)).mp q_8
        have hend : G1 2 ≤ i := by omega
        exact tg_vret hx hb hlocks hr hQ ⟨rfl, rfl, rfl, a1, G1, N1, hs1, rfl, hFK, fun f => hg_hit_uniq (e := (fun u v => T u ∧ T v ∧ hg_hk N bc sp u v)) (h0 := fun g => T g ∧ (hg_hh N bc dr g ∨ hg_hd sp dr g)) (S := fun u => N1 8 u ≠ 0) (fun f z => hini f z.1 z.2) (fun f g z hg => by obtain ⟨j, h1, h2⟩ := f8 g hg; exact hcl j (by omega) h1 f z.1 (by rw [h2]; exact z.2.2)) hsn f⟩ dS_findHit_77
      · have q_8' := q_8
        have h_10 : i < G1 2 := Nat.lt_of_not_le fun z => q_8 ((nI_leI (by omega) (by omega)).mpr z)
        have hi := f7 i (by omega)
        refine tg_aload_n hx hb dS_findHit_61 rfl rfl ?_
        refine tg_aload_n hx hb dS_findHit_62 rfl rfl ?_
        refine tg_get (T := TS) (N := 9) hx hb hts inS hown hK (hO.1 3 (by decide)) rfl rfl 2 (by decide) (hts _ wf_S_17) (fun _ z => z) rfl dS_findHit_63 ?_
        refine tg_iload_n hx hb dS_findHit_66 rfl rfl ?_
        refine tg_aald (t0 := 1) hx hb hK (hO.1 5 (by decide)) rfl rfl (x := i) (by decide) (by omega) dS_findHit_67 ?_
        refine tg_st (st' := .ref (ad 8 (hs1 i)) :: [.ref (ad 3 0)]) (by rw [hi.2.2]; rfl) ?_
        refine tg_callV (C := "HangGraph$Sweep") (As := [.ref (ad 8 (hs1 i))]) (rest := []) ⟨hx, hb, hml, hown, hts⟩ hK hN hMv (hO.1 3 (by decide)) rfl rfl rfl (c_hitAll hO hT hMv hB1 hBG1 lv hs1 hFK.1 (hs1 i) hi.1) (cwV 1 hts (lg_V wm_S_59 wi_S_hitAllThatHangOn we_S_hitAllThatHangOn wn_S wc_S_hitAllThatHangOn) rfl rfl rfl ⟨rfl, by decide, by decide, rfl⟩ ⟨by rw [hR]; exact Nat.le_of_ble_eq_true rfl, by rw [hR]; exact Nat.le_of_ble_eq_true rfl⟩) rfl (Nat.le_of_ble_eq_true rfl) ⟨by rw [hR]; exact Nat.le_of_ble_eq_true rfl, by rw [hR]; exact Nat.le_of_ble_eq_true rfl⟩ rfl dS_findHit_68 (tg_kk rfl rfl ?_)
        intro r w1 ⟨hr2, a2, G2_, N2, hs2, hw2, hFK2, hcl2, hsn2⟩
        rw [hr2, hw2]
        refine tg_st (st' := []) rfl ?_
        refine tg_iinc (v := nI (i + 1)) (L' := [(0, .ref (ad 3 0)), (1, .ref (ad 2 0)), (2, .int (nI (i + 1)))]) hx hb dS_findHit_71 rfl (nI_1 _) (by decide) rfl rfl ?_
        refine tg_goto (tgt := 46) hx hb dS_findHit_74 (by decide) ?_
        exact ih (i + 1, G2_, a2, N2, hs2) ⟨hFK.trans hFK2, fun u hu z => hFK2.2.2.2.2.2.2.2.2 u (hini u hu z), ⟨by dsimp only; omega, fun j hj hj2 u hu z => by
          dsimp only at hj hj2 z ⊢
          rcases Nat.lt_succ_iff_lt_or_eq.mp hj with q | q
          · have hj3 : j < G1 2 := by omega
            rw [hFK2.2.2.2.2.2.2.2.1 j hj3] at z
            exact hFK2.2.2.2.2.2.2.2.2 u (hcl j q hj3 u hu z)
          · rw [q, hFK2.2.2.2.2.2.2.2.1 i (by omega)] at z
            exact hcl2 u hu ((hg_hkE (hN1 1 (by decide)) (hN1 3 (by decide))).mpr z)⟩, fun u hu => by
          rcases hsn2 u hu with q | ⟨q1, q2⟩
          · exact hsn u q
          · obtain ⟨g, r1, r2⟩ := hsn (hs1 i) hi.2.1
            exact ⟨g, hg_R_step ⟨q1, hi.1, (hg_hkE (hN1 1 (by decide)) (hN1 3 (by decide))).mp q2⟩ r1, r2⟩⟩ (by dsimp only; omega)
  · have q_2' := q_2
    have h_11 : i < G1 1 := Nat.lt_of_not_le fun z => q_2 ((nI_leI (by omega) (by omega)).mpr z)
    have hi := f4 i (by omega)
    have hhh : hg_hh N1 bc dr (lv i) ↔ hg_hh N bc dr (lv i) := hg_hhE (hN1 1 (by decide)) (hN1 3 (by decide))
    have hz8 : N1 8 (lv i) = 0 := Decidable.byContradiction fun z => by obtain ⟨-, k, q1, q2⟩ := hsn _ z; have := f6 k i q1 (by omega); omega
    refine tg_aload_n hx hb dS_findHit_10 rfl rfl ?_
    refine tg_get (T := TS) (N := 9) hx hb hts inS hown hK (hO.1 3 (by decide)) rfl rfl 0 (by decide) (hts _ wf_S_11) (fun _ z => z) rfl dS_findHit_11 ?_
    refine tg_iload_n hx hb dS_findHit_14 rfl rfl ?_
    refine tg_aald (t0 := 1) hx hb hK (hO.1 4 (by decide)) rfl rfl (x := i) (by decide) (by omega) dS_findHit_15 ?_
    refine tg_st (st' := .ref (ad 8 (lv i)) :: []) (by rw [hi.2]; rfl) ?_
    refine tg_astore_n (L' := [(0, .ref (ad 3 0)), (1, .ref (ad 2 0)), (2, .int (nI (i))), (3, .ref (ad 8 (lv i)))]) hx hb dS_findHit_16 rfl (by decide) rfl rfl ?_
    refine tg_aload_n hx hb dS_findHit_17 rfl rfl ?_
    refine tg_aload_n hx hb dS_findHit_18 rfl rfl ?_
    refine tg_callV (C := "HangGraph$Formula") (As := [.ref (ad 2 0)]) (rest := []) ⟨hx, hb, hml, hown, hts⟩ hK hN hMv (hT (lv i) hi.1).1 rfl rfl rfl (c_holdsOneOf hO hT (lv i) hi.1 (hNN _ hi.1).1 (hNN _ hi.1).2) (cwV 1 hts (lg_V wm_S_48 wi_F_holdsOneOf we_F_holdsOneOf wn_F wc_F_holdsOneOf) rfl rfl rfl ⟨rfl, by decide, by decide, rfl⟩ ⟨by rw [hR]; exact Nat.le_of_ble_eq_true rfl, by rw [hR]; exact Nat.le_of_ble_eq_true rfl⟩) rfl (Nat.le_of_ble_eq_true rfl) ⟨by rw [hR]; exact Nat.le_of_ble_eq_true rfl, by rw [hR]; exact Nat.le_of_ble_eq_true rfl⟩ rfl dS_findHit_19 (tg_kv rfl rfl ?_)
    have hb9 := hg_b_le (hg_hh N1 bc dr (lv i))
    refine tg_if_ne (tgt := 33) hx hb dS_findHit_22 (by decide) (fun q_12 => ?_) (fun q_12 => ?_)
    · have q_12' := q_12
      rw [← nI_0] at q_12
      have h_13 : hg_b (hg_hh N1 bc dr (lv i)) ≠ 0 := fun z => q_12 ((nI_eq (by omega) (by omega)).mpr z)
      refine tg_aload_n hx hb dS_findHit_33 rfl rfl ?_
      refine tg_aload_n hx hb dS_findHit_34 rfl rfl ?_
      have hA := hFK.add hi.1 hz8
      refine tg_callV (C := "HangGraph$Sweep") (As := [.ref (ad 8 (lv i))]) (rest := []) ⟨hx, hb, hml, hown, hts⟩ hK hN hMv (hO.1 3 (by decide)) rfl rfl rfl (c_addHit hO hT (lv i) hi.1 hA.1) (cwV 1 hts (lg_V wm_S_55 wi_S_addHit we_S_addHit wn_S wc_S_addHit) rfl rfl rfl ⟨rfl, by decide, by decide, rfl⟩ ⟨by rw [hR]; exact Nat.le_of_ble_eq_true rfl, by rw [hR]; exact Nat.le_of_ble_eq_true rfl⟩) rfl (Nat.le_of_ble_eq_true rfl) ⟨by rw [hR]; exact Nat.le_of_ble_eq_true rfl, by rw [hR]; exact Nat.le_of_ble_eq_true rfl⟩ rfl dS_findHit_35 (tg_kn rfl rfl ?_)
      refine tg_iinc (v := nI (i + 1)) (L' := [(0, .ref (ad 3 0)), (1, .ref (ad 2 0)), (2, .int (nI (i + 1))), (3, .ref (ad 8 (lv i)))]) hx hb dS_findHit_38 rfl (nI_1 _) (by decide) rfl rfl ?_
      refine tg_goto (tgt := 2) hx hb dS_findHit_41 (by decide) ?_
      refine tg_sub (L' := [(0, .ref (ad 3 0)), (1, .ref (ad 2 0)), (2, .int (nI (i + 1)))]) (fun q hq => (List.mem_append_left [(3, .ref (ad 8 (lv i)))] hq : q ∈ [(0, .ref (ad 3 0)), (1, .ref (ad 2 0)), (2, .int (nI (i + 1)))] ++ [(3, .ref (ad 8 (lv i)))])) ?_
      exact ih (i + 1, (va_up G1 2 (G1 2 + 1)), (va_up a1 2 (va_up (a1 2) (G1 2) (some (ad 8 (lv i))))), (tg_up N1 8 (lv i) 1), (va_up hs1 (G1 2) (lv i))) ⟨hA.2, by dsimp only; omega, by dsimp only; rw [hg_colA]; exact lt_s (fun k hk z => by unfold va_up; split; omega; exact hcl k hk z) (fun _ => by rw [va_up_self]; omega), by dsimp only; rw [hg_colA]; exact fun u hu => by by_cases z : u = lv i; exact ⟨by rw [z]; exact Or.inl (hhh.mp (hg_b1 h_13)), i, Nat.lt_succ_self i, z.symm⟩; rw [va_up_ne _ _ z] at hu; obtain ⟨q0, k, q1, q2⟩ := hsn u hu; exact ⟨q0, k, Nat.lt_succ_of_lt q1, q2⟩⟩ (by dsimp only; omega)
    · have q_12' := q_12
      rw [← nI_0] at q_12
      have h_14 : hg_b (hg_hh N1 bc dr (lv i)) = 0 := (nI_eq (by omega) (by omega)).mp q_12
      refine tg_aload_n hx hb dS_findHit_25 rfl rfl ?_
      refine tg_aload_n hx hb dS_findHit_26 rfl rfl ?_
      refine tg_callV (C := "HangGraph$Formula") (As := [.ref (ad 2 0)]) (rest := []) ⟨hx, hb, hml, hown, hts⟩ hK hN hMv (hT (lv i) hi.1).1 rfl rfl rfl (c_hangsOnOneOf hO hT (lv i) hi.1) (cwV 1 hts (lg_V wm_S_52 wi_F_hangsOnOneOf we_F_hangsOnOneOf wn_F wc_F_hangsOnOneOf) rfl rfl rfl ⟨rfl, by decide, by decide, rfl⟩ ⟨by rw [hR]; exact Nat.le_of_ble_eq_true rfl, by rw [hR]; exact Nat.le_of_ble_eq_true rfl⟩) rfl (Nat.le_of_ble_eq_true rfl) ⟨by rw [hR]; exact Nat.le_of_ble_eq_true rfl, by rw [hR]; exact Nat.le_of_ble_eq_true rfl⟩ rfl dS_findHit_27 (tg_kv rfl rfl ?_)
      have hb8 := hg_b_le (hg_hd sp dr (lv i))
      refine tg_if_eq (tgt := 38) hx hb dS_findHit_30 (by decide) (fun q_15 => ?_) (fun q_15 => ?_)
      · have q_15' := q_15
        rw [← nI_0] at q_15
        have h_16 : hg_b (hg_hd sp dr (lv i)) = 0 := (nI_eq (by omega) (by omega)).mp q_15
        refine tg_iinc (v := nI (i + 1)) (L' := [(0, .ref (ad 3 0)), (1, .ref (ad 2 0)), (2, .int (nI (i + 1))), (3, .ref (ad 8 (lv i)))]) hx hb dS_findHit_38 rfl (nI_1 _) (by decide) rfl rfl ?_
        refine tg_goto (tgt := 2) hx hb dS_findHit_41 (by decide) ?_
        refine tg_sub (L' := [(0, .ref (ad 3 0)), (1, .ref (ad 2 0)), (2, .int (nI (i + 1)))]) (fun q hq => (List.mem_append_left [(3, .ref (ad 8 (lv i)))] hq : q ∈ [(0, .ref (ad 3 0)), (1, .ref (ad 2 0)), (2, .int (nI (i + 1)))] ++ [(3, .ref (ad 8 (lv i)))])) ?_
        exact ih (i + 1, G1, a1, N1, hs1) ⟨hFK, by dsimp only; omega, lt_s hcl (fun z => z.elim (fun z => absurd (hhh.mpr z) (hg_b0 h_14)) (fun z => absurd z (hg_b0 h_16))), fun u z => ⟨(hsn u z).1, by obtain ⟨k, q1, q2⟩ := (hsn u z).2; exact ⟨k, Nat.lt_succ_of_lt q1, q2⟩⟩⟩ (by dsimp only; omega)
      · have q_15' := q_15
        rw [← nI_0] at q_15
        have h_17 : hg_b (hg_hd sp dr (lv i)) ≠ 0 := fun z => q_15 ((nI_eq (by omega) (by omega)).mpr z)
        refine tg_aload_n hx hb dS_findHit_33 rfl rfl ?_
        refine tg_aload_n hx hb dS_findHit_34 rfl rfl ?_
        have hA := hFK.add hi.1 hz8
        refine tg_callV (C := "HangGraph$Sweep") (As := [.ref (ad 8 (lv i))]) (rest := []) ⟨hx, hb, hml, hown, hts⟩ hK hN hMv (hO.1 3 (by decide)) rfl rfl rfl (c_addHit hO hT (lv i) hi.1 hA.1) (cwV 1 hts (lg_V wm_S_55 wi_S_addHit we_S_addHit wn_S wc_S_addHit) rfl rfl rfl ⟨rfl, by decide, by decide, rfl⟩ ⟨by rw [hR]; exact Nat.le_of_ble_eq_true rfl, by rw [hR]; exact Nat.le_of_ble_eq_true rfl⟩) rfl (Nat.le_of_ble_eq_true rfl) ⟨by rw [hR]; exact Nat.le_of_ble_eq_true rfl, by rw [hR]; exact Nat.le_of_ble_eq_true rfl⟩ rfl dS_findHit_35 (tg_kn rfl rfl ?_)
        refine tg_iinc (v := nI (i + 1)) (L' := [(0, .ref (ad 3 0)), (1, .ref (ad 2 0)), (2, .int (nI (i + 1))), (3, .ref (ad 8 (lv i)))]) hx hb dS_findHit_38 rfl (nI_1 _) (by decide) rfl rfl ?_
        refine tg_goto (tgt := 2) hx hb dS_findHit_41 (by decide) ?_
        refine tg_sub (L' := [(0, .ref (ad 3 0)), (1, .ref (ad 2 0)), (2, .int (nI (i + 1)))]) (fun q hq => (List.mem_append_left [(3, .ref (ad 8 (lv i)))] hq : q ∈ [(0, .ref (ad 3 0)), (1, .ref (ad 2 0)), (2, .int (nI (i + 1)))] ++ [(3, .ref (ad 8 (lv i)))])) ?_
        exact ih (i + 1, (va_up G1 2 (G1 2 + 1)), (va_up a1 2 (va_up (a1 2) (G1 2) (some (ad 8 (lv i))))), (tg_up N1 8 (lv i) 1), (va_up hs1 (G1 2) (lv i))) ⟨hA.2, by dsimp only; omega, by dsimp only; rw [hg_colA]; exact lt_s (fun k hk z => by unfold va_up; split; omega; exact hcl k hk z) (fun _ => by rw [va_up_self]; omega), by dsimp only; rw [hg_colA]; exact fun u hu => by by_cases z : u = lv i; exact ⟨by rw [z]; exact Or.inr (hg_b1 h_17), i, Nat.lt_succ_self i, z.symm⟩; rw [va_up_ne _ _ z] at hu; obtain ⟨q0, k, q1, q2⟩ := hsn u hu; exact ⟨q0, k, Nat.lt_succ_of_lt q1, q2⟩⟩ (by dsimp only; omega)
end HGS5
end
section
/-! a sweep begins: the living are listed, what was found before is forgotten -/
section HGS6
variable {l : Launch} {D : va_G} {F : Nat → Prop} {Nn : State → Heap → Prop} {ad : Nat → Nat → Nat} {ok : Nat → Nat → Prop} {cF cI cZ cJ cA cB : ClassId} {G : Nat → Nat} {a : Nat → Nat → Option Nat} {dr : Nat → Int32} {N : Nat → Nat → Nat} {bc : Nat → Int32} {sp : Nat → Nat → Int32} {μ : Nat → Nat → va_E} {T : Nat → Prop}
def hg_BG (T : Nat → Prop) (ad : Nat → Nat → Nat) (a0 : Nat → Nat → Option Nat) (G0 : Nat → Nat) (N0 : Nat → Nat → Nat) (c : Nat) (G : Nat → Nat) (a : Nat → Nat → Option Nat) (N : Nat → Nat → Nat) (lv : Nat → Nat) : Prop :=
  (c ≤ 400 ∧ G 1 ≤ c) ∧ (G 0 = G0 0 ∧ G 2 = 0 ∧ G 3 = 0 ∧ G 4 = 0 ∧ G 5 = 0) ∧ (∀ j, j ≠ 1 → a j = a0 j) ∧ (∀ j, j < 8 → N j = N0 j) ∧ (∀ j u, 8 ≤ j → j < 15 → j ≠ 12 → (u < c ∨ ¬ T u) → N j u = 0) ∧ (∀ j u, N j u < 1000000) ∧ (∀ k, G k < 1000000) ∧ (∀ i, i < G 1 → T (lv i) ∧ lv i < c ∧ a 1 i = some (ad 8 (lv i))) ∧ (∀ u, T u → u < c → ∃ i, i < G 1 ∧ lv i = u) ∧ ∀ i j, i < j → j < G 1 → lv i < lv j
theorem hg_fg_lo {N : Nat → Nat → Nat} {f j : Nat} (h : j < 8) : hg_fg N f j = N j := by
  funext u
  unfold hg_fg
  simp only [tg_up]
  repeat rw [if_neg (by omega)]
theorem hg_fg_hi {N : Nat → Nat → Nat} {f j : Nat} (h : 8 ≤ j) (h2 : j < 15) : hg_fg N f j f = 0 := by
  have hj : j = 8 ∨ j = 9 ∨ j = 10 ∨ j = 11 ∨ j = 12 ∨ j = 13 ∨ j = 14 := by omega
  rcases hj with z | z | z | z | z | z | z <;> subst z <;> simp [hg_fg, tg_up]
theorem hg_fg_ne {N : Nat → Nat → Nat} {f j u : Nat} (h : u ≠ f) : hg_fg N f j u = N j u := by
  unfold hg_fg
  simp [tg_up, h]
theorem hg_BG.skip {T : Nat → Prop} {ad : Nat → Nat → Nat} {a0 a : Nat → Nat → Option Nat} {G0 G : Nat → Nat} {N0 N : Nat → Nat → Nat} {c : Nat} {lv : Nat → Nat} (h : hg_BG T ad a0 G0 N0 c G a N lv) (hc : c < 400) (hn : ¬ T c) : hg_BG T ad a0 G0 N0 (c + 1) G a N lv := by
  obtain ⟨b1, b2, b3, b4, b5, b6, b7, b8, b9, b10⟩ := h
  refine ⟨⟨by omega, by omega⟩, b2, b3, b4, fun j u h1 h2 h9 h3 => b5 j u h1 h2 h9 ?_, b6, b7, fun i hi => ⟨(b8 i hi).1, Nat.lt_succ_of_lt (b8 i hi).2.1, (b8 i hi).2.2⟩, fun u hu hlt => b9 u hu ?_, b10⟩
  · rcases h3 with z | z
    · by_cases q : u = c
      · exact Or.inr (by rw [q]; exact hn)
      · exact Or.inl (by omega)
    · exact Or.inr z
  · by_cases q : u = c
    · rw [q] at hu
      exact absurd hu hn
    · omega
theorem hg_BG.add {T : Nat → Prop} {ad : Nat → Nat → Nat} {a0 a : Nat → Nat → Option Nat} {G0 G : Nat → Nat} {N0 N : Nat → Nat → Nat} {c f : Nat} {lv : Nat → Nat} (h : hg_BG T ad a0 G0 N0 c G a N lv) (hc : c < 400) (hf : T f) (hfc : f = c) : hg_BG T ad a0 G0 N0 (c + 1) (va_up G 1 (G 1 + 1)) (va_up a 1 (va_up (a 1) (G 1) (some (ad 8 f)))) (hg_fg N f) (va_up lv (G 1) f) := by
  obtain ⟨b1, b2, b3, b4, b5, b6, b7, b8, b9, b10⟩ := h
  have g1 : va_up G 1 (G 1 + 1) 1 = G 1 + 1 := va_up_self ..
  have go : ∀ k, k ≠ 1 → va_up G 1 (G 1 + 1) k = G k := fun k hk => va_up_ne _ _ hk
  unfold hg_BG
  rw [g1, go 0 (by decide), go 2 (by decide), go 3 (by decide), go 4 (by decide), go 5 (by decide), va_up_self]
  refine ⟨⟨by omega, by omega⟩, b2, fun j hj => by rw [va_up_ne _ _ hj]; exact b3 j hj, fun j hj => by rw [hg_fg_lo hj]; exact b4 j hj, fun j u h1 h2 h9 h3 => ?_, fun j u => ?_, fun k => ?_, fun i hi => ?_, fun u hu hlt => ?_, fun i j hij hj => ?_⟩
  · by_cases q : u = f
    · rw [q]
      exact hg_fg_hi h1 h2
    · rw [hg_fg_ne q]
      exact b5 j u h1 h2 h9 (h3.elim (fun z => Or.inl (by omega)) Or.inr)
  · by_cases q : u = f
    · by_cases q2 : j < 8
      · rw [hg_fg_lo q2]
        exact b6 j u
      · by_cases q3 : j < 15
        · rw [q, hg_fg_hi (by omega) q3]
          omega
        · have : hg_fg N f j u = N j u := by
            unfold hg_fg
            simp only [tg_up]
            repeat rw [if_neg (by omega)]
          rw [this]
          exact b6 j u
    · rw [hg_fg_ne q]
      exact b6 j u
  · unfold va_up
    split
    · omega
    · exact b7 k
  · by_cases q : i = G 1
    · rw [q, va_up_self, va_up_self]
      exact ⟨hf, by omega, rfl⟩
    · rw [va_up_ne _ _ q, va_up_ne _ _ q]
      obtain ⟨c1, c2, c3⟩ := b8 i (by omega)
      exact ⟨c1, by omega, c3⟩
  · by_cases q : u = c
    · exact ⟨G 1, by omega, by rw [va_up_self, q]; exact hfc⟩
    · obtain ⟨i, h1, h2⟩ := b9 u hu (by omega)
      exact ⟨i, by omega, by rw [va_up_ne _ _ (by omega)]; exact h2⟩
  · by_cases q : j = G 1
    · rw [q, va_up_self, va_up_ne _ _ (by omega)]
      have := (b8 i (by omega)).2.1
      omega
    · rw [va_up_ne _ _ (by omega), va_up_ne _ _ q]
      exact b10 i j hij (by omega)
set_option maxRecDepth 100000 in
set_option maxHeartbeats 4000000 in
/-- a sweep begins -/
theorem c_begin (hO : hg_ok ok) (hT : ∀ f, T f → ok 8 f ∧ ok 9 f) (hMv : tg_Mv F Nn) (hB : ∀ j u, N j u < 1000000) (hBG : ∀ k, G k < 1000000) (hov : ∀ c, c < 400 → a 0 c = none ∨ ∃ f, T f ∧ a 0 c = some (ad 8 f)) (hself : ∀ f, T f → f < 400 ∧ a 0 f = some (ad 8 f) ∧ N 0 f = f) (hz : ∀ u, ¬ T u → ∀ j, 8 ≤ j → j < 15 → j ≠ 12 → N j u = 0) : tg_Met l yS_begin wsS_begin ({ frames := 1, cells := 0, slots := 0, locals := 40 }) D vwCl (hg_tys cI cF cZ cJ cA cB) F Nn ad ok (hg_w ad cF cI G a dr N bc sp μ) [.ref (ad 3 0), .ref (ad 1 0)] (tg_po ad ok fun r w1 => r = none ∧ ∃ G' a' N' lv, w1 = hg_w ad cF cI G' a' dr N' bc sp μ ∧ hg_BG T ad a G N 400 G' a' N' lv) := by
  refine tg_start (cc := cS_begin) (maxL := 4) (ret := none) (by decide) rfl (Nat.le_of_ble_eq_true rfl) ?_
  intro p e R s m args below meth c Q hx hb hml hr hlocks hown hname hts hK hN hR hQ
  have hown : s.vm.findClass "HangGraph$Sweep" = some m.cls := hown
  have hts : ∀ w ∈ lw_g, w.before args s = true := fun w z => hts w (List.mem_cons_of_mem _ z)
  refine tg_inj fun hinj => ?_
  refine tg_aload_n hx hb dS_begin_0 rfl rfl ?_
  refine tg_iconst (v := nI 0) hx hb dS_begin_1 (by decide +kernel) ?_
  refine tg_put (T := TS) (N := 9) (ty := .int) hx hb hts inS tyS tyS_ok nmS hown hK (hO.1 3 (by decide)) rfl rfl 1 (by decide) (hts _ wf_S_26) (fun _ z => z) rfl (by decide +kernel) rfl rfl (Nat.le_of_ble_eq_true rfl) dS_begin_2 ?_
  refine tg_wp (hg_w_G1 hO 0) ?_
  refine tg_aload_n hx hb dS_begin_5 rfl rfl ?_
  refine tg_iconst (v := nI 0) hx hb dS_begin_6 (by decide +kernel) ?_
  refine tg_put (T := TS) (N := 9) (ty := .int) hx hb hts inS tyS tyS_ok nmS hown hK (hO.1 3 (by decide)) rfl rfl 3 (by decide) (hts _ wf_S_30) (fun _ z => z) rfl (by decide +kernel) rfl rfl (Nat.le_of_ble_eq_true rfl) dS_begin_7 ?_
  refine tg_wp (hg_w_G2 hO 0) ?_
  refine tg_aload_n hx hb dS_begin_10 rfl rfl ?_
  refine tg_iconst (v := nI 0) hx hb dS_begin_11 (by decide +kernel) ?_
  refine tg_put (T := TS) (N := 9) (ty := .int) hx hb hts inS tyS tyS_ok nmS hown hK (hO.1 3 (by decide)) rfl rfl 5 (by decide) (hts _ wf_S_33) (fun _ z => z) rfl (by decide +kernel) rfl rfl (Nat.le_of_ble_eq_true rfl) dS_begin_12 ?_
  refine tg_wp (hg_w_G3 hO 0) ?_
  refine tg_aload_n hx hb dS_begin_15 rfl rfl ?_
  refine tg_iconst (v := nI 0) hx hb dS_begin_16 (by decide +kernel) ?_
  refine tg_put (T := TS) (N := 9) (ty := .int) hx hb hts inS tyS tyS_ok nmS hown hK (hO.1 3 (by decide)) rfl rfl 7 (by decide) (hts _ wf_S_36) (fun _ z => z) rfl (by decide +kernel) rfl rfl (Nat.le_of_ble_eq_true rfl) dS_begin_17 ?_
  refine tg_wp (hg_w_G4 hO 0) ?_
  refine tg_aload_n hx hb dS_begin_20 rfl rfl ?_
  refine tg_iconst (v := nI 0) hx hb dS_begin_21 (by decide +kernel) ?_
  refine tg_put (T := TS) (N := 9) (ty := .int) hx hb hts inS tyS tyS_ok nmS hown hK (hO.1 3 (by decide)) rfl rfl 8 (by decide) (hts _ wf_S_39) (fun _ z => z) rfl (by decide +kernel) rfl rfl (Nat.le_of_ble_eq_true rfl) dS_begin_22 ?_
  refine tg_wp (hg_w_G5 hO 0) ?_
  refine tg_iconst (v := nI 0) hx hb dS_begin_25 (by decide +kernel) ?_
  refine tg_istore_n (L' := [(0, .ref (ad 3 0)), (1, .ref (ad 1 0)), (2, .int (nI (0)))]) hx hb dS_begin_26 rfl (by decide) rfl rfl ?_
  have hB0 : hg_BG T ad a G N 0 (va_up (va_up (va_up (va_up (va_up G 1 0) 2 0) 3 0) 4 0) 5 0) a N (fun _ => 0) := ⟨⟨Nat.zero_le _, by simp [va_up]⟩, ⟨by simp [va_up], by simp [va_up], by simp [va_up], by simp [va_up], by simp [va_up]⟩, fun _ _ => rfl, fun _ _ => rfl, fun j u h1 h2 h9 h3 => h3.elim (fun z => absurd z (Nat.not_lt_zero _)) (fun z => hz u z j h1 h2 h9), hB, fun k => by unfold va_up; (repeat' split) <;> first | omega | exact hBG k, fun i hi => by simp [va_up] at hi, fun u _ z => absurd z (Nat.not_lt_zero _), fun i j _ hj => by simp [va_up] at hj⟩
  refine tg_loop (fun x : Nat × (Nat → Nat) × (Nat → Nat → Option Nat) × (Nat → Nat → Nat) × (Nat → Nat) => hg_BG T ad a G N x.1 x.2.1 x.2.2.1 x.2.2.2.1 x.2.2.2.2) (fun x => 400 - x.1) (fun x => tg_W p l e R s m args below meth c Q 4 D vwCl F ad ok (hg_w ad cF cI x.2.1 x.2.2.1 dr x.2.2.2.1 bc sp μ) [(0, .ref (ad 3 0)), (1, .ref (ad 1 0)), (2, .int (nI (x.1)))] 0 0 27 []) ?_ (0, (va_up (va_up (va_up (va_up (va_up G 1 0) 2 0) 3 0) 4 0) 5 0), a, N, fun _ => 0) hB0
  intro ⟨i, G1, a1, N1, lv⟩ hI ih
  dsimp only at hI ih ⊢
  have hI' := hI
  obtain ⟨b1, b2, b3, b4, b5, b6, b7, b8, b9, b10⟩ := hI'
  refine tg_iload_n hx hb dS_begin_27 rfl rfl ?_
  refine tg_sipush (v := nI 400) hx hb dS_begin_28 (by decide +kernel) ?_
  refine tg_icmp_ge (tgt := 80) hx hb dS_begin_31 (by decide) (fun q_1 => ?_) (fun q_1 => ?_)
  · have q_1' := q_1
    have h_2 : 400 ≤ i := (nI_leI (by omega) (by omega)).mp q_1
    have ei : i = 400 := by omega
    subst ei
    exact tg_vret hx hb hlocks hr hQ ⟨rfl, rfl, rfl, G1, a1, N1, lv, rfl, hI⟩ dS_begin_80
  · have q_1' := q_1
    have h_3 : i < 400 := Nat.lt_of_not_le fun z => q_1 ((nI_leI (by omega) (by omega)).mpr z)
    refine tg_aload_n hx hb dS_begin_34 rfl rfl ?_
    refine tg_iload_n hx hb dS_begin_35 rfl rfl ?_
    refine tg_aald (t0 := 1) hx hb hK (hO.1 1 (by decide)) rfl rfl (x := i) (by decide) (by omega) dS_begin_36 ?_
    have h0a := b3 0 (by decide)
    rcases hov i (by omega) with ho1 | ⟨f, hfT, ho1⟩
    · refine tg_st (st' := [.null]) (by rw [h0a, ho1]; rfl) ?_
      refine tg_astore_nN (L' := [(0, .ref (ad 3 0)), (1, .ref (ad 1 0)), (2, .int (nI (i))), (3, .null)]) hx hb dS_begin_37 rfl (by decide) rfl rfl ?_
      refine tg_aload_nN hx hb dS_begin_38 rfl rfl ?_
      refine tg_ifnullN (tgt := 74) hx hb dS_begin_39 (by decide) ?_
      refine tg_iinc (v := nI (i + 1)) (L' := [(0, .ref (ad 3 0)), (1, .ref (ad 1 0)), (2, .int (nI (i + 1))), (3, .null)]) hx hb dS_begin_74 rfl (nI_1 _) (by decide) rfl rfl ?_
      refine tg_goto (tgt := 27) hx hb dS_begin_77 (by decide) ?_
      refine tg_sub (L' := [(0, .ref (ad 3 0)), (1, .ref (ad 1 0)), (2, .int (nI (i + 1)))]) (fun q hq => (List.mem_append_left [(3, .null)] hq : q ∈ [(0, .ref (ad 3 0)), (1, .ref (ad 1 0)), (2, .int (nI (i + 1)))] ++ [(3, .null)])) ?_
      exact ih (i + 1, G1, a1, N1, lv) (hI.skip (by omega) (fun z => by have q := (hself i z).2.1; rw [ho1] at q; cases q)) (by dsimp only; omega)
    · refine tg_st (st' := [.ref (ad 8 f)]) (by rw [h0a, ho1]; rfl) ?_
      refine tg_astore_n (L' := [(0, .ref (ad 3 0)), (1, .ref (ad 1 0)), (2, .int (nI (i))), (3, .ref (ad 8 f))]) hx hb dS_begin_37 rfl (by decide) rfl rfl ?_
      refine tg_aload_n hx hb dS_begin_38 rfl rfl ?_
      refine tg_ifnull hx hb dS_begin_39 ?_
      refine tg_aload_n hx hb dS_begin_42 rfl rfl ?_
      refine tg_get (T := TF) (N := 15) hx hb hts inF hown hK (hT f hfT).1 rfl rfl 0 (by decide) (hts _ wf_S_42) (fun _ z => z) rfl dS_begin_43 ?_
      have hb_4 := b6 0 f
      refine tg_iload_n hx hb dS_begin_46 rfl rfl ?_
      refine tg_icmp_ne (tgt := 74) hx hb dS_begin_47 (by decide) (fun q_5 => ?_) (fun q_5 => ?_)
      · have q_5' := q_5
        have h_6 : N1 0 f ≠ i := fun z => q_5 ((nI_eq (by omega) (by omega)).mpr z)
        refine tg_iinc (v := nI (i + 1)) (L' := [(0, .ref (ad 3 0)), (1, .ref (ad 1 0)), (2, .int (nI (i + 1))), (3, .ref (ad 8 f))]) hx hb dS_begin_74 rfl (nI_1 _) (by decide) rfl rfl ?_
        refine tg_goto (tgt := 27) hx hb dS_begin_77 (by decide) ?_
        refine tg_sub (L' := [(0, .ref (ad 3 0)), (1, .ref (ad 1 0)), (2, .int (nI (i + 1)))]) (fun q hq => (List.mem_append_left [(3, .ref (ad 8 f))] hq : q ∈ [(0, .ref (ad 3 0)), (1, .ref (ad 1 0)), (2, .int (nI (i + 1)))] ++ [(3, .ref (ad 8 f))])) ?_
        exact ih (i + 1, G1, a1, N1, lv) (hI.skip (by omega) (fun z => by have q := (hself i z).2.1; rw [ho1] at q; have q2 := (hinj 8 _ 8 _ (hT _ hfT).1 (hT _ z).1 (Option.some.inj q)).2; have q3 := (hself f hfT).2.2; rw [← b4 0 (by decide)] at q3; omega)) (by dsimp only; omega)
      · have q_5' := q_5
        have h_7 : N1 0 f = i := (nI_eq (by omega) (by omega)).mp q_5
        refine tg_aload_n hx hb dS_begin_50 rfl rfl ?_
        have hfc : f = i := by have q3 := (hself f hfT).2.2; rw [← b4 0 (by decide)] at q3; omega
        refine tg_callV (C := "HangGraph$Formula") (As := []) (rest := []) ⟨hx, hb, hml, hown, hts⟩ hK hN hMv (hT f hfT).1 rfl rfl rfl (c_forget hO hT f hfT) (cwV 0 hts (lg_V wm_S_45 wi_F_forget we_F_forget wn_F wc_F_forget) rfl rfl rfl ⟨rfl, by decide, by decide, rfl⟩ ⟨by rw [hR]; exact Nat.le_of_ble_eq_true rfl, by rw [hR]; exact Nat.le_of_ble_eq_true rfl⟩) rfl (Nat.le_of_ble_eq_true rfl) ⟨by rw [hR]; exact Nat.le_of_ble_eq_true rfl, by rw [hR]; exact Nat.le_of_ble_eq_true rfl⟩ rfl dS_begin_51 (tg_kn rfl rfl ?_)
        refine tg_aload_n hx hb dS_begin_54 rfl rfl ?_
        refine tg_get (T := TS) (N := 9) hx hb hts inS hown hK (hO.1 3 (by decide)) rfl rfl 0 (by decide) (hts _ wf_S_11) (fun _ z => z) rfl dS_begin_55 ?_
        refine tg_aload_n hx hb dS_begin_58 rfl rfl ?_
        refine tg_get (T := TS) (N := 9) hx hb hts inS hown hK (hO.1 3 (by decide)) rfl rfl 1 (by decide) (hts _ wf_S_26) (fun _ z => z) rfl dS_begin_59 ?_
        have hb_8 := b7 1
        refine tg_aload_n hx hb dS_begin_62 rfl rfl ?_
        refine tg_aast (t0 := 1) hx hb hK (hO.1 4 (by decide)) rfl rfl (hT f hfT).1 rfl rfl (x := G1 1) (by decide) (by omega) dS_begin_63 ?_
        refine tg_wp (hg_w_a1 hO (G1 1) (some (ad 8 f))) ?_
        refine tg_aload_n hx hb dS_begin_64 rfl rfl ?_
        refine tg_dup hx hb dS_begin_65 rfl ?_
        refine tg_get (T := TS) (N := 9) hx hb hts inS hown hK (hO.1 3 (by decide)) rfl rfl 1 (by decide) (hts _ wf_S_26) (fun _ z => z) rfl dS_begin_66 ?_
        have hb_9 := b7 1
        refine tg_iconst (v := nI 1) hx hb dS_begin_69 (by decide +kernel) ?_
        refine tg_iadd hx hb dS_begin_70 ?_
        refine tg_top (y := nI ((G1 1) + (1))) (nI_add _ _) ?_
        refine tg_put (T := TS) (N := 9) (ty := .int) hx hb hts inS tyS tyS_ok nmS hown hK (hO.1 3 (by decide)) rfl rfl 1 (by decide) (hts _ wf_S_26) (fun _ z => z) rfl (by decide +kernel) rfl rfl (Nat.le_of_ble_eq_true rfl) dS_begin_71 ?_
        refine tg_wp (hg_w_G1 hO ((G1 1) + (1))) ?_
        refine tg_iinc (v := nI (i + 1)) (L' := [(0, .ref (ad 3 0)), (1, .ref (ad 1 0)), (2, .int (nI (i + 1))), (3, .ref (ad 8 f))]) hx hb dS_begin_74 rfl (nI_1 _) (by decide) rfl rfl ?_
        refine tg_goto (tgt := 27) hx hb dS_begin_77 (by decide) ?_
        refine tg_sub (L' := [(0, .ref (ad 3 0)), (1, .ref (ad 1 0)), (2, .int (nI (i + 1)))]) (fun q hq => (List.mem_append_left [(3, .ref (ad 8 f))] hq : q ∈ [(0, .ref (ad 3 0)), (1, .ref (ad 1 0)), (2, .int (nI (i + 1)))] ++ [(3, .ref (ad 8 f))])) ?_
        exact ih (i + 1, va_up G1 1 (G1 1 + 1), va_up a1 1 (va_up (a1 1) (G1 1) (some (ad 8 f))), hg_fg N1 f, va_up lv (G1 1) f) (hI.add (by omega) hfT hfc) (by dsimp only; omega)
end HGS6
end
section
/-! what holds while the hit are ranked -/
theorem hg_col {α : Type} (N : Nat → Nat → α) (j u : Nat) (v : α) : (tg_up N j u v) j = va_up (N j) u v := by
  funext i
  simp [tg_up, va_up]
theorem hg_oth {α : Type} (N : Nat → Nat → α) {j k : Nat} (u : Nat) (v : α) (h : k ≠ j) : (tg_up N j u v) k = N k := by
  funext i
  simp [tg_up, h]
theorem hg_hk_eq {N N' : Nat → Nat → Nat} {bc : Nat → Int32} {sp : Nat → Nat → Int32} {f g : Nat} (h1 : N' 1 = N 1) (h3 : N' 3 = N 3) : hg_hk N' bc sp f g ↔ hg_hk N bc sp f g := by
  unfold hg_hk
  rw [h1, h3]
theorem hg_kf_le {e : Nat → Nat → Prop} {N : Nat} : ∀ t f, hg_kf e N t f ≤ t
  | 0, _ => Nat.le_refl 0
  | t + 1, f => by
    rw [hg_kf_s]
    have h1 := hg_mx_bd (e := e) (K := hg_kf e N t) (f := f) (b := t) N (fun g _ _ => hg_kf_le t g)
    by_cases z : hg_O e f
    · rw [hg_bK_f (fun q => q z)]
      exact Nat.zero_le _
    · rw [hg_bK_t z]
      omega
theorem hg_K_le {e : Nat → Nat → Prop} {N f : Nat} : hg_K e N f ≤ N + 1 := hg_kf_le (N + 1) f
/-- what stays: blocks, the list of the hit, who hangs on whom -/
def hg_SV (T : Nat → Prop) (ad : Nat → Nat → Nat) (a : Nat → Nat → Option Nat) (G : Nat → Nat) (N : Nat → Nat → Nat) (bc : Nat → Int32) (sp : Nat → Nat → Int32) (e : Nat → Nat → Prop) (hits : Nat → Nat) : Prop :=
  (∀ u, T u → N 1 u ≤ N 3 u ∧ N 3 u < 20) ∧ G 2 ≤ 400 ∧ (∀ i, i < G 2 → T (hits i) ∧ a 2 i = some (ad 8 (hits i))) ∧
  (∀ u v, e u v → (∃ i, i < G 2 ∧ hits i = u) ∧ ∃ i, i < G 2 ∧ hits i = v) ∧ (∀ i j, i < G 2 → j < G 2 → (e (hits i) (hits j) ↔ hg_hk N bc sp (hits i) (hits j))) ∧ ∀ u, T u → u < 400
/-- what changes: path, open, numbers; look: how far each has looked -/
def hg_DV (T : Nat → Prop) (ad : Nat → Nat → Nat) (a : Nat → Nat → Option Nat) (G : Nat → Nat) (N : Nat → Nat → Nat) (look : Nat → Nat) (e : Nat → Nat → Prop) (hits pa op : Nat → Nat) : Prop :=
  (G 3 ≤ 400 ∧ ∀ k, k < G 3 → T (pa k) ∧ a 3 k = some (ad 8 (pa k))) ∧ (G 4 ≤ 400 ∧ ∀ k, k < G 4 → T (op k) ∧ a 4 k = some (ad 8 (op k))) ∧
  hg_T e hits (G 2) (N 11) (N 12) look (fun u => N 14 u ≠ 0) pa (G 3) op (G 4) (G 5) ∧ hg_cn (fun u => N 11 u ≠ 0) 400 = G 5 ∧
  (∀ u, N 14 u ≠ 0 → (N 9 u ≠ 0 ↔ hg_O e u) ∧ N 10 u = hg_K e 400 u) ∧ (∀ u, N 14 u = 0 → N 9 u = 0 ∧ N 10 u = 0) ∧ ∀ u, look u ≤ G 2
theorem hg_T_17 {e : Nat → Nat → Prop} {hits : Nat → Nat} {hc : Nat} {num low look : Nat → Nat} {stl : Nat → Prop} {path : Nat → Nat} {pl : Nat} {opn : Nat → Nat} {oc last : Nat} (hT : hg_T e hits hc num low look stl path pl opn oc last) : ∀ u, num u ≠ 0 → ∃ i, i < hc ∧ hits i = u := by
  obtain ⟨t1, t2, t3, t4, t5, t6, t7, t8, t9, t10, t11, t12, t13, t14, t15, t16, t17, t18⟩ := hT
  exact t17
/-- what the walk keeps: what came before it in a, G, N -/
def hg_WK (T : Nat → Prop) (ad : Nat → Nat → Nat) (bc : Nat → Int32) (sp : Nat → Nat → Int32) (e : Nat → Nat → Prop) (hits : Nat → Nat) (a0 : Nat → Nat → Option Nat) (G0 : Nat → Nat) (N0 : Nat → Nat → Nat) (a : Nat → Nat → Option Nat) (G : Nat → Nat) (N : Nat → Nat → Nat) (pa op : Nat → Nat) : Prop :=
  hg_SV T ad a G N bc sp e hits ∧ hg_DV T ad a G N (N 13) e hits pa op ∧ (∀ j, j < 9 → N j = N0 j) ∧ (G 0 = G0 0 ∧ G 1 = G0 1 ∧ G 2 = G0 2) ∧ (a 0 = a0 0 ∧ a 1 = a0 1 ∧ a 2 = a0 2) ∧ (∀ j u, N j u < 1000000) ∧ (∀ k, G k < 1000000) ∧ (∀ u, N0 14 u ≠ 0 → N 14 u ≠ 0) ∧ G0 5 ≤ G 5
section HGI
variable {T : Nat → Prop} {ad : Nat → Nat → Nat} {a : Nat → Nat → Option Nat} {G : Nat → Nat} {N N' : Nat → Nat → Nat} {bc : Nat → Int32} {sp : Nat → Nat → Int32} {e : Nat → Nat → Prop} {hits pa op look : Nat → Nat}
theorem hg_SV.to (h : hg_SV T ad a G N bc sp e hits) {a' : Nat → Nat → Option Nat} {G' : Nat → Nat} (h1 : N' 1 = N 1) (h3 : N' 3 = N 3) (ha : a' 2 = a 2) (hG : G' 2 = G 2) : hg_SV T ad a' G' N' bc sp e hits := by
  obtain ⟨s1, s2, s3, s4, s5, s6⟩ := h
  unfold hg_SV
  rw [h1, h3, ha, hG]
  exact ⟨s1, s2, s3, s4, fun i j hi hj => (s5 i j hi hj).trans (hg_hk_eq h1 h3).symm, s6⟩
theorem hg_DV.last (h : hg_DV T ad a G N look e hits pa op) : G 5 ≤ 400 := by
  rw [← h.2.2.2.1]
  exact hg_cn_bd _ 400
theorem hg_DV.rank (h : hg_DV T ad a G N look e hits pa op) (u : Nat) : N 10 u < 1000 := by
  obtain ⟨-, -, -, -, h5, h6, -⟩ := h
  by_cases z : N 14 u = 0
  · rw [(h6 u z).2]
    omega
  · rw [(h5 u z).2]
    have := hg_K_le (e := e) (N := 400) (f := u)
    omega
theorem hg_DV.num (h : hg_DV T ad a G N look e hits pa op) (u : Nat) : N 11 u ≤ 400 := Nat.le_trans (h.2.2.1.2.1 u) h.last
theorem hg_DV.low (h : hg_DV T ad a G N look e hits pa op) {k : Nat} (hk : k < G 3) : N 12 (pa k) ≤ 400 := by
  have t6 := h.2.2.1.2.2.2.2.2.1 k hk
  have t10 := (h.2.2.1.2.2.2.2.2.2.2.2.2.1 (pa k) t6).1
  exact Nat.le_trans t10 (h.num _)
/-- the next one is settled, or no step goes there -/
theorem hg_DV.skip {v i : Nat} (h : hg_DV T ad a G N (va_up look v i) e hits pa op) (h0 : 0 < G 3) (hv : pa (G 3 - 1) = v) (hi : i < G 2) (hs : e v (hits i) → N 14 (hits i) ≠ 0) : hg_DV T ad a G N (va_up look v (i + 1)) e hits pa op := by
  obtain ⟨d1, d2, d3, d4, d5, d6, d7⟩ := h
  have t := hg_T_skip d3 h0 hv (va_up_self look v i) (fun _ z => hs z)
  rw [bx_uu] at t
  refine ⟨d1, d2, t, d4, d5, d6, fun u => ?_⟩
  by_cases z : u = v
  · rw [z, va_up_self]
    omega
  · rw [va_up_ne _ _ z]
    have := d7 u
    rw [va_up_ne _ _ z] at this
    exact this
theorem hg_DV.lower {v i : Nat} (h : hg_DV T ad a G N (va_up look v i) e hits pa op) (h0 : 0 < G 3) (hv : pa (G 3 - 1) = v) (hi : i < G 2) (he : e v (hits i)) (hn : N 11 (hits i) ≠ 0) (hs : N 14 (hits i) = 0) : hg_DV T ad a G (tg_up N 12 v (Nat.min (N 12 v) (N 11 (hits i)))) (va_up look v (i + 1)) e hits pa op := by
  obtain ⟨d1, d2, d3, d4, d5, d6, d7⟩ := h
  have t := hg_T_lower d3 h0 hv (va_up_self look v i) he hn (fun z => z hs)
  rw [bx_uu] at t
  unfold hg_DV
  rw [hg_col, hg_oth N (j := 12) (k := 11) _ _ (by decide), hg_oth N (j := 12) (k := 14) _ _ (by decide), hg_oth N (j := 12) (k := 9) _ _ (by decide), hg_oth N (j := 12) (k := 10) _ _ (by decide)]
  refine ⟨d1, d2, t, d4, d5, d6, fun u => ?_⟩
  by_cases z : u = v
  · rw [z, va_up_self]
    omega
  · rw [va_up_ne _ _ z]
    have := d7 u
    rw [va_up_ne _ _ z] at this
    exact this
/-- a field that the walk does not read -/
theorem hg_DV.col13 {v x : Nat} (h : hg_DV T ad a G N look e hits pa op) : hg_DV T ad a G (tg_up N 13 v x) look e hits pa op := by
  unfold hg_DV
  rw [hg_oth N (j := 13) (k := 12) _ _ (by decide), hg_oth N (j := 13) (k := 11) _ _ (by decide), hg_oth N (j := 13) (k := 14) _ _ (by decide), hg_oth N (j := 13) (k := 9) _ _ (by decide), hg_oth N (j := 13) (k := 10) _ _ (by decide)]
  exact h
/-- the walk comes to x, from the path's end or to begin with -/
theorem hg_DV.enter {v i x : Nat} {look' : Nat → Nat} (h : hg_DV T ad a G N look e hits pa op) (hx : N 11 x = 0) (hxT : T x) (hx4 : x < 400) (hxh : ∃ i, i < G 2 ∧ hits i = x) (hl : (G 3 = 0 ∧ look' = look) ∨ (0 < G 3 ∧ pa (G 3 - 1) = v ∧ look v = i ∧ hits i = x ∧ i < G 2 ∧ e v x ∧ look' = va_up look v (i + 1))) :
    G 3 < 400 ∧ G 4 < 400 ∧ hg_DV T ad (va_up (va_up a 3 (va_up (a 3) (G 3) (some (ad 8 x)))) 4 (va_up (a 4) (G 4) (some (ad 8 x)))) (va_up (va_up (va_up G 5 (G 5 + 1)) 3 (G 3 + 1)) 4 (G 4 + 1)) (tg_up (tg_up N 11 x (G 5 + 1)) 12 x (G 5 + 1)) look' e hits (va_up pa (G 3) x) (va_up op (G 4) x) := by
  have hlast : G 5 < 400 := by
    rw [← h.2.2.2.1]
    exact hg_cn_room (x := x) (fun z => z hx) hx4
  obtain ⟨d1, d2, d3, d4, d5, d6, d7⟩ := h
  have opn : ∀ u, hg_op (N 11) (fun u => N 14 u ≠ 0) u → 1 ≤ N 11 u ∧ N 11 u ≤ G 5 := fun u hu => ⟨Nat.pos_of_ne_zero hu.1, d3.2.1 u⟩
  have cnt : ∀ (f : Nat → Nat) (n : Nat), (∀ i j, i < j → j < n → N 11 (f i) < N 11 (f j)) → (∀ k, k < n → 1 ≤ N 11 (f k) ∧ N 11 (f k) ≤ G 5) → n ≤ G 5 := by
    intro f n hf hb
    have key : ∀ k, k < n → k + 1 ≤ N 11 (f k) := by
      intro k
      induction k with
      | zero => exact fun h0 => (hb 0 h0).1
      | succ k ih =>
        intro hk
        have h1 := ih (by omega)
        have h2 := hf k (k + 1) (by omega) hk
        omega
    by_cases z : n = 0
    · omega
    · have h1 := key (n - 1) (by omega)
      have h2 := (hb (n - 1) (by omega)).2
      omega
  have hp : G 3 ≤ G 5 := cnt pa (G 3) d3.2.2.2.2.2.2.1 (fun k hk => opn _ (d3.2.2.2.2.2.1 k hk))
  have ho : G 4 ≤ G 5 := cnt op (G 4) d3.2.2.2.2.1 (fun k hk => opn _ (d3.2.2.1 k hk))
  have t : hg_T e hits (G 2) (va_up (N 11) x (G 5 + 1)) (va_up (N 12) x (G 5 + 1)) look' (fun u => N 14 u ≠ 0) (va_up pa (G 3) x) (G 3 + 1) (va_up op (G 4) x) (G 4 + 1) (G 5 + 1) := by
    refine hg_T_enter d3 hx hxh (fun u hu => ?_) (fun u j hu hj hj2 he => ?_) (fun hpos => ?_)
    · rcases hl with ⟨z1, z2⟩ | ⟨z1, z2, z3, z4, z5, z6, z7⟩
      · rw [z2]
      · rw [z7, va_up_ne _ _ (fun q => hu ⟨G 3 - 1, by omega, by rw [z2]; exact q.symm⟩)]
    · rcases hl with ⟨z1, z2⟩ | ⟨z1, z2, z3, z4, z5, z6, z7⟩
      · rw [z2] at hj
        exact Or.inl (d3.2.2.2.2.2.2.2.2.2.2.2.1 u j hu hj hj2 he)
      · by_cases q : u = v
        · rw [z7, q, va_up_self] at hj
          by_cases q2 : j = i
          · exact Or.inr ⟨by rw [q2]; exact z4, z1, by rw [q]; exact z2.symm⟩
          · exact Or.inl (d3.2.2.2.2.2.2.2.2.2.2.2.1 u j hu (by rw [q, z3]; omega) hj2 he)
        · rw [z7, va_up_ne _ _ q] at hj
          exact Or.inl (d3.2.2.2.2.2.2.2.2.2.2.2.1 u j hu hj hj2 he)
    · rcases hl with ⟨z1, z2⟩ | ⟨z1, z2, z3, z4, z5, z6, z7⟩
      · omega
      · rw [z2]
        exact z6
  refine ⟨by omega, by omega, ?_⟩
  have g2 : va_up (va_up (va_up G 5 (G 5 + 1)) 3 (G 3 + 1)) 4 (G 4 + 1) 2 = G 2 := by simp [va_up]
  have g3 : va_up (va_up (va_up G 5 (G 5 + 1)) 3 (G 3 + 1)) 4 (G 4 + 1) 3 = G 3 + 1 := by simp [va_up]
  have g4 : va_up (va_up (va_up G 5 (G 5 + 1)) 3 (G 3 + 1)) 4 (G 4 + 1) 4 = G 4 + 1 := by simp [va_up]
  have g5 : va_up (va_up (va_up G 5 (G 5 + 1)) 3 (G 3 + 1)) 4 (G 4 + 1) 5 = G 5 + 1 := by simp [va_up]
  have a3 : va_up (va_up a 3 (va_up (a 3) (G 3) (some (ad 8 x)))) 4 (va_up (a 4) (G 4) (some (ad 8 x))) 3 = va_up (a 3) (G 3) (some (ad 8 x)) := by simp [va_up]
  have a4 : va_up (va_up a 3 (va_up (a 3) (G 3) (some (ad 8 x)))) 4 (va_up (a 4) (G 4) (some (ad 8 x))) 4 = va_up (a 4) (G 4) (some (ad 8 x)) := by simp [va_up]
  have c11 : (tg_up (tg_up N 11 x (G 5 + 1)) 12 x (G 5 + 1)) 11 = va_up (N 11) x (G 5 + 1) := by rw [hg_oth _ _ _ (by decide), hg_col]
  have c12 : (tg_up (tg_up N 11 x (G 5 + 1)) 12 x (G 5 + 1)) 12 = va_up (N 12) x (G 5 + 1) := by rw [hg_col, hg_oth _ _ _ (by decide)]
  have co : ∀ j, j ≠ 11 → j ≠ 12 → (tg_up (tg_up N 11 x (G 5 + 1)) 12 x (G 5 + 1)) j = N j := fun j h1 h2 => by rw [hg_oth _ _ _ h2, hg_oth _ _ _ h1]
  unfold hg_DV
  rw [g2, g3, g4, g5, a3, a4, c11, c12, co 14 (by decide) (by decide), co 9 (by decide) (by decide), co 10 (by decide) (by decide)]
  refine ⟨⟨by omega, fun k hk => ?_⟩, ⟨by omega, fun k hk => ?_⟩, t, ?_, d5, d6, fun u => ?_⟩
  · by_cases z : k = G 3
    · rw [z, va_up_self, va_up_self]
      exact ⟨hxT, rfl⟩
    · rw [va_up_ne _ _ z, va_up_ne _ _ z]
      exact d1.2 k (by omega)
  · by_cases z : k = G 4
    · rw [z, va_up_self, va_up_self]
      exact ⟨hxT, rfl⟩
    · rw [va_up_ne _ _ z, va_up_ne _ _ z]
      exact d2.2 k (by omega)
  · have e1 : hg_cn (fun u => va_up (N 11) x (G 5 + 1) u ≠ 0) 400 = hg_cn (fun u => (fun k => N 11 k ≠ 0) u ∨ u = x) 400 := hg_cn_congr 400 (fun k _ => by
      by_cases z : k = x
      · rw [z, va_up_self]
        exact ⟨fun _ => Or.inr rfl, fun _ => by omega⟩
      · rw [va_up_ne _ _ z]
        exact ⟨Or.inl, fun q => q.elim id fun q => absurd q z⟩)
    rw [e1, hg_cn_add (P := fun k => N 11 k ≠ 0) (fun z => z hx) 400, d4, hg_b_t hx4]
  · rcases hl with ⟨z1, z2⟩ | ⟨z1, z2, z3, z4, z5, z6, z7⟩
    · rw [z2]
      exact d7 u
    · by_cases q : u = v
      · rw [z7, q, va_up_self]
        omega
      · rw [z7, va_up_ne _ _ q]
        exact d7 u
/-- the walk goes back from v, whose group stays open -/
theorem hg_DV.leave {v : Nat} (h : hg_DV T ad a G N look e hits pa op) (h0 : 0 < G 3) (hv : pa (G 3 - 1) = v) (hlk : G 2 ≤ look v) (hne : N 12 v ≠ N 11 v) : 2 ≤ G 3 ∧ hg_DV T ad a (va_up G 3 (G 3 - 1)) (tg_up N 12 (pa (G 3 - 1 - 1)) (Nat.min (N 12 (pa (G 3 - 1 - 1))) (N 12 v))) look e hits pa op := by
  obtain ⟨d1, d2, d3, d4, d5, d6, d7⟩ := h
  have h2 := hg_T_up d3 h0 hv hne
  obtain ⟨q, hq⟩ : ∃ q, G 3 = q + 2 := ⟨G 3 - 2, by omega⟩
  have e1 : G 3 - 1 = q + 1 := by omega
  have e2 : G 3 - 1 - 1 = q := by omega
  rw [hq] at d3
  have hv' : pa (q + 1) = v := by rw [← e1]; exact hv
  have t := hg_T_leave d3 hv' rfl hlk hne
  refine ⟨h2, ?_⟩
  have g2 : va_up G 3 (G 3 - 1) 2 = G 2 := by simp [va_up]
  have g3 : va_up G 3 (G 3 - 1) 3 = q + 1 := by rw [va_up_self, e1]
  have g4 : va_up G 3 (G 3 - 1) 4 = G 4 := by simp [va_up]
  have g5 : va_up G 3 (G 3 - 1) 5 = G 5 := by simp [va_up]
  unfold hg_DV
  rw [g2, g3, g4, g5, e2, hg_col, hg_oth N (j := 12) (k := 11) _ _ (by decide), hg_oth N (j := 12) (k := 14) _ _ (by decide), hg_oth N (j := 12) (k := 9) _ _ (by decide), hg_oth N (j := 12) (k := 10) _ _ (by decide)]
  exact ⟨⟨by omega, fun k hk => d1.2 k (by omega)⟩, d2, t, d4, d5, d6, d7⟩
/-- .. and where its group is closed: the lowest number above stays -/
theorem hg_DV.same {v : Nat} (h : hg_DV T ad a G N look e hits pa op) (h0 : 1 < G 3) (hv : pa (G 3 - 1) = v) (heq : N 12 v = N 11 v) : Nat.min (N 12 (pa (G 3 - 1 - 1))) (N 12 v) = N 12 (pa (G 3 - 1 - 1)) := by
  have t6 := h.2.2.1.2.2.2.2.2.1
  have t7 := h.2.2.1.2.2.2.2.2.2.1
  have t10 := h.2.2.1.2.2.2.2.2.2.2.2.2.1
  have h1 := (t10 _ (t6 (G 3 - 1 - 1) (by omega))).1
  have h2 := t7 (G 3 - 1 - 1) (G 3 - 1) (by omega) (by omega)
  rw [hv] at h2
  exact Nat.min_eq_left (by omega)
theorem hg_up_same {G : Nat → Nat} {k x : Nat} (h : x = G k) : va_up G k x = G := by
  funext a
  unfold va_up
  by_cases z : a = k
  · rw [if_pos z, z]
    exact h
  · rw [if_neg z]
theorem hg_tg_same {N : Nat → Nat → Nat} {j u x : Nat} (h : x = N j u) : tg_up N j u x = N := by
  funext a b
  unfold tg_up
  by_cases z : a = j ∧ b = u
  · rw [if_pos z, z.1, z.2]
    exact h
  · rw [if_neg z]
/-- the group of v closed: who it was -/
theorem hg_DV.group {v : Nat} (h : hg_DV T ad a G N look e hits pa op) (h0 : 0 < G 3) (hv : pa (G 3 - 1) = v) : hg_op (N 11) (fun u => N 14 u ≠ 0) v ∧ ∃ k, k < G 4 ∧ op k = v := by
  have t4 := h.2.2.1.2.2.2.1
  have t6 := h.2.2.1.2.2.2.2.2.1
  have hop := t6 (G 3 - 1) (by omega)
  rw [hv] at hop
  exact ⟨hop, t4 v hop⟩
/-- v alone, with no step to itself -/
theorem hg_DV.alone {v : Nat} (hS : hg_SV T ad a G N bc sp e hits) (h : hg_DV T ad a G N look e hits pa op) (h0 : 0 < G 3) (hv : pa (G 3 - 1) = v) (hlk : G 2 ≤ look v) (heq : N 12 v = N 11 v) (ho : 0 < G 4) (hal : op (G 4 - 1) = v) (hno : ¬ e v v) :
    hg_DV T ad a (va_up (va_up G 3 (G 3 - 1)) 4 (G 4 - 1)) (tg_up (tg_up N 10 v (1 + hg_mx e (N 10) v 400)) 14 v 1) look e hits pa op := by
  obtain ⟨hop, -⟩ := h.group h0 hv
  obtain ⟨d1, d2, d3, d4, d5, d6, d7⟩ := h
  have hee : ∀ x y, e x y → ∃ i, i < G 2 ∧ hits i = y := fun x y z => (hS.2.2.2.1 x y z).2
  have t4 := d3.2.2.2.1
  have t5 := d3.2.2.2.2.1
  have one : ∀ w, hg_G (N 11) (fun u => N 14 u ≠ 0) v w → w = v := fun w hw => by
    obtain ⟨k, hk1, hk2⟩ := t4 w hw.1
    by_cases z : k = G 4 - 1
    · rw [← hk2, z]
      exact hal
    · have h1 := t5 k (G 4 - 1) (by omega) (by omega)
      rw [hk2, hal] at h1
      have := hw.2
      omega
  obtain ⟨nO, allS⟩ := hg_T_alone d3 hee h0 hv hlk heq hno one
  have t := hg_T_close (stl' := fun u => N 14 u ≠ 0 ∨ u = v) (oc' := G 4 - 1) d3 hee h0 hv hlk heq (fun u => ⟨fun z => z.elim Or.inl fun z => Or.inr ⟨by rw [z]; exact hop, by rw [z]; exact Nat.le_refl _⟩, fun z => z.elim Or.inl fun z => Or.inr (one u z)⟩) (by omega) (fun k hk => by
    have h1 := t5 k (G 4 - 1) (by omega) (by omega)
    rw [hal] at h1
    exact h1) (fun k h1 h2 => by
    have : k = G 4 - 1 := by omega
    rw [this, hal]
    exact Nat.le_refl _)
  have g2 : va_up (va_up G 3 (G 3 - 1)) 4 (G 4 - 1) 2 = G 2 := by simp [va_up]
  have g3 : va_up (va_up G 3 (G 3 - 1)) 4 (G 4 - 1) 3 = G 3 - 1 := by simp [va_up]
  have g4 : va_up (va_up G 3 (G 3 - 1)) 4 (G 4 - 1) 4 = G 4 - 1 := by simp [va_up]
  have g5 : va_up (va_up G 3 (G 3 - 1)) 4 (G 4 - 1) 5 = G 5 := by simp [va_up]
  have c14 : (tg_up (tg_up N 10 v (1 + hg_mx e (N 10) v 400)) 14 v 1) 14 = va_up (N 14) v 1 := by rw [hg_col, hg_oth _ _ _ (by decide)]
  have c10 : (tg_up (tg_up N 10 v (1 + hg_mx e (N 10) v 400)) 14 v 1) 10 = va_up (N 10) v (1 + hg_mx e (N 10) v 400) := by rw [hg_oth _ _ _ (by decide), hg_col]
  have co : ∀ j, j ≠ 10 → j ≠ 14 → (tg_up (tg_up N 10 v (1 + hg_mx e (N 10) v 400)) 14 v 1) j = N j := fun j h1 h2 => by rw [hg_oth _ _ _ h2, hg_oth _ _ _ h1]
  have st : ∀ u, va_up (N 14) v 1 u ≠ 0 ↔ (N 14 u ≠ 0 ∨ u = v) := fun u => by
    by_cases z : u = v
    · rw [z, va_up_self]
      exact ⟨fun _ => Or.inr rfl, fun _ => by omega⟩
    · rw [va_up_ne _ _ z]
      exact ⟨Or.inl, fun q => q.elim id fun q => absurd q z⟩
  have v14 : N 14 v = 0 := Decidable.byContradiction fun z => hop.2 z
  unfold hg_DV
  rw [g2, g3, g4, g5, c14, c10, co 11 (by decide) (by decide), co 12 (by decide) (by decide), co 9 (by decide) (by decide)]
  refine ⟨⟨by omega, fun k hk => d1.2 k (by omega)⟩, ⟨by omega, fun k hk => d2.2 k (by omega)⟩, ?_, d4, fun u hu => ?_, fun u hu => ?_, d7⟩
  · have e1 : (fun u => va_up (N 14) v 1 u ≠ 0) = (fun u => N 14 u ≠ 0 ∨ u = v) := funext fun u => propext (st u)
    rw [e1]
    exact t
  · by_cases z : u = v
    · rw [z, va_up_self]
      refine ⟨⟨fun q => absurd (d6 v v14).1 q, fun q => absurd q nO⟩, ?_⟩
      have q9 : hg_mx e (N 10) v 400 = hg_mx e (hg_K e 400) v 400 := hg_mx_congr 400 fun g _ he => (d5 g (allS g he)).2
      rw [hg_K_n nO, q9]
    · rw [va_up_ne _ _ z] at hu ⊢
      exact d5 u hu
  · have z : u ≠ v := fun z => by
      rw [z, va_up_self] at hu
      omega
    rw [va_up_ne _ _ z] at hu ⊢
    exact d6 u hu
/-- what was opened from c on is closed, and round -/
noncomputable def hg_cl (N : Nat → Nat → Nat) (op : Nat → Nat) (c n : Nat) : Nat → Nat → Nat := fun j u => @ite Nat ((j = 9 ∨ j = 14) ∧ ∃ k, c ≤ k ∧ k < n ∧ op k = u) (Classical.propDecidable _) 1 (N j u)
theorem hg_cl_t {c n j u : Nat} (h : (j = 9 ∨ j = 14) ∧ ∃ k, c ≤ k ∧ k < n ∧ op k = u) : hg_cl N op c n j u = 1 := if_pos h
theorem hg_cl_f {c n j u : Nat} (h : ¬ ((j = 9 ∨ j = 14) ∧ ∃ k, c ≤ k ∧ k < n ∧ op k = u)) : hg_cl N op c n j u = N j u := if_neg h
theorem hg_cl_0 {n : Nat} : hg_cl N op n n = N := by
  funext j u
  refine hg_cl_f fun z => ?_
  obtain ⟨-, k, h1, h2, -⟩ := z
  omega
theorem hg_cl_s {c n : Nat} (h : c < n) : tg_up (tg_up (hg_cl N op (c + 1) n) 9 (op c) 1) 14 (op c) 1 = hg_cl N op c n := by
  funext j u
  by_cases z : (j = 9 ∨ j = 14) ∧ u = op c
  · rw [hg_cl_t ⟨z.1, c, Nat.le_refl _, h, z.2.symm⟩]
    rcases z.1 with q | q
    · rw [q, hg_oth _ _ _ (by decide), hg_col, z.2, va_up_self]
    · rw [q, hg_col, z.2, va_up_self]
  · have e1 : tg_up (tg_up (hg_cl N op (c + 1) n) 9 (op c) 1) 14 (op c) 1 j u = hg_cl N op (c + 1) n j u := by
      rw [tg_up_ne _ _ (fun q => z ⟨Or.inr q.1, q.2⟩), tg_up_ne _ _ (fun q => z ⟨Or.inl q.1, q.2⟩)]
    rw [e1]
    by_cases y : (j = 9 ∨ j = 14) ∧ ∃ k, c ≤ k ∧ k < n ∧ op k = u
    · obtain ⟨y1, k, y2, y3, y4⟩ := y
      have yc : c ≠ k := fun q => z ⟨y1, by rw [q]; exact y4.symm⟩
      rw [hg_cl_t ⟨y1, k, y2, y3, y4⟩, hg_cl_t ⟨y1, k, by omega, y3, y4⟩]
    · rw [hg_cl_f y, hg_cl_f (fun q => y ⟨q.1, by obtain ⟨-, k, q1, q2, q3⟩ := q; exact ⟨k, by omega, q2, q3⟩⟩)]
theorem hg_DV.round {v c : Nat} (hS : hg_SV T ad a G N bc sp e hits) (h : hg_DV T ad a G N look e hits pa op) (h0 : 0 < G 3) (hv : pa (G 3 - 1) = v) (hlk : G 2 ≤ look v) (heq : N 12 v = N 11 v) (hc : c ≤ G 4) (hhi : ∀ k, c ≤ k → k < G 4 → N 11 v ≤ N 11 (op k)) (hlo : c = 0 ∨ N 11 (op (c - 1)) < N 11 v) (hbig : e v v ∨ op (G 4 - 1) ≠ v) :
    hg_DV T ad a (va_up (va_up G 3 (G 3 - 1)) 4 c) (hg_cl N op c (G 4)) look e hits pa op := by
  obtain ⟨hop, kv, hkv1, hkv2⟩ := h.group h0 hv
  obtain ⟨d1, d2, d3, d4, d5, d6, d7⟩ := h
  have hee : ∀ x y, e x y → ∃ i, i < G 2 ∧ hits i = y := fun x y z => (hS.2.2.2.1 x y z).2
  have t3 := d3.2.2.1
  have t4 := d3.2.2.2.1
  have t5 := d3.2.2.2.2.1
  have lo : ∀ k, k < c → N 11 (op k) < N 11 v := fun k hk => by
    rcases hlo with z | z
    · omega
    · by_cases q : k = c - 1
      · rw [q]
        exact z
      · have := t5 k (c - 1) (by omega) (by omega)
        omega
  have inG : ∀ u, hg_G (N 11) (fun u => N 14 u ≠ 0) v u ↔ ∃ k, c ≤ k ∧ k < G 4 ∧ op k = u := fun u => by
    constructor
    · intro z
      obtain ⟨k, h1, h2⟩ := t4 u z.1
      refine ⟨k, ?_, h1, h2⟩
      by_cases q : c ≤ k
      · exact q
      · have := lo k (by omega)
        rw [h2] at this
        have := z.2
        omega
    · intro ⟨k, h1, h2, h3⟩
      rw [← h3]
      exact ⟨t3 k h2, hhi k h1 h2⟩
  have big : e v v ∨ ∃ w, hg_G (N 11) (fun u => N 14 u ≠ 0) v w ∧ w ≠ v := by
    rcases hbig with z | z
    · exact Or.inl z
    · refine Or.inr ⟨op (G 4 - 1), (inG _).2 ⟨G 4 - 1, ?_, by omega, rfl⟩, z⟩
      by_cases q : c ≤ G 4 - 1
      · exact q
      · have := lo kv (by omega)
        rw [hkv2] at this
        omega
  have rnd : ∀ u, hg_G (N 11) (fun u => N 14 u ≠ 0) v u → hg_O e u := fun u hu => hg_T_round d3 h0 hv heq big hu
  have c14 : ∀ u, hg_cl N op c (G 4) 14 u ≠ 0 ↔ (N 14 u ≠ 0 ∨ hg_G (N 11) (fun u => N 14 u ≠ 0) v u) := fun u => by
    by_cases z : ∃ k, c ≤ k ∧ k < G 4 ∧ op k = u
    · rw [hg_cl_t ⟨Or.inr rfl, z⟩]
      exact ⟨fun _ => Or.inr ((inG u).2 z), fun _ => by omega⟩
    · rw [hg_cl_f (fun q => z q.2)]
      exact ⟨Or.inl, fun q => q.elim id fun q => absurd ((inG u).1 q) z⟩
  have co : ∀ j, j ≠ 9 → j ≠ 14 → hg_cl N op c (G 4) j = N j := fun j h1 h2 => funext fun u => hg_cl_f (fun q => q.1.elim h1 h2)
  have t := hg_T_close (stl' := fun u => hg_cl N op c (G 4) 14 u ≠ 0) (oc' := c) d3 hee h0 hv hlk heq c14 hc lo hhi
  have g2 : va_up (va_up G 3 (G 3 - 1)) 4 c 2 = G 2 := by simp [va_up]
  have g3 : va_up (va_up G 3 (G 3 - 1)) 4 c 3 = G 3 - 1 := by simp [va_up]
  have g4 : va_up (va_up G 3 (G 3 - 1)) 4 c 4 = c := by simp [va_up]
  have g5 : va_up (va_up G 3 (G 3 - 1)) 4 c 5 = G 5 := by simp [va_up]
  unfold hg_DV
  rw [g2, g3, g4, g5, co 11 (by decide) (by decide), co 12 (by decide) (by decide), co 10 (by decide) (by decide)]
  refine ⟨⟨by omega, fun k hk => d1.2 k (by omega)⟩, ⟨by omega, fun k hk => d2.2 k (by omega)⟩, t, d4, fun u hu => ?_, fun u hu => ?_, d7⟩
  · by_cases z : ∃ k, c ≤ k ∧ k < G 4 ∧ op k = u
    · have hG := (inG u).2 z
      have u14 : N 14 u = 0 := Decidable.byContradiction fun q => hG.1.2 q
      rw [hg_cl_t ⟨Or.inl rfl, z⟩]
      refine ⟨⟨fun _ => rnd u hG, fun _ => by omega⟩, ?_⟩
      rw [(d6 u u14).2, hg_K_O (rnd u hG)]
    · rw [hg_cl_f (fun q => z q.2)] at hu
      rw [hg_cl_f (fun q => z q.2)]
      exact d5 u hu
  · have z : ¬ ∃ k, c ≤ k ∧ k < G 4 ∧ op k = u := fun z => by
      rw [hg_cl_t ⟨Or.inr rfl, z⟩] at hu
      omega
    rw [hg_cl_f (fun q => z q.2)] at hu
    rw [hg_cl_f (fun q => z q.2)]
    exact d6 u hu
/-- nothing is on the path: who was come to is settled, who isn't was not come to -/
theorem hg_DV.none (h : hg_DV T ad a G N look e hits pa op) (h0 : G 3 = 0) (u : Nat) : N 11 u ≠ 0 ↔ N 14 u ≠ 0 := by
  obtain ⟨-, -, d3, -⟩ := h
  obtain ⟨t1, t2, t3, t4, t5, t6, t7, t8, t9, t10, t11, t12, t13, t14, t15, t16, t17, t18⟩ := d3
  refine ⟨fun z => Decidable.byContradiction fun q => ?_, t1 u⟩
  obtain ⟨k, h1, -⟩ := t4 u ⟨z, fun y => q y⟩
  have := t16 h0
  omega
end HGI
end
section
/-! the walk's steps -/
section HGS3
variable {l : Launch} {D : va_G} {F : Nat → Prop} {Nn : State → Heap → Prop} {ad : Nat → Nat → Nat} {ok : Nat → Nat → Prop} {cF cI cZ cJ cA cB : ClassId} {G : Nat → Nat} {a : Nat → Nat → Option Nat} {dr : Nat → Int32} {N : Nat → Nat → Nat} {bc : Nat → Int32} {sp : Nat → Nat → Int32} {μ : Nat → Nat → va_E} {T : Nat → Prop}
set_option maxRecDepth 100000 in
set_option maxHeartbeats 4000000 in
/-- the next one below v -/
theorem c_nextBelow (hO : hg_ok ok) (hT : ∀ f, T f → ok 8 f ∧ ok 9 f) (hMv : tg_Mv F Nn) (hB : ∀ j u, N j u < 1000000) (hBG : ∀ k, G k < 1000000) (hits pa op : Nat → Nat) (e9 : Nat → Nat → Prop) (hS : hg_SV T ad a G N bc sp e9 hits) (hD : hg_DV T ad a G N (N 13) e9 hits pa op) (h0 : 0 < G 3) (v : Nat) (hv : pa (G 3 - 1) = v) : tg_Met l yS_nextBelow wsS_nextBelow ({ frames := 1, cells := 0, slots := 0, locals := 40 }) D vwCl (hg_tys cI cF cZ cJ cA cB) F Nn ad ok (hg_w ad cF cI G a dr N bc sp μ) [.ref (ad 3 0), .ref (ad 8 v)] (tg_po ad ok fun r w1 => ∃ N', w1 = hg_w ad cF cI G a dr N' bc sp μ ∧ (∀ j, j ≠ 12 → j ≠ 13 → N' j = N j) ∧ (∀ j u, N' j u < 1000000) ∧ ((r = some .null ∧ hg_DV T ad a G N' (N' 13) e9 hits pa op ∧ G 2 ≤ N' 13 v) ∨ ∃ i, i < G 2 ∧ r = some (.ref (ad 8 (hits i))) ∧ N' 11 (hits i) = 0 ∧ e9 v (hits i) ∧ N' 13 = va_up (N 13) v (i + 1) ∧ hg_DV T ad a G N' (va_up (N 13) v i) e9 hits pa op)) := by
  refine tg_start (cc := cS_nextBelow) (maxL := 4) (ret := some (.object "HangGraph$Formula")) (by decide) rfl (Nat.le_of_ble_eq_true rfl) ?_
  intro p e R s m args below meth c Q hx hb hml hr hlocks hown hname hts hK hN hR hQ
  have hown : s.vm.findClass "HangGraph$Sweep" = some m.cls := hown
  have hts : ∀ w ∈ lw_g, w.before args s = true := fun w z => hts w (List.mem_cons_of_mem _ z)
  have hvT : T v := by rw [← hv]; exact (hD.1.2 _ (by omega)).1
  have hvh : ∃ iv, iv < G 2 ∧ hits iv = v := hg_T_17 hD.2.2.1 v (by rw [← hv]; exact (hD.2.2.1.2.2.2.2.2.1 _ (by omega)).1)
  have hG2 := hS.2.1
  have hG3 := hD.1.1
  have hG4 := hD.2.1.1
  refine tg_aload_n hx hb dS_nextBelow_0 rfl rfl ?_
  refine tg_get (T := TF) (N := 15) hx hb hts inF hown hK (hT v hvT).1 rfl rfl 13 (by decide) (hts _ wf_S_92) (fun _ z => z) rfl dS_nextBelow_1 ?_
  have hb_1 := hB 13 v
  refine tg_istore_n (L' := [(0, .ref (ad 3 0)), (1, .ref (ad 8 v)), (2, .int (nI (N 13 v)))]) hx hb dS_nextBelow_4 rfl (by decide) rfl rfl ?_
  have hst : va_up (N 13) v (N 13 v) = N 13 := by funext z; unfold va_up; by_cases q : z = v <;> simp [q]
  refine tg_loop (fun x : Nat × (Nat → Nat → Nat) => x.1 ≤ G 2 ∧ (∀ j, j ≠ 12 → x.2 j = N j) ∧ (∀ j u, x.2 j u < 1000000) ∧ hg_DV T ad a G x.2 (va_up (N 13) v x.1) e9 hits pa op) (fun x => G 2 - x.1) (fun x => tg_W p l e R s m args below meth c Q 4 D vwCl F ad ok (hg_w ad cF cI G a dr x.2 bc sp μ) [(0, .ref (ad 3 0)), (1, .ref (ad 8 v)), (2, .int (nI (x.1)))] 0 0 5 []) ?_ (N 13 v, N) ⟨hD.2.2.2.2.2.2 v, fun _ _ => rfl, hB, by dsimp only; rw [hst]; exact hD⟩
  intro ⟨i, N1⟩ ⟨hi0, hN1, hB1, hD1⟩ ih
  dsimp only at hi0 hN1 hB1 hD1 ih ⊢
  have hNN : ∀ u, T u → N1 1 u ≤ N1 3 u ∧ N1 3 u < 20 := by rw [hN1 1 (by decide), hN1 3 (by decide)]; exact hS.1
  refine tg_iload_n hx hb dS_nextBelow_5 rfl rfl ?_
  refine tg_aload_n hx hb dS_nextBelow_6 rfl rfl ?_
  refine tg_get (T := TS) (N := 9) hx hb hts inS hown hK (hO.1 3 (by decide)) rfl rfl 3 (by decide) (hts _ wf_S_30) (fun _ z => z) rfl dS_nextBelow_7 ?_
  have hb_2 := hBG 2
  refine tg_icmp_ge (tgt := 75) hx hb dS_nextBelow_10 (by decide) (fun q_3 => ?_) (fun q_3 => ?_)
  · have q_3' := q_3
    have h_4 : G 2 ≤ i := (nI_leI (by omega) (by omega)).mp q_3
    refine tg_aload_n hx hb dS_nextBelow_75 rfl rfl ?_
    refine tg_aload_n hx hb dS_nextBelow_76 rfl rfl ?_
    refine tg_get (T := TS) (N := 9) hx hb hts inS hown hK (hO.1 3 (by decide)) rfl rfl 3 (by decide) (hts _ wf_S_30) (fun _ z => z) rfl dS_nextBelow_77 ?_
    have hb_5 := hBG 2
    refine tg_put (T := TF) (N := 15) (ty := .int) hx hb hts inF tyF tyF_ok nmF hown hK (hT v hvT).1 rfl rfl 13 (by decide) (hts _ wf_S_92) (fun _ z => z) rfl (by decide +kernel) rfl rfl (Nat.le_of_ble_eq_true rfl) dS_nextBelow_80 ?_
    refine tg_w (hg_w_N13 v (G 2)) ?_
    refine tg_null hx hb dS_nextBelow_83 ?_
    have ei : i = G 2 := by omega
    subst ei
    exact tg_aret hx hb hlocks hr hQ (Or.inl rfl) ⟨rfl, rfl, tg_up N1 13 v (G 2), rfl, fun j h1 h2 => by rw [hg_oth _ _ _ h2]; exact hN1 j h1, fun j u => by unfold tg_up; split; exact hBG 2; exact hB1 j u, Or.inl ⟨rfl, by rw [hg_col, hN1 13 (by decide)]; exact hD1.col13, by rw [hg_col, va_up_self]; exact Nat.le_refl _⟩⟩ dS_nextBelow_84
  · have q_3' := q_3
    have h_6 : i < G 2 := Nat.lt_of_not_le fun z => q_3 ((nI_leI (by omega) (by omega)).mpr z)
    have hi := hS.2.2.1 i (by omega)
    obtain ⟨iv, hiv1, hiv2⟩ := hvh
    have he9 : e9 v (hits i) ↔ hg_hk N1 bc sp v (hits i) := by rw [← hiv2]; exact (hS.2.2.2.2.1 iv i hiv1 (by omega)).trans (hg_hk_eq (hN1 1 (by decide)) (hN1 3 (by decide))).symm
    refine tg_aload_n hx hb dS_nextBelow_13 rfl rfl ?_
    refine tg_get (T := TS) (N := 9) hx hb hts inS hown hK (hO.1 3 (by decide)) rfl rfl 2 (by decide) (hts _ wf_S_17) (fun _ z => z) rfl dS_nextBelow_14 ?_
    refine tg_iload_n hx hb dS_nextBelow_17 rfl rfl ?_
    refine tg_aald (t0 := 1) hx hb hK (hO.1 5 (by decide)) rfl rfl (x := i) (by decide) (by omega) dS_nextBelow_18 ?_
    refine tg_st (st' := .ref (ad 8 (hits i)) :: []) (by rw [hi.2]; rfl) ?_
    refine tg_astore_n (L' := [(0, .ref (ad 3 0)), (1, .ref (ad 8 v)), (2, .int (nI (i))), (3, .ref (ad 8 (hits i)))]) hx hb dS_nextBelow_19 rfl (by decide) rfl rfl ?_
    refine tg_aload_n hx hb dS_nextBelow_20 rfl rfl ?_
    refine tg_get (T := TF) (N := 15) hx hb hts inF hown hK (hT (hits i) hi.1).1 rfl rfl 14 (by decide) (hts _ wf_S_70) (fun _ z => z) rfl dS_nextBelow_21 ?_
    have hb_7 := hB1 14 (hits i)
    refine tg_if_ne (tgt := 69) hx hb dS_nextBelow_24 (by decide) (fun q_8 => ?_) (fun q_8 => ?_)
    · have q_8' := q_8
      rw [← nI_0] at q_8
      have h_9 : N1 14 (hits i) ≠ 0 := fun z => q_8 ((nI_eq (by omega) (by omega)).mpr z)
      refine tg_iinc (v := nI (i + 1)) (L' := [(0, .ref (ad 3 0)), (1, .ref (ad 8 v)), (2, .int (nI (i + 1))), (3, .ref (ad 8 (hits i)))]) hx hb dS_nextBelow_69 rfl (nI_1 _) (by decide) rfl rfl ?_
      refine tg_goto (tgt := 5) hx hb dS_nextBelow_72 (by decide) ?_
      refine tg_sub (L' := [(0, .ref (ad 3 0)), (1, .ref (ad 8 v)), (2, .int (nI (i + 1)))]) (fun q hq => (List.mem_append_left [(3, .ref (ad 8 (hits i)))] hq : q ∈ [(0, .ref (ad 3 0)), (1, .ref (ad 8 v)), (2, .int (nI (i + 1)))] ++ [(3, .ref (ad 8 (hits i)))])) ?_
      exact ih (i + 1, N1) ⟨by dsimp only; omega, hN1, hB1, hD1.skip h0 hv (by omega) (fun _ => h_9)⟩ (by dsimp only; omega)
    · have q_8' := q_8
      rw [← nI_0] at q_8
      have h_10 : N1 14 (hits i) = 0 := (nI_eq (by omega) (by omega)).mp q_8
      refine tg_aload_n hx hb dS_nextBelow_27 rfl rfl ?_
      refine tg_aload_n hx hb dS_nextBelow_28 rfl rfl ?_
      refine tg_callV (C := "HangGraph$Formula") (As := [.ref (ad 8 (hits i))]) (rest := []) ⟨hx, hb, hml, hown, hts⟩ hK hN hMv (hT v hvT).1 rfl rfl rfl (c_hangsOn hO hT v (hits i) hvT hi.1 (hNN _ hi.1).1 (hNN _ hi.1).2) (cwV 1 hts (lg_V wm_S_66 wi_F_hangsOn we_F_hangsOn wn_F wc_F_hangsOn) rfl rfl rfl ⟨rfl, by decide, by decide, rfl⟩ ⟨by rw [hR]; exact Nat.le_of_ble_eq_true rfl, by rw [hR]; exact Nat.le_of_ble_eq_true rfl⟩) rfl (Nat.le_of_ble_eq_true rfl) ⟨by rw [hR]; exact Nat.le_of_ble_eq_true rfl, by rw [hR]; exact Nat.le_of_ble_eq_true rfl⟩ rfl dS_nextBelow_29 (tg_kv rfl rfl ?_)
      have hb9 := hg_b_le (hg_hk N1 bc sp v (hits i))
      refine tg_if_ne (tgt := 38) hx hb dS_nextBelow_32 (by decide) (fun q_11 => ?_) (fun q_11 => ?_)
      · have q_11' := q_11
        rw [← nI_0] at q_11
        have h_12 : hg_b (hg_hk N1 bc sp v (hits i)) ≠ 0 := fun z => q_11 ((nI_eq (by omega) (by omega)).mpr z)
        refine tg_aload_n hx hb dS_nextBelow_38 rfl rfl ?_
        refine tg_get (T := TF) (N := 15) hx hb hts inF hown hK (hT (hits i) hi.1).1 rfl rfl 11 (by decide) (hts _ wf_S_86) (fun _ z => z) rfl dS_nextBelow_39 ?_
        have hb_13 := hB1 11 (hits i)
        refine tg_if_ne (tgt := 54) hx hb dS_nextBelow_42 (by decide) (fun q_14 => ?_) (fun q_14 => ?_)
        · have q_14' := q_14
          rw [← nI_0] at q_14
          have h_15 : N1 11 (hits i) ≠ 0 := fun z => q_14 ((nI_eq (by omega) (by omega)).mpr z)
          refine tg_aload_n hx hb dS_nextBelow_54 rfl rfl ?_
          refine tg_aload_n hx hb dS_nextBelow_55 rfl rfl ?_
          refine tg_get (T := TF) (N := 15) hx hb hts inF hown hK (hT v hvT).1 rfl rfl 12 (by decide) (hts _ wf_S_89) (fun _ z => z) rfl dS_nextBelow_56 ?_
          have hb_16 := hB1 12 v
          refine tg_aload_n hx hb dS_nextBelow_59 rfl rfl ?_
          refine tg_get (T := TF) (N := 15) hx hb hts inF hown hK (hT (hits i) hi.1).1 rfl rfl 11 (by decide) (hts _ wf_S_86) (fun _ z => z) rfl dS_nextBelow_60 ?_
          have hb_17 := hB1 11 (hits i)
          refine tg_mmin hx hb hml hown (hts _ wm_S_95) (hts _ wt_java_lang_Math_min) (hts _ wn_java_lang_Math) (hts _ wc_java_lang_Math_min) (by rw [hR]; exact Nat.le_of_ble_eq_true rfl) (by rw [hR]; exact Nat.le_of_ble_eq_true rfl) (Nat.zero_le _) (Nat.zero_le _) dS_nextBelow_63 ?_
          refine tg_top (y := nI (Nat.min (N1 12 v) (N1 11 (hits i)))) (hg_imin (by omega) (by omega)) ?_
          refine tg_put (T := TF) (N := 15) (ty := .int) hx hb hts inF tyF tyF_ok nmF hown hK (hT v hvT).1 rfl rfl 12 (by decide) (hts _ wf_S_89) (fun _ z => z) rfl (by decide +kernel) rfl rfl (Nat.le_of_ble_eq_true rfl) dS_nextBelow_66 ?_
          refine tg_w (hg_w_N12 v (Nat.min (N1 12 v) (N1 11 (hits i)))) ?_
          refine tg_iinc (v := nI (i + 1)) (L' := [(0, .ref (ad 3 0)), (1, .ref (ad 8 v)), (2, .int (nI (i + 1))), (3, .ref (ad 8 (hits i)))]) hx hb dS_nextBelow_69 rfl (nI_1 _) (by decide) rfl rfl ?_
          refine tg_goto (tgt := 5) hx hb dS_nextBelow_72 (by decide) ?_
          refine tg_sub (L' := [(0, .ref (ad 3 0)), (1, .ref (ad 8 v)), (2, .int (nI (i + 1)))]) (fun q hq => (List.mem_append_left [(3, .ref (ad 8 (hits i)))] hq : q ∈ [(0, .ref (ad 3 0)), (1, .ref (ad 8 v)), (2, .int (nI (i + 1)))] ++ [(3, .ref (ad 8 (hits i)))])) ?_
          exact ih (i + 1, (tg_up N1 12 v (Nat.min (N1 12 v) (N1 11 (hits i))))) ⟨by dsimp only; omega, (fun j hj => by dsimp only; rw [hg_oth _ _ _ hj]; exact hN1 j hj), (fun j u => by dsimp only; unfold tg_up; split; exact Nat.lt_of_le_of_lt (Nat.min_le_left _ _) (hB1 _ _); exact hB1 j u), hD1.lower h0 hv (by omega) (he9.mpr (hg_b1 h_12)) h_15 (by omega)⟩ (by dsimp only; omega)
        · have q_14' := q_14
          rw [← nI_0] at q_14
          have h_18 : N1 11 (hits i) = 0 := (nI_eq (by omega) (by omega)).mp q_14
          refine tg_aload_n hx hb dS_nextBelow_45 rfl rfl ?_
          refine tg_iload_n hx hb dS_nextBelow_46 rfl rfl ?_
          refine tg_iconst (v := nI 1) hx hb dS_nextBelow_47 (by decide +kernel) ?_
          refine tg_iadd hx hb dS_nextBelow_48 ?_
          refine tg_top (y := nI ((i) + (1))) (nI_add _ _) ?_
          refine tg_put (T := TF) (N := 15) (ty := .int) hx hb hts inF tyF tyF_ok nmF hown hK (hT v hvT).1 rfl rfl 13 (by decide) (hts _ wf_S_92) (fun _ z => z) rfl (by decide +kernel) rfl rfl (Nat.le_of_ble_eq_true rfl) dS_nextBelow_49 ?_
          refine tg_w (hg_w_N13 v ((i) + (1))) ?_
          refine tg_aload_n hx hb dS_nextBelow_52 rfl rfl ?_
          exact tg_aret hx hb hlocks hr hQ (Or.inr ⟨_, rfl⟩) ⟨rfl, rfl, tg_up N1 13 v (i + 1), rfl, fun j h1 h2 => by rw [hg_oth _ _ _ h2]; exact hN1 j h1, fun j u => by unfold tg_up; split; omega; exact hB1 j u, Or.inr ⟨i, by omega, rfl, by rw [hg_oth _ _ _ (by decide)]; exact h_18, he9.mpr (hg_b1 h_12), by rw [hg_col, hN1 13 (by decide)], hD1.col13⟩⟩ dS_nextBelow_53
      · have q_11' := q_11
        rw [← nI_0] at q_11
        have h_19 : hg_b (hg_hk N1 bc sp v (hits i)) = 0 := (nI_eq (by omega) (by omega)).mp q_11
        refine tg_goto (tgt := 69) hx hb dS_nextBelow_35 (by decide) ?_
        refine tg_iinc (v := nI (i + 1)) (L' := [(0, .ref (ad 3 0)), (1, .ref (ad 8 v)), (2, .int (nI (i + 1))), (3, .ref (ad 8 (hits i)))]) hx hb dS_nextBelow_69 rfl (nI_1 _) (by decide) rfl rfl ?_
        refine tg_goto (tgt := 5) hx hb dS_nextBelow_72 (by decide) ?_
        refine tg_sub (L' := [(0, .ref (ad 3 0)), (1, .ref (ad 8 v)), (2, .int (nI (i + 1)))]) (fun q hq => (List.mem_append_left [(3, .ref (ad 8 (hits i)))] hq : q ∈ [(0, .ref (ad 3 0)), (1, .ref (ad 8 v)), (2, .int (nI (i + 1)))] ++ [(3, .ref (ad 8 (hits i)))])) ?_
        exact ih (i + 1, N1) ⟨by dsimp only; omega, hN1, hB1, hD1.skip h0 hv (by omega) (fun z => absurd (he9.mp z) (hg_b0 h_19))⟩ (by dsimp only; omega)
set_option maxRecDepth 100000 in
set_option maxHeartbeats 4000000 in
/-- the group of v is closed -/
theorem c_closeGroup (hO : hg_ok ok) (hT : ∀ f, T f → ok 8 f ∧ ok 9 f) (hMv : tg_Mv F Nn) (hB : ∀ j u, N j u < 1000000) (hBG : ∀ k, G k < 1000000) (hits pa op : Nat → Nat) (e9 : Nat → Nat → Prop) (hS : hg_SV T ad a G N bc sp e9 hits) (hD : hg_DV T ad a G N (N 13) e9 hits pa op) (h0 : 0 < G 3) (v : Nat) (hv : pa (G 3 - 1) = v) (hlk : G 2 ≤ N 13 v) (heq : N 12 v = N 11 v) : tg_Met l yS_closeGroup wsS_closeGroup ({ frames := 2, cells := 0, slots := 0, locals := 90 }) D vwCl (hg_tys cI cF cZ cJ cA cB) F Nn ad ok (hg_w ad cF cI (va_up G 3 (G 3 - 1)) a dr N bc sp μ) [.ref (ad 3 0), .ref (ad 8 v)] (tg_po ad ok fun r w1 => r = none ∧ ∃ G' N', w1 = hg_w ad cF cI G' a dr N' bc sp μ ∧ (∀ j, j ≠ 9 → j ≠ 10 → j ≠ 12 → j ≠ 14 → N' j = N j) ∧ G' 0 = G 0 ∧ G' 1 = G 1 ∧ G' 2 = G 2 ∧ G' 3 = G 3 - 1 ∧ G' 5 = G 5 ∧ (∀ j u, N' j u < 1000000) ∧ (∀ k, G' k < 1000000) ∧ (∀ u, N 14 u ≠ 0 → N' 14 u ≠ 0) ∧ hg_DV T ad a G' N' (N' 13) e9 hits pa op) := by
  refine tg_start (cc := cS_closeGroup) (maxL := 3) (ret := none) (by decide) rfl (Nat.le_of_ble_eq_true rfl) ?_
  intro p e R s m args below meth c Q hx hb hml hr hlocks hown hname hts hK hN hR hQ
  have hown : s.vm.findClass "HangGraph$Sweep" = some m.cls := hown
  have hts : ∀ w ∈ lw_g, w.before args s = true := fun w z => hts w (List.mem_cons_of_mem _ z)
  have hvT : T v := by rw [← hv]; exact (hD.1.2 _ (by omega)).1
  have hvh : ∃ iv, iv < G 2 ∧ hits iv = v := hg_T_17 hD.2.2.1 v (by rw [← hv]; exact (hD.2.2.1.2.2.2.2.2.1 _ (by omega)).1)
  have hG2 := hS.2.1
  have hG3 := hD.1.1
  have hG4 := hD.2.1.1
  have hNN := hS.1
  have hgk : 0 < G 4 := by obtain ⟨k, h1, -⟩ := (hD.group h0 hv).2; omega
  refine tg_inj fun hinj => ?_
  have he9 : e9 v v ↔ hg_hk N bc sp v v := by obtain ⟨iv, h1, h2⟩ := hvh; rw [← h2]; exact hS.2.2.2.2.1 iv iv h1 h1
  refine tg_aload_n hx hb dS_closeGroup_0 rfl rfl ?_
  refine tg_get (T := TS) (N := 9) hx hb hts inS hown hK (hO.1 3 (by decide)) rfl rfl 7 (by decide) (hts _ wf_S_36) (fun _ z => z) rfl dS_closeGroup_1 ?_
  refine tg_top (y := nI (G 4)) (by simp [va_up]) ?_
  have hb_1 := hBG 4
  refine tg_if_le (tgt := 26) hx hb dS_closeGroup_4 (by decide) (fun q_2 => ?_) (fun q_2 => ?_)
  · have q_2' := q_2
    rw [← nI_0] at q_2
    have h_3 : G 4 ≤ 0 := (nI_leI (by omega) (by omega)).mp q_2
    exact absurd hgk (by omega)
  · have q_2' := q_2
    rw [← nI_0] at q_2
    have h_4 : 0 < G 4 := Nat.lt_of_not_le fun z => q_2 ((nI_leI (by omega) (by omega)).mpr z)
    have hoT := hD.2.1.2 (G 4 - 1) (by omega)
    refine tg_aload_n hx hb dS_closeGroup_7 rfl rfl ?_
    refine tg_get (T := TS) (N := 9) hx hb hts inS hown hK (hO.1 3 (by decide)) rfl rfl 6 (by decide) (hts _ wf_S_23) (fun _ z => z) rfl dS_closeGroup_8 ?_
    refine tg_aload_n hx hb dS_closeGroup_11 rfl rfl ?_
    refine tg_get (T := TS) (N := 9) hx hb hts inS hown hK (hO.1 3 (by decide)) rfl rfl 7 (by decide) (hts _ wf_S_36) (fun _ z => z) rfl dS_closeGroup_12 ?_
    refine tg_top (y := nI (G 4)) (by simp [va_up]) ?_
    have hb_5 := hBG 4
    refine tg_iconst (v := nI 1) hx hb dS_closeGroup_15 (by decide +kernel) ?_
    refine tg_isub hx hb dS_closeGroup_16 ?_
    refine tg_top (y := nI ((G 4) - (1))) (pk_sub (by omega)) ?_
    refine tg_aald (t0 := 1) hx hb hK (hO.1 7 (by decide)) rfl rfl (x := (G 4) - (1)) (by decide) (by omega) dS_closeGroup_17 ?_
    refine tg_st (st' := .ref (ad 8 (op (G 4 - 1))) :: []) (by rw [hoT.2]; rfl) ?_
    refine tg_aload_n hx hb dS_closeGroup_18 rfl rfl ?_
    refine tg_acmp_ne (rx := some (ad 8 (op (G 4 - 1)))) (ry := some (ad 8 (v))) (tgt := 26) hx hb dS_closeGroup_19 (by decide) (fun q_6 => ?_) (fun q_6 => ?_)
    · have q_6' := q_6
      have hnv : op (G 4 - 1) ≠ v := fun z => q_6 (by rw [z])
      refine tg_iconst (v := nI 0) hx hb dS_closeGroup_26 (by decide +kernel) ?_
      refine tg_istore_n (L' := [(0, .ref (ad 3 0)), (1, .ref (ad 8 v)), (2, .int (nI (0)))]) hx hb dS_closeGroup_27 rfl (by decide) rfl rfl ?_
      refine tg_iload_n hx hb dS_closeGroup_28 rfl rfl ?_
      refine tg_if_eq (tgt := 67) hx hb dS_closeGroup_29 (by decide) (fun q_7 => ?_) (fun q_7 => ?_)
      · have q_7' := q_7
        rw [← nI_0] at q_7
        have h_8 : 0 = 0 := (nI_eq (by omega) (by omega)).mp q_7
        have hbig : e9 v v ∨ op (G 4 - 1) ≠ v := Or.inr hnv
        refine tg_w (show (hg_w ad cF cI (va_up G 3 (G 3 - 1)) a dr N bc sp μ) = hg_w ad cF cI (va_up (va_up G 3 (G 3 - 1)) 4 (G 4)) a dr (hg_cl N op (G 4) (G 4)) bc sp μ from by rw [hg_cl_0, hg_up_same (show G 4 = va_up G 3 (G 3 - 1) 4 from (va_up_ne _ _ (by decide)).symm)]) ?_
        refine tg_loop (fun c9 : Nat => c9 ≤ G 4 ∧ ∀ k, c9 ≤ k → k < G 4 → N 11 v ≤ N 11 (op k)) (fun c9 => c9) (fun c9 => tg_W p l e R s m args below meth c Q 3 D vwCl F ad ok (hg_w ad cF cI (va_up (va_up G 3 (G 3 - 1)) 4 c9) a dr (hg_cl N op c9 (G 4)) bc sp μ) [(0, .ref (ad 3 0)), (1, .ref (ad 8 v)), (2, .int (nI (0)))] 0 0 67 []) ?_ (G 4) ⟨Nat.le_refl _, fun k h1 h2 => by omega⟩
        intro c9 ⟨hc9, hhi⟩ ih
        refine tg_aload_n hx hb dS_closeGroup_67 rfl rfl ?_
        refine tg_get (T := TS) (N := 9) hx hb hts inS hown hK (hO.1 3 (by decide)) rfl rfl 7 (by decide) (hts _ wf_S_36) (fun _ z => z) rfl dS_closeGroup_68 ?_
        refine tg_top (y := nI (c9)) (by simp [va_up]) ?_
        refine tg_if_le (tgt := 134) hx hb dS_closeGroup_71 (by decide) (fun q_9 => ?_) (fun q_9 => ?_)
        · have q_9' := q_9
          rw [← nI_0] at q_9
          have h_10 : c9 ≤ 0 := (nI_leI (by omega) (by omega)).mp q_9
          have hfin := hD.round (c := c9) hS h0 hv hlk heq hc9 hhi (Or.inl (by omega)) hbig
          exact tg_vret hx hb hlocks hr hQ ⟨rfl, rfl, rfl, _, _, rfl, fun j h1 _ _ h4 => funext fun u => hg_cl_f (fun q => q.1.elim h1 h4), rfl, rfl, rfl, rfl, rfl, fun j u => by unfold hg_cl; split; omega; exact hB j u, fun k => by unfold va_up; (repeat' split) <;> first | omega | exact hBG k, fun u z => by unfold hg_cl; split; omega; exact z, by rw [show hg_cl N op c9 (G 4) 13 = N 13 from funext fun u => hg_cl_f (fun q => q.1.elim (by decide) (by decide))]; exact hfin⟩ dS_closeGroup_134
        · have q_9' := q_9
          rw [← nI_0] at q_9
          have h_11 : 0 < c9 := Nat.lt_of_not_le fun z => q_9 ((nI_leI (by omega) (by omega)).mpr z)
          have hocT := hD.2.1.2 (c9 - 1) (by omega)
          refine tg_aload_n hx hb dS_closeGroup_74 rfl rfl ?_
          refine tg_get (T := TS) (N := 9) hx hb hts inS hown hK (hO.1 3 (by decide)) rfl rfl 6 (by decide) (hts _ wf_S_23) (fun _ z => z) rfl dS_closeGroup_75 ?_
          refine tg_aload_n hx hb dS_closeGroup_78 rfl rfl ?_
          refine tg_get (T := TS) (N := 9) hx hb hts inS hown hK (hO.1 3 (by decide)) rfl rfl 7 (by decide) (hts _ wf_S_36) (fun _ z => z) rfl dS_closeGroup_79 ?_
          refine tg_top (y := nI (c9)) (by simp [va_up]) ?_
          refine tg_iconst (v := nI 1) hx hb dS_closeGroup_82 (by decide +kernel) ?_
          refine tg_isub hx hb dS_closeGroup_83 ?_
          refine tg_top (y := nI ((c9) - (1))) (pk_sub (by omega)) ?_
          refine tg_aald (t0 := 1) hx hb hK (hO.1 7 (by decide)) rfl rfl (x := (c9) - (1)) (by decide) (by omega) dS_closeGroup_84 ?_
          refine tg_st (st' := .ref (ad 8 (op (c9 - 1))) :: []) (by rw [hocT.2]; rfl) ?_
          refine tg_get (T := TF) (N := 15) hx hb hts inF hown hK (hT (op (c9 - 1)) hocT.1).1 rfl rfl 11 (by decide) (hts _ wf_S_86) (fun _ z => z) rfl dS_closeGroup_85 ?_
          refine tg_top (y := nI (N 11 (op (c9 - 1)))) (congrArg nI (hg_cl_f (fun q => q.1.elim (by decide) (by decide)))) ?_
          have hb_85 := hB 11 (op (c9 - 1))
          refine tg_aload_n hx hb dS_closeGroup_88 rfl rfl ?_
          refine tg_get (T := TF) (N := 15) hx hb hts inF hown hK (hT v hvT).1 rfl rfl 11 (by decide) (hts _ wf_S_86) (fun _ z => z) rfl dS_closeGroup_89 ?_
          refine tg_top (y := nI (N 11 v)) (congrArg nI (hg_cl_f (fun q => q.1.elim (by decide) (by decide)))) ?_
          have hb_89 := hB 11 v
          refine tg_icmp_lt (tgt := 134) hx hb dS_closeGroup_92 (by decide) (fun q_12 => ?_) (fun q_12 => ?_)
          · have q_12' := q_12
            have h_13 : N 11 (op (c9 - 1)) < N 11 v := (nI_ltI (by omega) (by omega)).mp q_12
            have hfin := hD.round (c := c9) hS h0 hv hlk heq hc9 hhi (Or.inr h_13) hbig
            exact tg_vret hx hb hlocks hr hQ ⟨rfl, rfl, rfl, _, _, rfl, fun j h1 _ _ h4 => funext fun u => hg_cl_f (fun q => q.1.elim h1 h4), rfl, rfl, rfl, rfl, rfl, fun j u => by unfold hg_cl; split; omega; exact hB j u, fun k => by unfold va_up; (repeat' split) <;> first | omega | exact hBG k, fun u z => by unfold hg_cl; split; omega; exact z, by rw [show hg_cl N op c9 (G 4) 13 = N 13 from funext fun u => hg_cl_f (fun q => q.1.elim (by decide) (by decide))]; exact hfin⟩ dS_closeGroup_134
          · have q_12' := q_12
            have h_14 : N 11 v ≤ N 11 (op (c9 - 1)) := Nat.le_of_not_lt fun z => q_12 ((nI_ltI (by omega) (by omega)).mpr z)
            refine tg_aload_n hx hb dS_closeGroup_95 rfl rfl ?_
            refine tg_dup hx hb dS_closeGroup_96 rfl ?_
            refine tg_get (T := TS) (N := 9) hx hb hts inS hown hK (hO.1 3 (by decide)) rfl rfl 7 (by decide) (hts _ wf_S_36) (fun _ z => z) rfl dS_closeGroup_97 ?_
            refine tg_top (y := nI (c9)) (by simp [va_up]) ?_
            refine tg_iconst (v := nI 1) hx hb dS_closeGroup_100 (by decide +kernel) ?_
            refine tg_isub hx hb dS_closeGroup_101 ?_
            refine tg_top (y := nI ((c9) - (1))) (pk_sub (by omega)) ?_
            refine tg_put (T := TS) (N := 9) (ty := .int) hx hb hts inS tyS tyS_ok nmS hown hK (hO.1 3 (by decide)) rfl rfl 7 (by decide) (hts _ wf_S_36) (fun _ z => z) rfl (by decide +kernel) rfl rfl (Nat.le_of_ble_eq_true rfl) dS_closeGroup_102 ?_
            refine tg_wp (hg_w_G4 hO ((c9) - (1))) ?_
            refine tg_aload_n hx hb dS_closeGroup_105 rfl rfl ?_
            refine tg_get (T := TS) (N := 9) hx hb hts inS hown hK (hO.1 3 (by decide)) rfl rfl 6 (by decide) (hts _ wf_S_23) (fun _ z => z) rfl dS_closeGroup_106 ?_
            refine tg_aload_n hx hb dS_closeGroup_109 rfl rfl ?_
            refine tg_get (T := TS) (N := 9) hx hb hts inS hown hK (hO.1 3 (by decide)) rfl rfl 7 (by decide) (hts _ wf_S_36) (fun _ z => z) rfl dS_closeGroup_110 ?_
            refine tg_top (y := nI ((c9) - (1))) (by simp [va_up]) ?_
            refine tg_aald (t0 := 1) hx hb hK (hO.1 7 (by decide)) rfl rfl (x := (c9) - (1)) (by decide) (by omega) dS_closeGroup_113 ?_
            refine tg_st (st' := .ref (ad 8 (op (c9 - 1))) :: []) (by rw [hocT.2]; rfl) ?_
            refine tg_iconst (v := nI 1) hx hb dS_closeGroup_114 (by decide +kernel) ?_
            refine tg_put (T := TF) (N := 15) (ty := .boolean) hx hb hts inF tyF tyF_ok nmF hown hK (hT (op (c9 - 1)) hocT.1).1 rfl rfl 9 (by decide) (hts _ wf_S_111) (fun _ z => z) rfl (by decide +kernel) (by decide +kernel) (by decide +kernel) (Nat.le_of_ble_eq_true rfl) dS_closeGroup_115 ?_
            refine tg_w (hg_w_N9 (op (c9 - 1)) 1) ?_
            refine tg_aload_n hx hb dS_closeGroup_118 rfl rfl ?_
            refine tg_get (T := TS) (N := 9) hx hb hts inS hown hK (hO.1 3 (by decide)) rfl rfl 6 (by decide) (hts _ wf_S_23) (fun _ z => z) rfl dS_closeGroup_119 ?_
            refine tg_aload_n hx hb dS_closeGroup_122 rfl rfl ?_
            refine tg_get (T := TS) (N := 9) hx hb hts inS hown hK (hO.1 3 (by decide)) rfl rfl 7 (by decide) (hts _ wf_S_36) (fun _ z => z) rfl dS_closeGroup_123 ?_
            refine tg_top (y := nI ((c9) - (1))) (by simp [va_up]) ?_
            refine tg_aald (t0 := 1) hx hb hK (hO.1 7 (by decide)) rfl rfl (x := (c9) - (1)) (by decide) (by omega) dS_closeGroup_126 ?_
            refine tg_st (st' := .ref (ad 8 (op (c9 - 1))) :: []) (by rw [hocT.2]; rfl) ?_
            refine tg_iconst (v := nI 1) hx hb dS_closeGroup_127 (by decide +kernel) ?_
            refine tg_put (T := TF) (N := 15) (ty := .boolean) hx hb hts inF tyF tyF_ok nmF hown hK (hT (op (c9 - 1)) hocT.1).1 rfl rfl 14 (by decide) (hts _ wf_S_70) (fun _ z => z) rfl (by decide +kernel) (by decide +kernel) (by decide +kernel) (Nat.le_of_ble_eq_true rfl) dS_closeGroup_128 ?_
            refine tg_w (hg_w_N14 (op (c9 - 1)) 1) ?_
            refine tg_goto (tgt := 67) hx hb dS_closeGroup_131 (by decide) ?_
            refine tg_w (show (hg_w ad cF cI (va_up (va_up (va_up G 3 (G 3 - 1)) 4 c9) 4 ((c9) - (1))) a dr (tg_up (tg_up (hg_cl N op c9 (G 4)) 9 (op (c9 - 1)) 1) 14 (op (c9 - 1)) 1) bc sp μ) = (hg_w ad cF cI (va_up (va_up G 3 (G 3 - 1)) 4 (c9 - 1)) a dr (hg_cl N op (c9 - 1) (G 4)) bc sp μ) from by rw [bx_uu, ← hg_cl_s (c := c9 - 1) (by omega), show c9 - 1 + 1 = c9 by omega]) ?_
            exact ih (c9 - 1) ⟨by omega, fun k h1 h2 => by rcases Nat.lt_or_ge k c9 with z | z; rw [show k = c9 - 1 by omega]; exact h_14; exact hhi k z h2⟩ (by omega)
      · have q_7' := q_7
        rw [← nI_0] at q_7
        have h_15 : 0 ≠ 0 := fun z => q_7 ((nI_eq (by omega) (by omega)).mpr z)
        omega
    · have q_6' := q_6
      have hal : op (G 4 - 1) = v := (hinj 8 _ 8 _ (hT _ hoT.1).1 (hT _ hvT).1 (Option.some.inj q_6)).2
      refine tg_iconst (v := nI 1) hx hb dS_closeGroup_22 (by decide +kernel) ?_
      refine tg_goto (tgt := 27) hx hb dS_closeGroup_23 (by decide) ?_
      refine tg_istore_n (L' := [(0, .ref (ad 3 0)), (1, .ref (ad 8 v)), (2, .int (nI (1)))]) hx hb dS_closeGroup_27 rfl (by decide) rfl rfl ?_
      refine tg_iload_n hx hb dS_closeGroup_28 rfl rfl ?_
      refine tg_if_eq (tgt := 67) hx hb dS_closeGroup_29 (by decide) (fun q_16 => ?_) (fun q_16 => ?_)
      · have q_16' := q_16
        rw [← nI_0] at q_16
        have h_17 : 1 = 0 := (nI_eq (by omega) (by omega)).mp q_16
        omega
      · have q_16' := q_16
        rw [← nI_0] at q_16
        have h_18 : 1 ≠ 0 := fun z => q_16 ((nI_eq (by omega) (by omega)).mpr z)
        refine tg_aload_n hx hb dS_closeGroup_32 rfl rfl ?_
        refine tg_aload_n hx hb dS_closeGroup_33 rfl rfl ?_
        refine tg_callV (C := "HangGraph$Formula") (As := [.ref (ad 8 v)]) (rest := []) ⟨hx, hb, hml, hown, hts⟩ hK hN hMv (hT v hvT).1 rfl rfl rfl (c_hangsOn hO hT v v hvT hvT (hNN _ hvT).1 (hNN _ hvT).2) (cwV 1 hts (lg_V wm_S_66 wi_F_hangsOn we_F_hangsOn wn_F wc_F_hangsOn) rfl rfl rfl ⟨rfl, by decide, by decide, rfl⟩ ⟨by rw [hR]; exact Nat.le_of_ble_eq_true rfl, by rw [hR]; exact Nat.le_of_ble_eq_true rfl⟩) rfl (Nat.le_of_ble_eq_true rfl) ⟨by rw [hR]; exact Nat.le_of_ble_eq_true rfl, by rw [hR]; exact Nat.le_of_ble_eq_true rfl⟩ rfl dS_closeGroup_34 (tg_kv rfl rfl ?_)
        have hb9 := hg_b_le (hg_hk N bc sp v v)
        refine tg_if_ne (tgt := 67) hx hb dS_closeGroup_37 (by decide) (fun q_19 => ?_) (fun q_19 => ?_)
        · have q_19' := q_19
          rw [← nI_0] at q_19
          have h_20 : hg_b (hg_hk N bc sp v v) ≠ 0 := fun z => q_19 ((nI_eq (by omega) (by omega)).mpr z)
          have hbig : e9 v v ∨ op (G 4 - 1) ≠ v := Or.inl (he9.mpr (hg_b1 h_20))
          refine tg_w (show (hg_w ad cF cI (va_up G 3 (G 3 - 1)) a dr N bc sp μ) = hg_w ad cF cI (va_up (va_up G 3 (G 3 - 1)) 4 (G 4)) a dr (hg_cl N op (G 4) (G 4)) bc sp μ from by rw [hg_cl_0, hg_up_same (show G 4 = va_up G 3 (G 3 - 1) 4 from (va_up_ne _ _ (by decide)).symm)]) ?_
          refine tg_loop (fun c9 : Nat => c9 ≤ G 4 ∧ ∀ k, c9 ≤ k → k < G 4 → N 11 v ≤ N 11 (op k)) (fun c9 => c9) (fun c9 => tg_W p l e R s m args below meth c Q 3 D vwCl F ad ok (hg_w ad cF cI (va_up (va_up G 3 (G 3 - 1)) 4 c9) a dr (hg_cl N op c9 (G 4)) bc sp μ) [(0, .ref (ad 3 0)), (1, .ref (ad 8 v)), (2, .int (nI (1)))] 0 0 67 []) ?_ (G 4) ⟨Nat.le_refl _, fun k h1 h2 => by omega⟩
          intro c9 ⟨hc9, hhi⟩ ih
          refine tg_aload_n hx hb dS_closeGroup_67 rfl rfl ?_
          refine tg_get (T := TS) (N := 9) hx hb hts inS hown hK (hO.1 3 (by decide)) rfl rfl 7 (by decide) (hts _ wf_S_36) (fun _ z => z) rfl dS_closeGroup_68 ?_
          refine tg_top (y := nI (c9)) (by simp [va_up]) ?_
          refine tg_if_le (tgt := 134) hx hb dS_closeGroup_71 (by decide) (fun q_21 => ?_) (fun q_21 => ?_)
          · have q_21' := q_21
            rw [← nI_0] at q_21
            have h_22 : c9 ≤ 0 := (nI_leI (by omega) (by omega)).mp q_21
            have hfin := hD.round (c := c9) hS h0 hv hlk heq hc9 hhi (Or.inl (by omega)) hbig
            exact tg_vret hx hb hlocks hr hQ ⟨rfl, rfl, rfl, _, _, rfl, fun j h1 _ _ h4 => funext fun u => hg_cl_f (fun q => q.1.elim h1 h4), rfl, rfl, rfl, rfl, rfl, fun j u => by unfold hg_cl; split; omega; exact hB j u, fun k => by unfold va_up; (repeat' split) <;> first | omega | exact hBG k, fun u z => by unfold hg_cl; split; omega; exact z, by rw [show hg_cl N op c9 (G 4) 13 = N 13 from funext fun u => hg_cl_f (fun q => q.1.elim (by decide) (by decide))]; exact hfin⟩ dS_closeGroup_134
          · have q_21' := q_21
            rw [← nI_0] at q_21
            have h_23 : 0 < c9 := Nat.lt_of_not_le fun z => q_21 ((nI_leI (by omega) (by omega)).mpr z)
            have hocT := hD.2.1.2 (c9 - 1) (by omega)
            refine tg_aload_n hx hb dS_closeGroup_74 rfl rfl ?_
            refine tg_get (T := TS) (N := 9) hx hb hts inS hown hK (hO.1 3 (by decide)) rfl rfl 6 (by decide) (hts _ wf_S_23) (fun _ z => z) rfl dS_closeGroup_75 ?_
            refine tg_aload_n hx hb dS_closeGroup_78 rfl rfl ?_
            refine tg_get (T := TS) (N := 9) hx hb hts inS hown hK (hO.1 3 (by decide)) rfl rfl 7 (by decide) (hts _ wf_S_36) (fun _ z => z) rfl dS_closeGroup_79 ?_
            refine tg_top (y := nI (c9)) (by simp [va_up]) ?_
            refine tg_iconst (v := nI 1) hx hb dS_closeGroup_82 (by decide +kernel) ?_
            refine tg_isub hx hb dS_closeGroup_83 ?_
            refine tg_top (y := nI ((c9) - (1))) (pk_sub (by omega)) ?_
            refine tg_aald (t0 := 1) hx hb hK (hO.1 7 (by decide)) rfl rfl (x := (c9) - (1)) (by decide) (by omega) dS_closeGroup_84 ?_
            refine tg_st (st' := .ref (ad 8 (op (c9 - 1))) :: []) (by rw [hocT.2]; rfl) ?_
            refine tg_get (T := TF) (N := 15) hx hb hts inF hown hK (hT (op (c9 - 1)) hocT.1).1 rfl rfl 11 (by decide) (hts _ wf_S_86) (fun _ z => z) rfl dS_closeGroup_85 ?_
            refine tg_top (y := nI (N 11 (op (c9 - 1)))) (congrArg nI (hg_cl_f (fun q => q.1.elim (by decide) (by decide)))) ?_
            have hb_85 := hB 11 (op (c9 - 1))
            refine tg_aload_n hx hb dS_closeGroup_88 rfl rfl ?_
            refine tg_get (T := TF) (N := 15) hx hb hts inF hown hK (hT v hvT).1 rfl rfl 11 (by decide) (hts _ wf_S_86) (fun _ z => z) rfl dS_closeGroup_89 ?_
            refine tg_top (y := nI (N 11 v)) (congrArg nI (hg_cl_f (fun q => q.1.elim (by decide) (by decide)))) ?_
            have hb_89 := hB 11 v
            refine tg_icmp_lt (tgt := 134) hx hb dS_closeGroup_92 (by decide) (fun q_24 => ?_) (fun q_24 => ?_)
            · have q_24' := q_24
              have h_25 : N 11 (op (c9 - 1)) < N 11 v := (nI_ltI (by omega) (by omega)).mp q_24
              have hfin := hD.round (c := c9) hS h0 hv hlk heq hc9 hhi (Or.inr h_25) hbig
              exact tg_vret hx hb hlocks hr hQ ⟨rfl, rfl, rfl, _, _, rfl, fun j h1 _ _ h4 => funext fun u => hg_cl_f (fun q => q.1.elim h1 h4), rfl, rfl, rfl, rfl, rfl, fun j u => by unfold hg_cl; split; omega; exact hB j u, fun k => by unfold va_up; (repeat' split) <;> first | omega | exact hBG k, fun u z => by unfold hg_cl; split; omega; exact z, by rw [show hg_cl N op c9 (G 4) 13 = N 13 from funext fun u => hg_cl_f (fun q => q.1.elim (by decide) (by decide))]; exact hfin⟩ dS_closeGroup_134
            · have q_24' := q_24
              have h_26 : N 11 v ≤ N 11 (op (c9 - 1)) := Nat.le_of_not_lt fun z => q_24 ((nI_ltI (by omega) (by omega)).mpr z)
              refine tg_aload_n hx hb dS_closeGroup_95 rfl rfl ?_
              refine tg_dup hx hb dS_closeGroup_96 rfl ?_
              refine tg_get (T := TS) (N := 9) hx hb hts inS hown hK (hO.1 3 (by decide)) rfl rfl 7 (by decide) (hts _ wf_S_36) (fun _ z => z) rfl dS_closeGroup_97 ?_
              refine tg_top (y := nI (c9)) (by simp [va_up]) ?_
              refine tg_iconst (v := nI 1) hx hb dS_closeGroup_100 (by decide +kernel) ?_
              refine tg_isub hx hb dS_closeGroup_101 ?_
              refine tg_top (y := nI ((c9) - (1))) (pk_sub (by omega)) ?_
              refine tg_put (T := TS) (N := 9) (ty := .int) hx hb hts inS tyS tyS_ok nmS hown hK (hO.1 3 (by decide)) rfl rfl 7 (by decide) (hts _ wf_S_36) (fun _ z => z) rfl (by decide +kernel) rfl rfl (Nat.le_of_ble_eq_true rfl) dS_closeGroup_102 ?_
              refine tg_wp (hg_w_G4 hO ((c9) - (1))) ?_
              refine tg_aload_n hx hb dS_closeGroup_105 rfl rfl ?_
              refine tg_get (T := TS) (N := 9) hx hb hts inS hown hK (hO.1 3 (by decide)) rfl rfl 6 (by decide) (hts _ wf_S_23) (fun _ z => z) rfl dS_closeGroup_106 ?_
              refine tg_aload_n hx hb dS_closeGroup_109 rfl rfl ?_
              refine tg_get (T := TS) (N := 9) hx hb hts inS hown hK (hO.1 3 (by decide)) rfl rfl 7 (by decide) (hts _ wf_S_36) (fun _ z => z) rfl dS_closeGroup_110 ?_
              refine tg_top (y := nI ((c9) - (1))) (by simp [va_up]) ?_
              refine tg_aald (t0 := 1) hx hb hK (hO.1 7 (by decide)) rfl rfl (x := (c9) - (1)) (by decide) (by omega) dS_closeGroup_113 ?_
              refine tg_st (st' := .ref (ad 8 (op (c9 - 1))) :: []) (by rw [hocT.2]; rfl) ?_
              refine tg_iconst (v := nI 1) hx hb dS_closeGroup_114 (by decide +kernel) ?_
              refine tg_put (T := TF) (N := 15) (ty := .boolean) hx hb hts inF tyF tyF_ok nmF hown hK (hT (op (c9 - 1)) hocT.1).1 rfl rfl 9 (by decide) (hts _ wf_S_111) (fun _ z => z) rfl (by decide +kernel) (by decide +kernel) (by decide +kernel) (Nat.le_of_ble_eq_true rfl) dS_closeGroup_115 ?_
              refine tg_w (hg_w_N9 (op (c9 - 1)) 1) ?_
              refine tg_aload_n hx hb dS_closeGroup_118 rfl rfl ?_
              refine tg_get (T := TS) (N := 9) hx hb hts inS hown hK (hO.1 3 (by decide)) rfl rfl 6 (by decide) (hts _ wf_S_23) (fun _ z => z) rfl dS_closeGroup_119 ?_
              refine tg_aload_n hx hb dS_closeGroup_122 rfl rfl ?_
              refine tg_get (T := TS) (N := 9) hx hb hts inS hown hK (hO.1 3 (by decide)) rfl rfl 7 (by decide) (hts _ wf_S_36) (fun _ z => z) rfl dS_closeGroup_123 ?_
              refine tg_top (y := nI ((c9) - (1))) (by simp [va_up]) ?_
              refine tg_aald (t0 := 1) hx hb hK (hO.1 7 (by decide)) rfl rfl (x := (c9) - (1)) (by decide) (by omega) dS_closeGroup_126 ?_
              refine tg_st (st' := .ref (ad 8 (op (c9 - 1))) :: []) (by rw [hocT.2]; rfl) ?_
              refine tg_iconst (v := nI 1) hx hb dS_closeGroup_127 (by decide +kernel) ?_
              refine tg_put (T := TF) (N := 15) (ty := .boolean) hx hb hts inF tyF tyF_ok nmF hown hK (hT (op (c9 - 1)) hocT.1).1 rfl rfl 14 (by decide) (hts _ wf_S_70) (fun _ z => z) rfl (by decide +kernel) (by decide +kernel) (by decide +kernel) (Nat.le_of_ble_eq_true rfl) dS_closeGroup_128 ?_
              refine tg_w (hg_w_N14 (op (c9 - 1)) 1) ?_
              refine tg_goto (tgt := 67) hx hb dS_closeGroup_131 (by decide) ?_
              refine tg_w (show (hg_w ad cF cI (va_up (va_up (va_up G 3 (G 3 - 1)) 4 c9) 4 ((c9) - (1))) a dr (tg_up (tg_up (hg_cl N op c9 (G 4)) 9 (op (c9 - 1)) 1) 14 (op (c9 - 1)) 1) bc sp μ) = (hg_w ad cF cI (va_up (va_up G 3 (G 3 - 1)) 4 (c9 - 1)) a dr (hg_cl N op (c9 - 1) (G 4)) bc sp μ) from by rw [bx_uu, ← hg_cl_s (c := c9 - 1) (by omega), show c9 - 1 + 1 = c9 by omega]) ?_
              exact ih (c9 - 1) ⟨by omega, fun k h1 h2 => by rcases Nat.lt_or_ge k c9 with z | z; rw [show k = c9 - 1 by omega]; exact h_26; exact hhi k z h2⟩ (by omega)
        · have q_19' := q_19
          rw [← nI_0] at q_19
          have h_27 : hg_b (hg_hk N bc sp v v) = 0 := (nI_eq (by omega) (by omega)).mp q_19
          refine tg_aload_n hx hb dS_closeGroup_40 rfl rfl ?_
          refine tg_iconst (v := nI 1) hx hb dS_closeGroup_41 (by decide +kernel) ?_
          refine tg_aload_n hx hb dS_closeGroup_42 rfl rfl ?_
          refine tg_aload_n hx hb dS_closeGroup_43 rfl rfl ?_
          refine tg_callV (C := "HangGraph$Sweep") (As := [.ref (ad 8 v)]) (rest := [.int (nI (1)), .ref (ad 8 v)]) ⟨hx, hb, hml, hown, hts⟩ hK hN hMv (hO.1 3 (by decide)) rfl rfl rfl (c_greatest hO hT hMv hS.1 hits (by rw [va_up_ne _ _ (by decide)]; exact hS.2.1) (by rw [va_up_ne _ _ (by decide)]; exact hS.2.2.1) (fun u _ => hD.rank u) v hvT) (cwV 1 hts (lg_V wm_S_104 wi_S_greatestRankBelow we_S_greatestRankBelow wn_S wc_S_greatestRankBelow) rfl rfl rfl ⟨rfl, by decide, by decide, rfl⟩ ⟨by rw [hR]; exact Nat.le_of_ble_eq_true rfl, by rw [hR]; exact Nat.le_of_ble_eq_true rfl⟩) rfl (Nat.le_of_ble_eq_true rfl) ⟨by rw [hR]; exact Nat.le_of_ble_eq_true rfl, by rw [hR]; exact Nat.le_of_ble_eq_true rfl⟩ rfl dS_closeGroup_44 (tg_kv rfl rfl ?_)
          have hl9 : hg_lm (hg_hk N bc sp v) (N 10) hits (G 2) ≤ 1000 := hg_lm_bd _ fun j _ _ => Nat.le_of_lt (hD.rank _)
          refine tg_iadd hx hb dS_closeGroup_47 ?_
          refine tg_top (y := nI ((1) + (hg_lm (hg_hk N bc sp v) (N 10) hits (G 2)))) (nI_add _ _) ?_
          refine tg_put (T := TF) (N := 15) (ty := .int) hx hb hts inF tyF tyF_ok nmF hown hK (hT v hvT).1 rfl rfl 10 (by decide) (hts _ wf_S_108) (fun _ z => z) rfl (by decide +kernel) rfl rfl (Nat.le_of_ble_eq_true rfl) dS_closeGroup_48 ?_
          refine tg_w (hg_w_N10 v ((1) + (hg_lm (hg_hk N bc sp v) (N 10) hits (G 2)))) ?_
          refine tg_aload_n hx hb dS_closeGroup_51 rfl rfl ?_
          refine tg_iconst (v := nI 1) hx hb dS_closeGroup_52 (by decide +kernel) ?_
          refine tg_put (T := TF) (N := 15) (ty := .boolean) hx hb hts inF tyF tyF_ok nmF hown hK (hT v hvT).1 rfl rfl 14 (by decide) (hts _ wf_S_70) (fun _ z => z) rfl (by decide +kernel) (by decide +kernel) (by decide +kernel) (Nat.le_of_ble_eq_true rfl) dS_closeGroup_53 ?_
          refine tg_w (hg_w_N14 v 1) ?_
          refine tg_aload_n hx hb dS_closeGroup_56 rfl rfl ?_
          refine tg_dup hx hb dS_closeGroup_57 rfl ?_
          refine tg_get (T := TS) (N := 9) hx hb hts inS hown hK (hO.1 3 (by decide)) rfl rfl 7 (by decide) (hts _ wf_S_36) (fun _ z => z) rfl dS_closeGroup_58 ?_
          refine tg_top (y := nI (G 4)) (by simp [va_up]) ?_
          have hb_28 := hBG 4
          refine tg_iconst (v := nI 1) hx hb dS_closeGroup_61 (by decide +kernel) ?_
          refine tg_isub hx hb dS_closeGroup_62 ?_
          refine tg_top (y := nI ((G 4) - (1))) (pk_sub (by omega)) ?_
          refine tg_put (T := TS) (N := 9) (ty := .int) hx hb hts inS tyS tyS_ok nmS hown hK (hO.1 3 (by decide)) rfl rfl 7 (by decide) (hts _ wf_S_36) (fun _ z => z) rfl (by decide +kernel) rfl rfl (Nat.le_of_ble_eq_true rfl) dS_closeGroup_63 ?_
          refine tg_wp (hg_w_G4 hO ((G 4) - (1))) ?_
          have elm : hg_lm (hg_hk N bc sp v) (N 10) hits (G 2) = hg_mx e9 (N 10) v 400 := hg_lm_mx (fun i hi hp => by obtain ⟨iv, h1, h2⟩ := hvh; exact ⟨by rw [← h2]; exact (hS.2.2.2.2.1 iv i h1 hi).mpr (by rw [h2]; exact hp), hS.2.2.2.2.2 _ (hS.2.2.1 i hi).1⟩) (fun g hg he => by obtain ⟨i, h1, h2⟩ := (hS.2.2.2.1 v g he).2; obtain ⟨iv, h3, h4⟩ := hvh; exact ⟨i, h1, h2, by rw [← h4]; exact (hS.2.2.2.2.1 iv i h3 h1).mp (by rw [h2, h4]; exact he)⟩)
          have hmx : hg_mx e9 (N 10) v 400 ≤ 1000 := hg_mx_bd 400 fun g _ _ => Nat.le_of_lt (hD.rank g)
          have hfin := hD.alone hS h0 hv hlk heq (by omega) hal (fun z => absurd (he9.mp z) (hg_b0 h_27))
          rw [elm]
          exact tg_vret hx hb hlocks hr hQ ⟨rfl, rfl, rfl, _, _, rfl, fun j h1 h2 _ h4 => by rw [hg_oth _ _ _ h4, hg_oth _ _ _ h2], rfl, rfl, rfl, rfl, rfl, fun j u => by unfold tg_up; (repeat' split) <;> first | omega | exact hB j u, fun k => by unfold va_up; (repeat' split) <;> first | omega | exact hBG k, fun u z => by rw [hg_col]; unfold va_up; split; omega; rw [hg_oth _ _ _ (by decide)]; exact z, by rw [hg_oth _ _ _ (by decide), hg_oth _ _ _ (by decide)]; exact hfin⟩ dS_closeGroup_66
set_option maxRecDepth 100000 in
set_option maxHeartbeats 4000000 in
/-- the walk goes back from v -/
theorem c_leave (hO : hg_ok ok) (hT : ∀ f, T f → ok 8 f ∧ ok 9 f) (hMv : tg_Mv F Nn) (hB : ∀ j u, N j u < 1000000) (hBG : ∀ k, G k < 1000000) (hits pa op : Nat → Nat) (e9 : Nat → Nat → Prop) (hS : hg_SV T ad a G N bc sp e9 hits) (hD : hg_DV T ad a G N (N 13) e9 hits pa op) (h0 : 0 < G 3) (v : Nat) (hv : pa (G 3 - 1) = v) (hlk : G 2 ≤ N 13 v) : tg_Met l yS_leave wsS_leave ({ frames := 3, cells := 0, slots := 0, locals := 140 }) D vwCl (hg_tys cI cF cZ cJ cA cB) F Nn ad ok (hg_w ad cF cI G a dr N bc sp μ) [.ref (ad 3 0), .ref (ad 8 v)] (tg_po ad ok fun r w1 => r = none ∧ ∃ G' N', w1 = hg_w ad cF cI G' a dr N' bc sp μ ∧ (∀ j, j ≠ 9 → j ≠ 10 → j ≠ 12 → j ≠ 14 → N' j = N j) ∧ G' 0 = G 0 ∧ G' 1 = G 1 ∧ G' 2 = G 2 ∧ G' 3 = G 3 - 1 ∧ G' 5 = G 5 ∧ (∀ j u, N' j u < 1000000) ∧ (∀ k, G' k < 1000000) ∧ (∀ u, N 14 u ≠ 0 → N' 14 u ≠ 0) ∧ hg_DV T ad a G' N' (N' 13) e9 hits pa op) := by
  refine tg_start (cc := cS_leave) (maxL := 3) (ret := none) (by decide) rfl (Nat.le_of_ble_eq_true rfl) ?_
  intro p e R s m args below meth c Q hx hb hml hr hlocks hown hname hts hK hN hR hQ
  have hown : s.vm.findClass "HangGraph$Sweep" = some m.cls := hown
  have hts : ∀ w ∈ lw_g, w.before args s = true := fun w z => hts w (List.mem_cons_of_mem _ z)
  have hvT : T v := by rw [← hv]; exact (hD.1.2 _ (by omega)).1
  have hvh : ∃ iv, iv < G 2 ∧ hits iv = v := hg_T_17 hD.2.2.1 v (by rw [← hv]; exact (hD.2.2.1.2.2.2.2.2.1 _ (by omega)).1)
  have hG2 := hS.2.1
  have hG3 := hD.1.1
  have hG4 := hD.2.1.1
  have hb_3 := hBG 3
  refine tg_aload_n hx hb dS_leave_0 rfl rfl ?_
  refine tg_dup hx hb dS_leave_1 rfl ?_
  refine tg_get (T := TS) (N := 9) hx hb hts inS hown hK (hO.1 3 (by decide)) rfl rfl 5 (by decide) (hts _ wf_S_33) (fun _ z => z) rfl dS_leave_2 ?_
  have hb_1 := hBG 3
  refine tg_iconst (v := nI 1) hx hb dS_leave_5 (by decide +kernel) ?_
  refine tg_isub hx hb dS_leave_6 ?_
  refine tg_top (y := nI ((G 3) - (1))) (pk_sub (by omega)) ?_
  refine tg_put (T := TS) (N := 9) (ty := .int) hx hb hts inS tyS tyS_ok nmS hown hK (hO.1 3 (by decide)) rfl rfl 5 (by decide) (hts _ wf_S_33) (fun _ z => z) rfl (by decide +kernel) rfl rfl (Nat.le_of_ble_eq_true rfl) dS_leave_7 ?_
  refine tg_wp (hg_w_G3 hO ((G 3) - (1))) ?_
  refine tg_aload_n hx hb dS_leave_10 rfl rfl ?_
  refine tg_get (T := TS) (N := 9) hx hb hts inS hown hK (hO.1 3 (by decide)) rfl rfl 5 (by decide) (hts _ wf_S_33) (fun _ z => z) rfl dS_leave_11 ?_
  refine tg_top (y := nI ((G 3) - (1))) (by simp [va_up]) ?_
  refine tg_if_le (tgt := 44) hx hb dS_leave_14 (by decide) (fun q_2 => ?_) (fun q_2 => ?_)
  · have q_2' := q_2
    rw [← nI_0] at q_2
    have h_3 : (G 3) - (1) ≤ 0 := (nI_leI (by omega) (by omega)).mp q_2
    refine tg_aload_n hx hb dS_leave_44 rfl rfl ?_
    refine tg_get (T := TF) (N := 15) hx hb hts inF hown hK (hT v hvT).1 rfl rfl 12 (by decide) (hts _ wf_S_89) (fun _ z => z) rfl dS_leave_45 ?_
    have hb_4 := hB 12 v
    refine tg_aload_n hx hb dS_leave_48 rfl rfl ?_
    refine tg_get (T := TF) (N := 15) hx hb hts inF hown hK (hT v hvT).1 rfl rfl 11 (by decide) (hts _ wf_S_86) (fun _ z => z) rfl dS_leave_49 ?_
    have hb_5 := hB 11 v
    refine tg_icmp_ne (tgt := 60) hx hb dS_leave_52 (by decide) (fun q_6 => ?_) (fun q_6 => ?_)
    · have q_6' := q_6
      have h_7 : N 12 v ≠ N 11 v := fun z => q_6 ((nI_eq (by omega) (by omega)).mpr z)
      obtain ⟨h2, hfin⟩ := hD.leave h0 hv hlk h_7
      omega
    · have q_6' := q_6
      have h_8 : N 12 v = N 11 v := (nI_eq (by omega) (by omega)).mp q_6
      have heq : N 12 v = N 11 v := h_8
      refine tg_aload_n hx hb dS_leave_55 rfl rfl ?_
      refine tg_aload_n hx hb dS_leave_56 rfl rfl ?_
      refine tg_callV (C := "HangGraph$Sweep") (As := [.ref (ad 8 v)]) (rest := []) ⟨hx, hb, hml, hown, hts⟩ hK hN hMv (hO.1 3 (by decide)) rfl rfl rfl (c_closeGroup hO hT hMv hB hBG hits pa op e9 hS hD h0 v hv hlk heq) (cwV 1 hts (lg_V wm_S_101 wi_S_closeGroup we_S_closeGroup wn_S wc_S_closeGroup) rfl rfl rfl ⟨rfl, by decide, by decide, rfl⟩ ⟨by rw [hR]; exact Nat.le_of_ble_eq_true rfl, by rw [hR]; exact Nat.le_of_ble_eq_true rfl⟩) rfl (Nat.le_of_ble_eq_true rfl) ⟨by rw [hR]; exact Nat.le_of_ble_eq_true rfl, by rw [hR]; exact Nat.le_of_ble_eq_true rfl⟩ rfl dS_leave_57 (tg_kk rfl rfl ?_)
      intro r w1 ⟨hr1, G', N', hw1, hrest⟩
      rw [hr1, hw1]
      exact tg_vret hx hb hlocks hr hQ ⟨rfl, rfl, rfl, G', N', rfl, hrest⟩ dS_leave_60
  · have q_2' := q_2
    rw [← nI_0] at q_2
    have h_9 : 0 < (G 3) - (1) := Nat.lt_of_not_le fun z => q_2 ((nI_leI (by omega) (by omega)).mpr z)
    have hpT := hD.1.2 (G 3 - 1 - 1) (by omega)
    have hpv : ¬ v = pa (G 3 - 1 - 1) := fun z => by have h1 := hD.2.2.1.2.2.2.2.2.2.1 (G 3 - 1 - 1) (G 3 - 1) (by omega) (by omega); rw [hv, z] at h1; omega
    refine tg_aload_n hx hb dS_leave_17 rfl rfl ?_
    refine tg_get (T := TS) (N := 9) hx hb hts inS hown hK (hO.1 3 (by decide)) rfl rfl 4 (by decide) (hts _ wf_S_20) (fun _ z => z) rfl dS_leave_18 ?_
    refine tg_aload_n hx hb dS_leave_21 rfl rfl ?_
    refine tg_get (T := TS) (N := 9) hx hb hts inS hown hK (hO.1 3 (by decide)) rfl rfl 5 (by decide) (hts _ wf_S_33) (fun _ z => z) rfl dS_leave_22 ?_
    refine tg_top (y := nI ((G 3) - (1))) (by simp [va_up]) ?_
    refine tg_iconst (v := nI 1) hx hb dS_leave_25 (by decide +kernel) ?_
    refine tg_isub hx hb dS_leave_26 ?_
    refine tg_top (y := nI (((G 3) - (1)) - (1))) (pk_sub (by omega)) ?_
    refine tg_aald (t0 := 1) hx hb hK (hO.1 6 (by decide)) rfl rfl (x := ((G 3) - (1)) - (1)) (by decide) (by omega) dS_leave_27 ?_
    refine tg_st (st' := .ref (ad 8 (pa (G 3 - 1 - 1))) :: []) (by rw [hpT.2]; rfl) ?_
    refine tg_astore_n (L' := [(0, .ref (ad 3 0)), (1, .ref (ad 8 v)), (2, .ref (ad 8 (pa (G 3 - 1 - 1))))]) hx hb dS_leave_28 rfl (by decide) rfl rfl ?_
    refine tg_aload_n hx hb dS_leave_29 rfl rfl ?_
    refine tg_aload_n hx hb dS_leave_30 rfl rfl ?_
    refine tg_get (T := TF) (N := 15) hx hb hts inF hown hK (hT (pa (G 3 - 1 - 1)) hpT.1).1 rfl rfl 12 (by decide) (hts _ wf_S_89) (fun _ z => z) rfl dS_leave_31 ?_
    have hb_10 := hB 12 (pa (G 3 - 1 - 1))
    refine tg_aload_n hx hb dS_leave_34 rfl rfl ?_
    refine tg_get (T := TF) (N := 15) hx hb hts inF hown hK (hT v hvT).1 rfl rfl 12 (by decide) (hts _ wf_S_89) (fun _ z => z) rfl dS_leave_35 ?_
    have hb_11 := hB 12 v
    refine tg_mmin hx hb hml hown (hts _ wm_S_95) (hts _ wt_java_lang_Math_min) (hts _ wn_java_lang_Math) (hts _ wc_java_lang_Math_min) (by rw [hR]; exact Nat.le_of_ble_eq_true rfl) (by rw [hR]; exact Nat.le_of_ble_eq_true rfl) (Nat.zero_le _) (Nat.zero_le _) dS_leave_38 ?_
    refine tg_top (y := nI (Nat.min (N 12 (pa (G 3 - 1 - 1))) (N 12 v))) (hg_imin (by omega) (by omega)) ?_
    refine tg_put (T := TF) (N := 15) (ty := .int) hx hb hts inF tyF tyF_ok nmF hown hK (hT (pa (G 3 - 1 - 1)) hpT.1).1 rfl rfl 12 (by decide) (hts _ wf_S_89) (fun _ z => z) rfl (by decide +kernel) rfl rfl (Nat.le_of_ble_eq_true rfl) dS_leave_41 ?_
    refine tg_w (hg_w_N12 (pa (G 3 - 1 - 1)) (Nat.min (N 12 (pa (G 3 - 1 - 1))) (N 12 v))) ?_
    refine tg_aload_n hx hb dS_leave_44 rfl rfl ?_
    refine tg_get (T := TF) (N := 15) hx hb hts inF hown hK (hT v hvT).1 rfl rfl 12 (by decide) (hts _ wf_S_89) (fun _ z => z) rfl dS_leave_45 ?_
    refine tg_top (y := nI (N 12 v)) (congrArg nI (tg_up_ne _ _ (fun z => hpv z.2))) ?_
    have hb_45 := hB 12 v
    refine tg_aload_n hx hb dS_leave_48 rfl rfl ?_
    refine tg_get (T := TF) (N := 15) hx hb hts inF hown hK (hT v hvT).1 rfl rfl 11 (by decide) (hts _ wf_S_86) (fun _ z => z) rfl dS_leave_49 ?_
    refine tg_top (y := nI (N 11 v)) (by simp [tg_up]) ?_
    have hb_12 := hB 11 v
    refine tg_icmp_ne (tgt := 60) hx hb dS_leave_52 (by decide) (fun q_13 => ?_) (fun q_13 => ?_)
    · have q_13' := q_13
      have h_14 : N 12 v ≠ N 11 v := fun z => q_13 ((nI_eq (by omega) (by omega)).mpr z)
      obtain ⟨h2, hfin⟩ := hD.leave h0 hv hlk h_14
      exact tg_vret hx hb hlocks hr hQ ⟨rfl, rfl, rfl, _, _, rfl, fun j _ _ h3 _ => by rw [hg_oth _ _ _ h3], rfl, rfl, rfl, rfl, rfl, fun j u => by unfold tg_up; split; exact Nat.lt_of_le_of_lt (Nat.min_le_left _ _) (hB _ _); exact hB j u, fun k => by unfold va_up; (repeat' split) <;> first | omega | exact hBG k, fun u z => by rw [hg_oth _ _ _ (by decide)]; exact z, by rw [hg_oth _ _ _ (by decide)]; exact hfin⟩ dS_leave_60
    · have q_13' := q_13
      have h_15 : N 12 v = N 11 v := (nI_eq (by omega) (by omega)).mp q_13
      have heq : N 12 v = N 11 v := h_15
      refine tg_w (show (hg_w ad cF cI (va_up G 3 ((G 3) - (1))) a dr (tg_up N 12 (pa (G 3 - 1 - 1)) (Nat.min (N 12 (pa (G 3 - 1 - 1))) (N 12 v))) bc sp μ) = hg_w ad cF cI (va_up G 3 (G 3 - 1)) a dr N bc sp μ from by rw [hg_tg_same (hD.same (by omega) hv heq)]) ?_
      refine tg_aload_n hx hb dS_leave_55 rfl rfl ?_
      refine tg_aload_n hx hb dS_leave_56 rfl rfl ?_
      refine tg_callV (C := "HangGraph$Sweep") (As := [.ref (ad 8 v)]) (rest := []) ⟨hx, hb, hml, hown, hts⟩ hK hN hMv (hO.1 3 (by decide)) rfl rfl rfl (c_closeGroup hO hT hMv hB hBG hits pa op e9 hS hD h0 v hv hlk heq) (cwV 1 hts (lg_V wm_S_101 wi_S_closeGroup we_S_closeGroup wn_S wc_S_closeGroup) rfl rfl rfl ⟨rfl, by decide, by decide, rfl⟩ ⟨by rw [hR]; exact Nat.le_of_ble_eq_true rfl, by rw [hR]; exact Nat.le_of_ble_eq_true rfl⟩) rfl (Nat.le_of_ble_eq_true rfl) ⟨by rw [hR]; exact Nat.le_of_ble_eq_true rfl, by rw [hR]; exact Nat.le_of_ble_eq_true rfl⟩ rfl dS_leave_57 (tg_kk rfl rfl ?_)
      intro r w1 ⟨hr1, G', N', hw1, hrest⟩
      rw [hr1, hw1]
      exact tg_vret hx hb hlocks hr hQ ⟨rfl, rfl, rfl, G', N', rfl, hrest⟩ dS_leave_60
end HGS3
end
section
/-! the walk, and the ranking of all that are hit -/
section HGS4
variable {l : Launch} {D : va_G} {F : Nat → Prop} {Nn : State → Heap → Prop} {ad : Nat → Nat → Nat} {ok : Nat → Nat → Prop} {cF cI cZ cJ cA cB : ClassId} {G : Nat → Nat} {a : Nat → Nat → Option Nat} {dr : Nat → Int32} {N : Nat → Nat → Nat} {bc : Nat → Int32} {sp : Nat → Nat → Int32} {μ : Nat → Nat → va_E} {T : Nat → Prop}
set_option maxRecDepth 100000 in
set_option maxHeartbeats 4000000 in
/-- the walk from f -/
theorem c_walkFrom (hO : hg_ok ok) (hT : ∀ f, T f → ok 8 f ∧ ok 9 f) (hMv : tg_Mv F Nn) (hB : ∀ j u, N j u < 1000000) (hBG : ∀ k, G k < 1000000) (hits pa op : Nat → Nat) (e9 : Nat → Nat → Prop) (hS : hg_SV T ad a G N bc sp e9 hits) (hD : hg_DV T ad a G N (N 13) e9 hits pa op) (h0 : G 3 = 0) (f : Nat) (hfh : ∃ i, i < G 2 ∧ hits i = f) (hf : T f) (hf14 : N 14 f = 0) : tg_Met l yS_walkFrom wsS_walkFrom ({ frames := 4, cells := 0, slots := 0, locals := 190 }) D vwCl (hg_tys cI cF cZ cJ cA cB) F Nn ad ok (hg_w ad cF cI G a dr N bc sp μ) [.ref (ad 3 0), .ref (ad 8 f)] (tg_po ad ok fun r w1 => r = none ∧ ∃ a' G' N' pa' op', w1 = hg_w ad cF cI G' a' dr N' bc sp μ ∧ hg_WK T ad bc sp e9 hits a G N a' G' N' pa' op' ∧ G' 3 = 0 ∧ N' 14 f ≠ 0) := by
  refine tg_start (cc := cS_walkFrom) (maxL := 5) (ret := none) (by decide) rfl (Nat.le_of_ble_eq_true rfl) ?_
  intro p e R s m args below meth c Q hx hb hml hr hlocks hown hname hts hK hN hR hQ
  have hown : s.vm.findClass "HangGraph$Sweep" = some m.cls := hown
  have hts : ∀ w ∈ lw_g, w.before args s = true := fun w z => hts w (List.mem_cons_of_mem _ z)
  have hf11 : N 11 f = 0 := Decidable.byContradiction fun z => (hD.none h0 f).mp z hf14
  have hE := hD.enter (v := 0) (i := 0) (x := f) (look' := N 13) hf11 hf (hS.2.2.2.2.2 f hf) hfh (Or.inl ⟨h0, rfl⟩)
  have hl0 := hD.last
  have hen : (tg_up (tg_up N 11 f (G 5 + 1)) 12 f (G 5 + 1)) 11 f ≠ 0 ∧ 0 + (va_up (va_up (va_up G 5 (G 5 + 1)) 3 (G 3 + 1)) 4 (G 4 + 1)) 3 + 1 = 2 * ((va_up (va_up (va_up G 5 (G 5 + 1)) 3 (G 3 + 1)) 4 (G 4 + 1)) 5 - G 5) ∧ hg_WK T ad bc sp e9 hits a G N (va_up (va_up a 3 (va_up (a 3) (G 3) (some (ad 8 f)))) 4 (va_up (a 4) (G 4) (some (ad 8 f)))) (va_up (va_up (va_up G 5 (G 5 + 1)) 3 (G 3 + 1)) 4 (G 4 + 1)) (tg_up (tg_up N 11 f (G 5 + 1)) 12 f (G 5 + 1)) (va_up pa (G 3) f) (va_up op (G 4) f) := ⟨by simp [tg_up], by simp [va_up]; omega, hS.to (by rw [hg_oth _ _ _ (by decide), hg_oth _ _ _ (by decide)]) (by rw [hg_oth _ _ _ (by decide), hg_oth _ _ _ (by decide)]) (by simp [va_up]) (by simp [va_up]), by rw [hg_oth _ _ _ (by decide), hg_oth _ _ _ (by decide)]; exact hE.2.2, fun j hj => by rw [hg_oth _ _ _ (by omega), hg_oth _ _ _ (by omega)], ⟨by simp [va_up], by simp [va_up], by simp [va_up]⟩, ⟨by simp [va_up], by simp [va_up], by simp [va_up]⟩, fun j u => by unfold tg_up; (repeat' split) <;> first | omega | exact hB _ _, fun q => by unfold va_up; (repeat' split) <;> first | omega | exact hBG q, fun u z => by rw [hg_oth _ _ _ (by decide), hg_oth _ _ _ (by decide)]; exact z, by simp [va_up]⟩
  refine tg_aload_n hx hb dS_walkFrom_0 rfl rfl ?_
  refine tg_aload_n hx hb dS_walkFrom_1 rfl rfl ?_
  refine tg_callV (C := "HangGraph$Sweep") (As := [.ref (ad 8 f)]) (rest := []) ⟨hx, hb, hml, hown, hts⟩ hK hN hMv (hO.1 3 (by decide)) rfl rfl rfl (c_enter hO hT f hf hE.1 hE.2.1) (cwV 1 hts (lg_V wm_S_76 wi_S_enter we_S_enter wn_S wc_S_enter) rfl rfl rfl ⟨rfl, by decide, by decide, rfl⟩ ⟨by rw [hR]; exact Nat.le_of_ble_eq_true rfl, by rw [hR]; exact Nat.le_of_ble_eq_true rfl⟩) rfl (Nat.le_of_ble_eq_true rfl) ⟨by rw [hR]; exact Nat.le_of_ble_eq_true rfl, by rw [hR]; exact Nat.le_of_ble_eq_true rfl⟩ rfl dS_walkFrom_2 (tg_kn rfl rfl ?_)
  refine tg_iconst (v := nI 0) hx hb dS_walkFrom_5 (by decide +kernel) ?_
  refine tg_istore_n (L' := [(0, .ref (ad 3 0)), (1, .ref (ad 8 f)), (2, .int (nI (0)))]) hx hb dS_walkFrom_6 rfl (by decide) rfl rfl ?_
  refine tg_loop (fun x : Nat × (Nat → Nat) × (Nat → Nat → Option Nat) × (Nat → Nat → Nat) × (Nat → Nat) × (Nat → Nat) => hg_WK T ad bc sp e9 hits a G N x.2.2.1 x.2.1 x.2.2.2.1 x.2.2.2.2.1 x.2.2.2.2.2 ∧ x.2.2.2.1 11 f ≠ 0 ∧ x.1 + x.2.1 3 + 1 = 2 * (x.2.1 5 - G 5)) (fun x => 800 - x.1) (fun x => tg_W p l e R s m args below meth c Q 5 D vwCl F ad ok (hg_w ad cF cI x.2.1 x.2.2.1 dr x.2.2.2.1 bc sp μ) [(0, .ref (ad 3 0)), (1, .ref (ad 8 f)), (2, .int (nI (x.1)))] 0 0 7 []) ?_ (0, _, _, _, _, _) ⟨hen.2.2, hen.1, hen.2.1⟩
  intro ⟨k, G1, a1, N1, pa1, op1⟩ ⟨hWK, hst1, hstep⟩ ih
  dsimp only at hWK hst1 hstep ih ⊢
  have hWK' := hWK
  obtain ⟨hS1, hD1, hN1, hG1, ha1, hB1, hBG1, hm1, hl1⟩ := hWK
  have hl9 := hD1.last
  have hG3 := hD1.1.1
  have hb_5 := hBG1 5
  refine tg_iload_n hx hb dS_walkFrom_7 rfl rfl ?_
  refine tg_sipush (v := nI 800) hx hb dS_walkFrom_8 (by decide +kernel) ?_
  refine tg_icmp_ge (tgt := 65) hx hb dS_walkFrom_11 (by decide) (fun q_1 => ?_) (fun q_1 => ?_)
  · have q_1' := q_1
    have h_2 : 800 ≤ k := (nI_leI (by omega) (by omega)).mp q_1
    omega
  · have q_1' := q_1
    have h_3 : k < 800 := Nat.lt_of_not_le fun z => q_1 ((nI_leI (by omega) (by omega)).mpr z)
    refine tg_aload_n hx hb dS_walkFrom_14 rfl rfl ?_
    refine tg_get (T := TS) (N := 9) hx hb hts inS hown hK (hO.1 3 (by decide)) rfl rfl 5 (by decide) (hts _ wf_S_33) (fun _ z => z) rfl dS_walkFrom_15 ?_
    have hb_4 := hBG1 3
    refine tg_if_le (tgt := 65) hx hb dS_walkFrom_18 (by decide) (fun q_5 => ?_) (fun q_5 => ?_)
    · have q_5' := q_5
      rw [← nI_0] at q_5
      have h_6 : G1 3 ≤ 0 := (nI_leI (by omega) (by omega)).mp q_5
      have h30 : G1 3 = 0 := by omega
      exact tg_vret hx hb hlocks hr hQ ⟨rfl, rfl, rfl, a1, G1, N1, pa1, op1, rfl, hWK', h30, (hD1.none h30 f).mp hst1⟩ dS_walkFrom_65
    · have q_5' := q_5
      rw [← nI_0] at q_5
      have h_7 : 0 < G1 3 := Nat.lt_of_not_le fun z => q_5 ((nI_leI (by omega) (by omega)).mpr z)
      refine tg_aload_n hx hb dS_walkFrom_21 rfl rfl ?_
      refine tg_get (T := TS) (N := 9) hx hb hts inS hown hK (hO.1 3 (by decide)) rfl rfl 4 (by decide) (hts _ wf_S_20) (fun _ z => z) rfl dS_walkFrom_22 ?_
      refine tg_aload_n hx hb dS_walkFrom_25 rfl rfl ?_
      refine tg_get (T := TS) (N := 9) hx hb hts inS hown hK (hO.1 3 (by decide)) rfl rfl 5 (by decide) (hts _ wf_S_33) (fun _ z => z) rfl dS_walkFrom_26 ?_
      have hb_8 := hBG1 3
      refine tg_iconst (v := nI 1) hx hb dS_walkFrom_29 (by decide +kernel) ?_
      refine tg_isub hx hb dS_walkFrom_30 ?_
      refine tg_top (y := nI ((G1 3) - (1))) (pk_sub (by omega)) ?_
      refine tg_aald (t0 := 1) hx hb hK (hO.1 6 (by decide)) rfl rfl (x := (G1 3) - (1)) (by decide) (by omega) dS_walkFrom_31 ?_
      refine tg_st (st' := .ref (ad 8 (pa1 (G1 3 - 1))) :: []) (by rw [(hD1.1.2 (G1 3 - 1) (by omega)).2]; rfl) ?_
      refine tg_astore_n (L' := [(0, .ref (ad 3 0)), (1, .ref (ad 8 f)), (2, .int (nI (k))), (3, .ref (ad 8 (pa1 (G1 3 - 1))))]) hx hb dS_walkFrom_32 rfl (by decide) rfl rfl ?_
      refine tg_aload_n hx hb dS_walkFrom_33 rfl rfl ?_
      refine tg_aload_n hx hb dS_walkFrom_34 rfl rfl ?_
      have h03 : 0 < G1 3 := by omega
      refine tg_callV (C := "HangGraph$Sweep") (As := [.ref (ad 8 (pa1 (G1 3 - 1)))]) (rest := []) ⟨hx, hb, hml, hown, hts⟩ hK hN hMv (hO.1 3 (by decide)) rfl rfl rfl (c_nextBelow hO hT hMv hB1 hBG1 hits pa1 op1 e9 hS1 hD1 h03 (pa1 (G1 3 - 1)) rfl) (cwV 1 hts (lg_V wm_S_79 wi_S_nextBelow we_S_nextBelow wn_S wc_S_nextBelow) rfl rfl rfl ⟨rfl, by decide, by decide, rfl⟩ ⟨by rw [hR]; exact Nat.le_of_ble_eq_true rfl, by rw [hR]; exact Nat.le_of_ble_eq_true rfl⟩) rfl (Nat.le_of_ble_eq_true rfl) ⟨by rw [hR]; exact Nat.le_of_ble_eq_true rfl, by rw [hR]; exact Nat.le_of_ble_eq_true rfl⟩ rfl dS_walkFrom_35 (tg_kk rfl rfl ?_)
      intro r w1 ⟨N2, hw1, hk2, hB2, hcase⟩
      rw [hw1]
      have hS2 : hg_SV T ad a1 G1 N2 bc sp e9 hits := hS1.to (hk2 1 (by decide) (by decide)) (hk2 3 (by decide) (by decide)) rfl rfl
      rcases hcase with ⟨hr1, hD2, hlk⟩ | ⟨i, hi1, hr1, hi3, hi4, hi5, hD2⟩
      · rw [hr1]
        refine tg_st (st' := [.null]) rfl ?_
        refine tg_astoreN (L' := [(0, .ref (ad 3 0)), (1, .ref (ad 8 f)), (2, .int (nI (k))), (3, .ref (ad 8 (pa1 (G1 3 - 1)))), (4, .null)]) hx hb dS_walkFrom_38 (by decide) rfl rfl ?_
        refine tg_aloadN hx hb dS_walkFrom_40 rfl ?_
        refine tg_ifnonnullN hx hb dS_walkFrom_42 ?_
        refine tg_aload_n hx hb dS_walkFrom_45 rfl rfl ?_
        refine tg_aload_n hx hb dS_walkFrom_46 rfl rfl ?_
        refine tg_callV (C := "HangGraph$Sweep") (As := [.ref (ad 8 (pa1 (G1 3 - 1)))]) (rest := []) ⟨hx, hb, hml, hown, hts⟩ hK hN hMv (hO.1 3 (by decide)) rfl rfl rfl (c_leave hO hT hMv hB2 hBG1 hits pa1 op1 e9 hS2 hD2 h03 (pa1 (G1 3 - 1)) rfl hlk) (cwV 1 hts (lg_V wm_S_83 wi_S_leave we_S_leave wn_S wc_S_leave) rfl rfl rfl ⟨rfl, by decide, by decide, rfl⟩ ⟨by rw [hR]; exact Nat.le_of_ble_eq_true rfl, by rw [hR]; exact Nat.le_of_ble_eq_true rfl⟩) rfl (Nat.le_of_ble_eq_true rfl) ⟨by rw [hR]; exact Nat.le_of_ble_eq_true rfl, by rw [hR]; exact Nat.le_of_ble_eq_true rfl⟩ rfl dS_walkFrom_47 (tg_kk rfl rfl ?_)
        intro r w1 ⟨hr2, G2_, N3, hw2, hk3, hg0, hg1, hg2, hg3, hg5, hB3, hBG3, hm3, hD3⟩
        rw [hr2, hw2]
        refine tg_st (st' := []) rfl ?_
        refine tg_goto (tgt := 59) hx hb dS_walkFrom_50 (by decide) ?_
        refine tg_iinc (v := nI (k + 1)) (L' := [(0, .ref (ad 3 0)), (1, .ref (ad 8 f)), (2, .int (nI (k + 1))), (3, .ref (ad 8 (pa1 (G1 3 - 1)))), (4, .null)]) hx hb dS_walkFrom_59 rfl (nI_1 _) (by decide) rfl rfl ?_
        refine tg_goto (tgt := 7) hx hb dS_walkFrom_62 (by decide) ?_
        refine tg_sub (L' := [(0, .ref (ad 3 0)), (1, .ref (ad 8 f)), (2, .int (nI (k + 1)))]) (fun q hq => (List.mem_append_left [(3, .ref (ad 8 (pa1 (G1 3 - 1)))), (4, .null)] hq : q ∈ [(0, .ref (ad 3 0)), (1, .ref (ad 8 f)), (2, .int (nI (k + 1)))] ++ [(3, .ref (ad 8 (pa1 (G1 3 - 1)))), (4, .null)])) ?_
        refine ih (k + 1, G2_, a1, N3, pa1, op1) ?_ (by dsimp only; omega)
        dsimp only
        exact ⟨⟨hS2.to (hk3 1 (by decide) (by decide) (by decide) (by decide)) (hk3 3 (by decide) (by decide) (by decide) (by decide)) rfl hg2, hD3, fun j hj => by rw [hk3 j (by omega) (by omega) (by omega) (by omega), hk2 j (by omega) (by omega)]; exact hN1 j hj, ⟨hg0.trans hG1.1, hg1.trans hG1.2.1, hg2.trans hG1.2.2⟩, ha1, hB3, hBG3, fun u z => hm3 u (by rw [hk2 14 (by decide) (by decide)]; exact hm1 u z), by omega⟩, by rw [hk3 11 (by decide) (by decide) (by decide) (by decide), hk2 11 (by decide) (by decide)]; exact hst1, by omega⟩
      · rw [hr1]
        have hiT := (hS1.2.2.1 i hi1)
        refine tg_st (st' := [.ref (ad 8 (hits i))]) rfl ?_
        refine tg_astore (L' := [(0, .ref (ad 3 0)), (1, .ref (ad 8 f)), (2, .int (nI (k))), (3, .ref (ad 8 (pa1 (G1 3 - 1)))), (4, .ref (ad 8 (hits i)))]) hx hb dS_walkFrom_38 (by decide) rfl rfl ?_
        refine tg_aload hx hb dS_walkFrom_40 rfl ?_
        refine tg_ifnonnull (tgt := 53) hx hb dS_walkFrom_42 (by decide) ?_
        refine tg_aload_n hx hb dS_walkFrom_53 rfl rfl ?_
        refine tg_aload hx hb dS_walkFrom_54 rfl ?_
        have hE := hD2.enter (v := pa1 (G1 3 - 1)) (i := i) (x := hits i) (look' := va_up (N1 13) (pa1 (G1 3 - 1)) (i + 1)) hi3 hiT.1 (hS1.2.2.2.2.2 _ hiT.1) ⟨i, hi1, rfl⟩ (Or.inr ⟨h03, rfl, va_up_self _ _ _, rfl, hi1, hi4, (bx_uu _ _ _ _).symm⟩)
        refine tg_callV (C := "HangGraph$Sweep") (As := [.ref (ad 8 (hits i))]) (rest := []) ⟨hx, hb, hml, hown, hts⟩ hK hN hMv (hO.1 3 (by decide)) rfl rfl rfl (c_enter hO hT (hits i) hiT.1 hE.1 hE.2.1) (cwV 1 hts (lg_V wm_S_76 wi_S_enter we_S_enter wn_S wc_S_enter) rfl rfl rfl ⟨rfl, by decide, by decide, rfl⟩ ⟨by rw [hR]; exact Nat.le_of_ble_eq_true rfl, by rw [hR]; exact Nat.le_of_ble_eq_true rfl⟩) rfl (Nat.le_of_ble_eq_true rfl) ⟨by rw [hR]; exact Nat.le_of_ble_eq_true rfl, by rw [hR]; exact Nat.le_of_ble_eq_true rfl⟩ rfl dS_walkFrom_56 (tg_kn rfl rfl ?_)
        refine tg_iinc (v := nI (k + 1)) (L' := [(0, .ref (ad 3 0)), (1, .ref (ad 8 f)), (2, .int (nI (k + 1))), (3, .ref (ad 8 (pa1 (G1 3 - 1)))), (4, .ref (ad 8 (hits i)))]) hx hb dS_walkFrom_59 rfl (nI_1 _) (by decide) rfl rfl ?_
        refine tg_goto (tgt := 7) hx hb dS_walkFrom_62 (by decide) ?_
        refine tg_sub (L' := [(0, .ref (ad 3 0)), (1, .ref (ad 8 f)), (2, .int (nI (k + 1)))]) (fun q hq => (List.mem_append_left [(3, .ref (ad 8 (pa1 (G1 3 - 1)))), (4, .ref (ad 8 (hits i)))] hq : q ∈ [(0, .ref (ad 3 0)), (1, .ref (ad 8 f)), (2, .int (nI (k + 1)))] ++ [(3, .ref (ad 8 (pa1 (G1 3 - 1)))), (4, .ref (ad 8 (hits i)))])) ?_
        refine ih (k + 1, (va_up (va_up (va_up G1 5 (G1 5 + 1)) 3 (G1 3 + 1)) 4 (G1 4 + 1)), (va_up (va_up a1 3 (va_up (a1 3) (G1 3) (some (ad 8 (hits i))))) 4 (va_up (a1 4) (G1 4) (some (ad 8 (hits i))))), (tg_up (tg_up N2 11 (hits i) (G1 5 + 1)) 12 (hits i) (G1 5 + 1)), va_up pa1 (G1 3) (hits i), va_up op1 (G1 4) (hits i)) ?_ (by dsimp only; omega)
        dsimp only
        exact ⟨⟨hS2.to (by rw [hg_oth _ _ _ (by decide), hg_oth _ _ _ (by decide)]) (by rw [hg_oth _ _ _ (by decide), hg_oth _ _ _ (by decide)]) (by simp [va_up]) (by simp [va_up]), by rw [hg_oth _ _ _ (by decide), hg_oth _ _ _ (by decide), hi5]; exact hE.2.2, fun j hj => by rw [hg_oth _ _ _ (by omega), hg_oth _ _ _ (by omega), hk2 j (by omega) (by omega)]; exact hN1 j hj, ⟨by simp [va_up, hG1.1], by simp [va_up, hG1.2.1], by simp [va_up, hG1.2.2]⟩, ⟨by simp [va_up, ha1.1], by simp [va_up, ha1.2.1], by simp [va_up, ha1.2.2]⟩, fun j u => by unfold tg_up; (repeat' split) <;> first | omega | exact hB2 _ _, fun q => by unfold va_up; (repeat' split) <;> first | omega | exact hBG1 q, fun u z => by rw [hg_oth _ _ _ (by decide), hg_oth _ _ _ (by decide), hk2 14 (by decide) (by decide)]; exact hm1 u z, by simp [va_up]; omega⟩, by rw [hg_oth _ _ _ (by decide), hg_col]; unfold va_up; split; omega; rw [hk2 11 (by decide) (by decide)]; exact hst1, by simp [va_up]; omega⟩
set_option maxRecDepth 100000 in
set_option maxHeartbeats 4000000 in
/-- all that are hit get round and rank -/
theorem c_rankHit (hO : hg_ok ok) (hT : ∀ f, T f → ok 8 f ∧ ok 9 f) (hMv : tg_Mv F Nn) (hB : ∀ j u, N j u < 1000000) (hBG : ∀ k, G k < 1000000) (hits pa op : Nat → Nat) (e9 : Nat → Nat → Prop) (hS : hg_SV T ad a G N bc sp e9 hits) (hD : hg_DV T ad a G N (N 13) e9 hits pa op) (h0 : G 3 = 0) : tg_Met l yS_rankHit wsS_rankHit ({ frames := 5, cells := 0, slots := 0, locals := 240 }) D vwCl (hg_tys cI cF cZ cJ cA cB) F Nn ad ok (hg_w ad cF cI G a dr N bc sp μ) [.ref (ad 3 0)] (tg_po ad ok fun r w1 => r = none ∧ ∃ a' G' N' pa' op', w1 = hg_w ad cF cI G' a' dr N' bc sp μ ∧ hg_WK T ad bc sp e9 hits a G N a' G' N' pa' op' ∧ G' 3 = 0 ∧ ∀ j, j < G 2 → N' 14 (hits j) ≠ 0) := by
  refine tg_start (cc := cS_rankHit) (maxL := 2) (ret := none) (by decide) rfl (Nat.le_of_ble_eq_true rfl) ?_
  intro p e R s m args below meth c Q hx hb hml hr hlocks hown hname hts hK hN hR hQ
  have hown : s.vm.findClass "HangGraph$Sweep" = some m.cls := hown
  have hts : ∀ w ∈ lw_g, w.before args s = true := fun w z => hts w (List.mem_cons_of_mem _ z)
  refine tg_iconst (v := nI 0) hx hb dS_rankHit_0 (by decide +kernel) ?_
  refine tg_istore_n (L' := [(0, .ref (ad 3 0)), (1, .int (nI (0)))]) hx hb dS_rankHit_1 rfl (by decide) rfl rfl ?_
  refine tg_loop (fun x : Nat × (Nat → Nat) × (Nat → Nat → Option Nat) × (Nat → Nat → Nat) × (Nat → Nat) × (Nat → Nat) => hg_WK T ad bc sp e9 hits a G N x.2.2.1 x.2.1 x.2.2.2.1 x.2.2.2.2.1 x.2.2.2.2.2 ∧ x.2.1 3 = 0 ∧ x.1 ≤ G 2 ∧ ∀ j, j < x.1 → x.2.2.2.1 14 (hits j) ≠ 0) (fun x => G 2 - x.1) (fun x => tg_W p l e R s m args below meth c Q 2 D vwCl F ad ok (hg_w ad cF cI x.2.1 x.2.2.1 dr x.2.2.2.1 bc sp μ) [(0, .ref (ad 3 0)), (1, .int (nI (x.1)))] 0 0 2 []) ?_ (0, G, a, N, pa, op) ⟨⟨hS, hD, fun _ _ => rfl, ⟨rfl, rfl, rfl⟩, ⟨rfl, rfl, rfl⟩, hB, hBG, fun _ z => z, Nat.le_refl _⟩, h0, Nat.zero_le _, fun j hj => absurd hj (Nat.not_lt_zero _)⟩
  intro ⟨i, G1, a1, N1, pa1, op1⟩ ⟨hWK, h30, hi0, hall⟩ ih
  dsimp only at hWK h30 hi0 hall ih ⊢
  have hWK' := hWK
  obtain ⟨hS1, hD1, hN1, hG1, ha1, hB1, hBG1, hm1, hl1⟩ := hWK
  have hG2 := hS1.2.1
  refine tg_iload_n hx hb dS_rankHit_2 rfl rfl ?_
  refine tg_aload_n hx hb dS_rankHit_3 rfl rfl ?_
  refine tg_get (T := TS) (N := 9) hx hb hts inS hown hK (hO.1 3 (by decide)) rfl rfl 3 (by decide) (hts _ wf_S_30) (fun _ z => z) rfl dS_rankHit_4 ?_
  have hb_1 := hBG1 2
  refine tg_icmp_ge (tgt := 38) hx hb dS_rankHit_7 (by decide) (fun q_2 => ?_) (fun q_2 => ?_)
  · have q_2' := q_2
    have h_3 : G1 2 ≤ i := (nI_leI (by omega) (by omega)).mp q_2
    have hG12 := hG1.2.2
    exact tg_vret hx hb hlocks hr hQ ⟨rfl, rfl, rfl, a1, G1, N1, pa1, op1, rfl, hWK', h30, fun j hj => hall j (by omega)⟩ dS_rankHit_38
  · have q_2' := q_2
    have h_4 : i < G1 2 := Nat.lt_of_not_le fun z => q_2 ((nI_leI (by omega) (by omega)).mpr z)
    have hi := hS1.2.2.1 i (by omega)
    refine tg_aload_n hx hb dS_rankHit_10 rfl rfl ?_
    refine tg_get (T := TS) (N := 9) hx hb hts inS hown hK (hO.1 3 (by decide)) rfl rfl 2 (by decide) (hts _ wf_S_17) (fun _ z => z) rfl dS_rankHit_11 ?_
    refine tg_iload_n hx hb dS_rankHit_14 rfl rfl ?_
    refine tg_aald (t0 := 1) hx hb hK (hO.1 5 (by decide)) rfl rfl (x := i) (by decide) (by omega) dS_rankHit_15 ?_
    refine tg_st (st' := .ref (ad 8 (hits i)) :: []) (by rw [hi.2]; rfl) ?_
    refine tg_get (T := TF) (N := 15) hx hb hts inF hown hK (hT (hits i) hi.1).1 rfl rfl 14 (by decide) (hts _ wf_S_70) (fun _ z => z) rfl dS_rankHit_16 ?_
    have hb_5 := hB1 14 (hits i)
    refine tg_if_ne (tgt := 32) hx hb dS_rankHit_19 (by decide) (fun q_6 => ?_) (fun q_6 => ?_)
    · have q_6' := q_6
      rw [← nI_0] at q_6
      have h_7 : N1 14 (hits i) ≠ 0 := fun z => q_6 ((nI_eq (by omega) (by omega)).mpr z)
      refine tg_iinc (v := nI (i + 1)) (L' := [(0, .ref (ad 3 0)), (1, .int (nI (i + 1)))]) hx hb dS_rankHit_32 rfl (nI_1 _) (by decide) rfl rfl ?_
      refine tg_goto (tgt := 2) hx hb dS_rankHit_35 (by decide) ?_
      exact ih (i + 1, G1, a1, N1, pa1, op1) ⟨hWK', h30, by dsimp only; omega, lt_s hall h_7⟩ (by dsimp only; omega)
    · have q_6' := q_6
      rw [← nI_0] at q_6
      have h_8 : N1 14 (hits i) = 0 := (nI_eq (by omega) (by omega)).mp q_6
      refine tg_aload_n hx hb dS_rankHit_22 rfl rfl ?_
      refine tg_aload_n hx hb dS_rankHit_23 rfl rfl ?_
      refine tg_get (T := TS) (N := 9) hx hb hts inS hown hK (hO.1 3 (by decide)) rfl rfl 2 (by decide) (hts _ wf_S_17) (fun _ z => z) rfl dS_rankHit_24 ?_
      refine tg_iload_n hx hb dS_rankHit_27 rfl rfl ?_
      refine tg_aald (t0 := 1) hx hb hK (hO.1 5 (by decide)) rfl rfl (x := i) (by decide) (by omega) dS_rankHit_28 ?_
      refine tg_st (st' := .ref (ad 8 (hits i)) :: [.ref (ad 3 0)]) (by rw [hi.2]; rfl) ?_
      refine tg_callV (C := "HangGraph$Sweep") (As := [.ref (ad 8 (hits i))]) (rest := []) ⟨hx, hb, hml, hown, hts⟩ hK hN hMv (hO.1 3 (by decide)) rfl rfl rfl (c_walkFrom hO hT hMv hB1 hBG1 hits pa1 op1 e9 hS1 hD1 h30 (hits i) ⟨i, by omega, rfl⟩ hi.1 (by omega)) (cwV 1 hts (lg_V wm_S_73 wi_S_walkFrom we_S_walkFrom wn_S wc_S_walkFrom) rfl rfl rfl ⟨rfl, by decide, by decide, rfl⟩ ⟨by rw [hR]; exact Nat.le_of_ble_eq_true rfl, by rw [hR]; exact Nat.le_of_ble_eq_true rfl⟩) rfl (Nat.le_of_ble_eq_true rfl) ⟨by rw [hR]; exact Nat.le_of_ble_eq_true rfl, by rw [hR]; exact Nat.le_of_ble_eq_true rfl⟩ rfl dS_rankHit_29 (tg_kk rfl rfl ?_)
      intro r w1 ⟨hr2, a2, G2_, N2, pa2, op2, hw2, hWK2', h32, hs2⟩
      rw [hr2, hw2]
      refine tg_st (st' := []) rfl ?_
      have hWK2 : hg_WK T ad bc sp e9 hits a G N a2 G2_ N2 pa2 op2 := by obtain ⟨w1, w2, w3, w4, w5, w6, w7, w8, w9⟩ := hWK2'; exact ⟨w1, w2, fun j hj => (w3 j hj).trans (hN1 j hj), ⟨w4.1.trans hG1.1, w4.2.1.trans hG1.2.1, w4.2.2.trans hG1.2.2⟩, ⟨w5.1.trans ha1.1, w5.2.1.trans ha1.2.1, w5.2.2.trans ha1.2.2⟩, w6, w7, fun u z => w8 u (hm1 u z), Nat.le_trans hl1 w9⟩
      refine tg_iinc (v := nI (i + 1)) (L' := [(0, .ref (ad 3 0)), (1, .int (nI (i + 1)))]) hx hb dS_rankHit_32 rfl (nI_1 _) (by decide) rfl rfl ?_
      refine tg_goto (tgt := 2) hx hb dS_rankHit_35 (by decide) ?_
      exact ih (i + 1, G2_, a2, N2, pa2, op2) ⟨hWK2, h32, by dsimp only; omega, lt_s (fun j hj => hWK2'.2.2.2.2.2.2.2.1 _ (hall j hj)) hs2⟩ (by dsimp only; omega)
end HGS4
end
section
/-! the reference's cells by kind: 11 the object; 12 there, 13 heights, 14 widths, 15 counts, 16 rectangles and 17 its rows, 18 dirty, 19 hit, 20 round, 21 rank, 22 hangs and 23 its rows, 24 met, 25 queue. M: a number by kind and place; B: by kind (17, 23), row and place -/
def mo_w (ad : Nat → Nat → Nat) (cI cZ cA cB : ClassId) (M : Nat → Nat → Nat) (B : Nat → Nat → Nat → Nat) (μ : Nat → Nat → va_E) (k i : Nat) : va_E := match k with
  | 11 => .inr (3, [.int (nI (M 11 0)), .ref (ad 12 0), .ref (ad 13 0), .ref (ad 14 0), .ref (ad 15 0), .ref (ad 16 0), .ref (ad 18 0), .ref (ad 19 0), .ref (ad 20 0), .ref (ad 21 0), .ref (ad 22 0), .ref (ad 24 0), .ref (ad 25 0)])
  | 12 => .inl (cZ, 400, .inl fun j => nI (M 12 j))
  | 13 => .inl (cI, 400, .inl fun j => nI (M 13 j))
  | 14 => .inl (cI, 400, .inl fun j => nI (M 14 j))
  | 15 => .inl (cI, 400, .inl fun j => nI (M 15 j))
  | 16 => .inl (cA, 400, .inr (.inr (.inr (.inr (fun j => some (ad 17 j))))))
  | 17 => .inl (cI, 80, .inl fun j => nI (B 17 i j))
  | 18 => .inl (cZ, 400, .inl fun j => nI (M 18 j))
  | 19 => .inl (cZ, 400, .inl fun j => nI (M 19 j))
  | 20 => .inl (cZ, 400, .inl fun j => nI (M 20 j))
  | 21 => .inl (cI, 400, .inl fun j => nI (M 21 j))
  | 22 => .inl (cB, 400, .inr (.inr (.inr (.inr (fun j => some (ad 23 j))))))
  | 23 => .inl (cZ, 400, .inl fun j => nI (B 23 i j))
  | 24 => .inl (cZ, 400, .inl fun j => nI (M 24 j))
  | 25 => .inl (cI, 400, .inl fun j => nI (M 25 j))
  | k => μ k i
/-- the cells of which there is one each, and the rows of the two grids -/
def mo_ok (ok : Nat → Nat → Prop) : Prop := (∀ k, 11 ≤ k → k < 26 → k ≠ 17 → k ≠ 23 → ok k 0) ∧ (∀ i, i < 400 → ok 17 i ∧ ok 23 i) ∧ ∀ k i, ok k i → 11 ≤ k → k < 26 → k ≠ 17 → k ≠ 23 → i = 0
theorem mo_upd (f : Nat → Nat) (x v : Nat) : upd (fun j => nI (f j)) x (nI v) = fun j => nI (va_up f x v j) := by
  funext j
  unfold upd va_up
  by_cases h : j = x
  · rw [if_pos h, if_pos h]
  · rw [if_neg h, if_neg h]
section MOW
variable {ad : Nat → Nat → Nat} {cI cZ cA cB : ClassId} {M : Nat → Nat → Nat} {B : Nat → Nat → Nat → Nat} {μ : Nat → Nat → va_E} {ok : Nat → Nat → Prop}
theorem mo_w_12 (hO : mo_ok ok) (x v : Nat) : ∀ k i, ok k i → tg_up (mo_w ad cI cZ cA cB M B μ) 12 0 (.inl (cZ, 400, .inl (upd (fun j => nI (M 12 j)) x (nI v)))) k i = mo_w ad cI cZ cA cB (tg_up M 12 x v) B μ k i := by
  intro k i ho
  by_cases hk : k = 12
  · subst hk
    have hi := hO.2.2 12 i ho (by decide) (by decide) (by decide) (by decide)
    subst hi
    rw [tg_up_self, mo_upd]
    show Sum.inl _ = Sum.inl _
    congr 4
    funext j
    rw [hg_colA]
  · rw [tg_up_ne _ _ (fun z => hk z.1)]
    unfold mo_w
    split <;> first | rfl | (simp [tg_up]; done) | exact absurd rfl hk
theorem mo_w_13 (hO : mo_ok ok) (x v : Nat) : ∀ k i, ok k i → tg_up (mo_w ad cI cZ cA cB M B μ) 13 0 (.inl (cI, 400, .inl (upd (fun j => nI (M 13 j)) x (nI v)))) k i = mo_w ad cI cZ cA cB (tg_up M 13 x v) B μ k i := by
  intro k i ho
  by_cases hk : k = 13
  · subst hk
    have hi := hO.2.2 13 i ho (by decide) (by decide) (by decide) (by decide)
    subst hi
    rw [tg_up_self, mo_upd]
    show Sum.inl _ = Sum.inl _
    congr 4
    funext j
    rw [hg_colA]
  · rw [tg_up_ne _ _ (fun z => hk z.1)]
    unfold mo_w
    split <;> first | rfl | (simp [tg_up]; done) | exact absurd rfl hk
theorem mo_w_14 (hO : mo_ok ok) (x v : Nat) : ∀ k i, ok k i → tg_up (mo_w ad cI cZ cA cB M B μ) 14 0 (.inl (cI, 400, .inl (upd (fun j => nI (M 14 j)) x (nI v)))) k i = mo_w ad cI cZ cA cB (tg_up M 14 x v) B μ k i := by
  intro k i ho
  by_cases hk : k = 14
  · subst hk
    have hi := hO.2.2 14 i ho (by decide) (by decide) (by decide) (by decide)
    subst hi
    rw [tg_up_self, mo_upd]
    show Sum.inl _ = Sum.inl _
    congr 4
    funext j
    rw [hg_colA]
  · rw [tg_up_ne _ _ (fun z => hk z.1)]
    unfold mo_w
    split <;> first | rfl | (simp [tg_up]; done) | exact absurd rfl hk
theorem mo_w_15 (hO : mo_ok ok) (x v : Nat) : ∀ k i, ok k i → tg_up (mo_w ad cI cZ cA cB M B μ) 15 0 (.inl (cI, 400, .inl (upd (fun j => nI (M 15 j)) x (nI v)))) k i = mo_w ad cI cZ cA cB (tg_up M 15 x v) B μ k i := by
  intro k i ho
  by_cases hk : k = 15
  · subst hk
    have hi := hO.2.2 15 i ho (by decide) (by decide) (by decide) (by decide)
    subst hi
    rw [tg_up_self, mo_upd]
    show Sum.inl _ = Sum.inl _
    congr 4
    funext j
    rw [hg_colA]
  · rw [tg_up_ne _ _ (fun z => hk z.1)]
    unfold mo_w
    split <;> first | rfl | (simp [tg_up]; done) | exact absurd rfl hk
theorem mo_w_18 (hO : mo_ok ok) (x v : Nat) : ∀ k i, ok k i → tg_up (mo_w ad cI cZ cA cB M B μ) 18 0 (.inl (cZ, 400, .inl (upd (fun j => nI (M 18 j)) x (nI v)))) k i = mo_w ad cI cZ cA cB (tg_up M 18 x v) B μ k i := by
  intro k i ho
  by_cases hk : k = 18
  · subst hk
    have hi := hO.2.2 18 i ho (by decide) (by decide) (by decide) (by decide)
    subst hi
    rw [tg_up_self, mo_upd]
    show Sum.inl _ = Sum.inl _
    congr 4
    funext j
    rw [hg_colA]
  · rw [tg_up_ne _ _ (fun z => hk z.1)]
    unfold mo_w
    split <;> first | rfl | (simp [tg_up]; done) | exact absurd rfl hk
theorem mo_w_19 (hO : mo_ok ok) (x v : Nat) : ∀ k i, ok k i → tg_up (mo_w ad cI cZ cA cB M B μ) 19 0 (.inl (cZ, 400, .inl (upd (fun j => nI (M 19 j)) x (nI v)))) k i = mo_w ad cI cZ cA cB (tg_up M 19 x v) B μ k i := by
  intro k i ho
  by_cases hk : k = 19
  · subst hk
    have hi := hO.2.2 19 i ho (by decide) (by decide) (by decide) (by decide)
    subst hi
    rw [tg_up_self, mo_upd]
    show Sum.inl _ = Sum.inl _
    congr 4
    funext j
    rw [hg_colA]
  · rw [tg_up_ne _ _ (fun z => hk z.1)]
    unfold mo_w
    split <;> first | rfl | (simp [tg_up]; done) | exact absurd rfl hk
theorem mo_w_20 (hO : mo_ok ok) (x v : Nat) : ∀ k i, ok k i → tg_up (mo_w ad cI cZ cA cB M B μ) 20 0 (.inl (cZ, 400, .inl (upd (fun j => nI (M 20 j)) x (nI v)))) k i = mo_w ad cI cZ cA cB (tg_up M 20 x v) B μ k i := by
  intro k i ho
  by_cases hk : k = 20
  · subst hk
    have hi := hO.2.2 20 i ho (by decide) (by decide) (by decide) (by decide)
    subst hi
    rw [tg_up_self, mo_upd]
    show Sum.inl _ = Sum.inl _
    congr 4
    funext j
    rw [hg_colA]
  · rw [tg_up_ne _ _ (fun z => hk z.1)]
    unfold mo_w
    split <;> first | rfl | (simp [tg_up]; done) | exact absurd rfl hk
theorem mo_w_21 (hO : mo_ok ok) (x v : Nat) : ∀ k i, ok k i → tg_up (mo_w ad cI cZ cA cB M B μ) 21 0 (.inl (cI, 400, .inl (upd (fun j => nI (M 21 j)) x (nI v)))) k i = mo_w ad cI cZ cA cB (tg_up M 21 x v) B μ k i := by
  intro k i ho
  by_cases hk : k = 21
  · subst hk
    have hi := hO.2.2 21 i ho (by decide) (by decide) (by decide) (by decide)
    subst hi
    rw [tg_up_self, mo_upd]
    show Sum.inl _ = Sum.inl _
    congr 4
    funext j
    rw [hg_colA]
  · rw [tg_up_ne _ _ (fun z => hk z.1)]
    unfold mo_w
    split <;> first | rfl | (simp [tg_up]; done) | exact absurd rfl hk
theorem mo_w_24 (hO : mo_ok ok) (x v : Nat) : ∀ k i, ok k i → tg_up (mo_w ad cI cZ cA cB M B μ) 24 0 (.inl (cZ, 400, .inl (upd (fun j => nI (M 24 j)) x (nI v)))) k i = mo_w ad cI cZ cA cB (tg_up M 24 x v) B μ k i := by
  intro k i ho
  by_cases hk : k = 24
  · subst hk
    have hi := hO.2.2 24 i ho (by decide) (by decide) (by decide) (by decide)
    subst hi
    rw [tg_up_self, mo_upd]
    show Sum.inl _ = Sum.inl _
    congr 4
    funext j
    rw [hg_colA]
  · rw [tg_up_ne _ _ (fun z => hk z.1)]
    unfold mo_w
    split <;> first | rfl | (simp [tg_up]; done) | exact absurd rfl hk
theorem mo_w_25 (hO : mo_ok ok) (x v : Nat) : ∀ k i, ok k i → tg_up (mo_w ad cI cZ cA cB M B μ) 25 0 (.inl (cI, 400, .inl (upd (fun j => nI (M 25 j)) x (nI v)))) k i = mo_w ad cI cZ cA cB (tg_up M 25 x v) B μ k i := by
  intro k i ho
  by_cases hk : k = 25
  · subst hk
    have hi := hO.2.2 25 i ho (by decide) (by decide) (by decide) (by decide)
    subst hi
    rw [tg_up_self, mo_upd]
    show Sum.inl _ = Sum.inl _
    congr 4
    funext j
    rw [hg_colA]
  · rw [tg_up_ne _ _ (fun z => hk z.1)]
    unfold mo_w
    split <;> first | rfl | (simp [tg_up]; done) | exact absurd rfl hk
theorem mo_w_11 (hO : mo_ok ok) (v : Nat) : ∀ k i, ok k i → tg_up (mo_w ad cI cZ cA cB M B μ) 11 0 (.inr (3, ([.int (nI (M 11 0)), .ref (ad 12 0), .ref (ad 13 0), .ref (ad 14 0), .ref (ad 15 0), .ref (ad 16 0), .ref (ad 18 0), .ref (ad 19 0), .ref (ad 20 0), .ref (ad 21 0), .ref (ad 22 0), .ref (ad 24 0), .ref (ad 25 0)] : List Value).set 0 (.int (nI v)))) k i = mo_w ad cI cZ cA cB (tg_up M 11 0 v) B μ k i := by
  intro k i ho
  by_cases hk : k = 11
  · subst hk
    have hi := hO.2.2 11 i ho (by decide) (by decide) (by decide) (by decide)
    subst hi
    rw [tg_up_self]
    simp [mo_w, tg_up]
  · rw [tg_up_ne _ _ (fun z => hk z.1)]
    unfold mo_w
    split <;> first | rfl | (simp [tg_up]; done) | exact absurd rfl hk
theorem mo_w_17 (u x v : Nat) : tg_up (mo_w ad cI cZ cA cB M B μ) 17 u (.inl (cI, 80, .inl (upd (fun j => nI (B 17 u j)) x (nI v)))) = mo_w ad cI cZ cA cB M (tg_up B 17 u (va_up (B 17 u) x v)) μ := by
  funext k i
  by_cases h : k = 17 ∧ i = u
  · obtain ⟨rfl, rfl⟩ := h
    rw [tg_up_self, mo_upd]
    show Sum.inl _ = Sum.inl _
    congr 4
    funext j
    rw [tg_up_self]
  · rw [tg_up_ne _ _ h]
    by_cases hk : k = 17
    · subst hk
      have hi : i ≠ u := fun z => h ⟨rfl, z⟩
      show Sum.inl _ = Sum.inl _
      congr 4
      funext j
      rw [tg_up_ne _ _ (fun z => hi z.2)]
    · unfold mo_w
      split <;> first | rfl | (simp [tg_up]; done) | exact absurd rfl hk
theorem mo_w_23 (u x v : Nat) : tg_up (mo_w ad cI cZ cA cB M B μ) 23 u (.inl (cZ, 400, .inl (upd (fun j => nI (B 23 u j)) x (nI v)))) = mo_w ad cI cZ cA cB M (tg_up B 23 u (va_up (B 23 u) x v)) μ := by
  funext k i
  by_cases h : k = 23 ∧ i = u
  · obtain ⟨rfl, rfl⟩ := h
    rw [tg_up_self, mo_upd]
    show Sum.inl _ = Sum.inl _
    congr 4
    funext j
    rw [tg_up_self]
  · rw [tg_up_ne _ _ h]
    by_cases hk : k = 23
    · subst hk
      have hi : i ≠ u := fun z => h ⟨rfl, z⟩
      show Sum.inl _ = Sum.inl _
      congr 4
      funext j
      rw [tg_up_ne _ _ (fun z => hi z.2)]
    · unfold mo_w
      split <;> first | rfl | (simp [tg_up]; done) | exact absurd rfl hk
end MOW
end
section
/-! the face's small helpers -/
section HGA
variable {l : Launch} {D : va_G} {F : Nat → Prop} {Nn : State → Heap → Prop} {ad : Nat → Nat → Nat} {ok : Nat → Nat → Prop} {cF cI cZ cJ cA cB : ClassId} {G : Nat → Nat} {a : Nat → Nat → Option Nat} {dr : Nat → Int32} {N : Nat → Nat → Nat} {bc : Nat → Int32} {sp : Nat → Nat → Int32} {μ : Nat → Nat → va_E} {T : Nat → Prop} {w : Nat → Nat → va_E}
set_option maxRecDepth 100000 in
set_option maxHeartbeats 4000000 in
/-- a cell's number -/
theorem c_cellAt (x y : Nat) : tg_Met l yH_cellAt wsH_cellAt ({ frames := 0, cells := 0, slots := 0, locals := 0 }) D vwCl (hg_tys cI cF cZ cJ cA cB) F Nn ad ok w [.int (nI (x)), .int (nI (y))] (tg_po ad ok fun r w1 => r = some (.int (nI (20 * x + y))) ∧ w1 = w) := by
  refine tg_start (cc := cH_cellAt) (maxL := 2) (ret := some .int) (by decide) rfl (Nat.le_of_ble_eq_true rfl) ?_
  intro p e R s m args below meth c Q hx hb hml hr hlocks hown hname hts hK hN hR hQ
  have hown : s.vm.findClass "HangGraph" = some m.cls := hown
  have hts : ∀ w ∈ lw_g, w.before args s = true := fun w z => hts w (List.mem_cons_of_mem _ z)
  refine tg_bipush (v := nI 20) hx hb dH_cellAt_0 (by decide +kernel) ?_
  refine tg_iload_n hx hb dH_cellAt_2 rfl rfl ?_
  refine tg_imul hx hb dH_cellAt_3 ?_
  refine tg_top (y := nI ((20) * (x))) (pk_mul _ _) ?_
  refine tg_iload_n hx hb dH_cellAt_4 rfl rfl ?_
  refine tg_iadd hx hb dH_cellAt_5 ?_
  refine tg_top (y := nI (((20) * (x)) + (y))) (nI_add _ _) ?_
  exact tg_iret hx hb hlocks hr hQ ⟨rfl, rfl, rfl, rfl⟩ dH_cellAt_6
set_option maxRecDepth 100000 in
set_option maxHeartbeats 4000000 in
/-- the bits of columns -/
theorem c_columnBits (x y : Nat) (hxy : x ≤ y) (hy : y < 20) : tg_Met l yH_columnBits wsH_columnBits ({ frames := 0, cells := 0, slots := 0, locals := 0 }) D vwCl (hg_tys cI cF cZ cJ cA cB) F Nn ad ok w [.int (nI (x)), .int (nI (y))] (tg_po ad ok fun r w1 => r = some (.int (hg_cb x y)) ∧ w1 = w) := by
  refine tg_start (cc := cH_columnBits) (maxL := 2) (ret := some .int) (by decide) rfl (Nat.le_of_ble_eq_true rfl) ?_
  intro p e R s m args below meth c Q hx hb hml hr hlocks hown hname hts hK hN hR hQ
  have hown : s.vm.findClass "HangGraph" = some m.cls := hown
  have hts : ∀ w ∈ lw_g, w.before args s = true := fun w z => hts w (List.mem_cons_of_mem _ z)
  refine tg_iconst (v := nI 1) hx hb dH_columnBits_0 (by decide +kernel) ?_
  refine tg_iload_n hx hb dH_columnBits_1 rfl rfl ?_
  refine tg_iload_n hx hb dH_columnBits_2 rfl rfl ?_
  refine tg_isub hx hb dH_columnBits_3 ?_
  refine tg_top (y := nI ((y) - (x))) (pk_sub (by omega)) ?_
  refine tg_iconst (v := nI 1) hx hb dH_columnBits_4 (by decide +kernel) ?_
  refine tg_iadd hx hb dH_columnBits_5 ?_
  refine tg_top (y := nI (((y) - (x)) + (1))) (nI_add _ _) ?_
  refine tg_ishl hx hb dH_columnBits_6 ?_
  refine tg_iconst (v := nI 1) hx hb dH_columnBits_7 (by decide +kernel) ?_
  refine tg_isub hx hb dH_columnBits_8 ?_
  refine tg_iload_n hx hb dH_columnBits_9 rfl rfl ?_
  refine tg_ishl hx hb dH_columnBits_10 ?_
  exact tg_iret hx hb hlocks hr hQ ⟨rfl, rfl, rfl, rfl⟩ dH_columnBits_11
set_option maxRecDepth 100000 in
set_option maxHeartbeats 4000000 in
/-- a cell on the grid -/
theorem c_requireCell (x y : Nat) (hx9 : x < 20) (hy9 : y < 20) : tg_Met l yH_requireCell wsH_requireCell ({ frames := 0, cells := 0, slots := 0, locals := 0 }) D vwCl (hg_tys cI cF cZ cJ cA cB) F Nn ad ok w [.int (nI (x)), .int (nI (y))] (tg_po ad ok fun r w1 => r = none ∧ w1 = w) := by
  refine tg_start (cc := cH_requireCell) (maxL := 2) (ret := none) (by decide) rfl (Nat.le_of_ble_eq_true rfl) ?_
  intro p e R s m args below meth c Q hx hb hml hr hlocks hown hname hts hK hN hR hQ
  have hown : s.vm.findClass "HangGraph" = some m.cls := hown
  have hts : ∀ w ∈ lw_g, w.before args s = true := fun w z => hts w (List.mem_cons_of_mem _ z)
  refine tg_iload_n hx hb dH_requireCell_0 rfl rfl ?_
  refine tg_if_lt (tgt := 20) hx hb dH_requireCell_1 (by decide) (fun q_1 => ?_) (fun q_1 => ?_)
  · have q_1' := q_1
    rw [← nI_0] at q_1
    have h_2 : x < 0 := (nI_ltI (by omega) (by omega)).mp q_1
    omega
  · have q_1' := q_1
    rw [← nI_0] at q_1
    have h_3 : 0 ≤ x := Nat.le_of_not_lt fun z => q_1 ((nI_ltI (by omega) (by omega)).mpr z)
    refine tg_iload_n hx hb dH_requireCell_4 rfl rfl ?_
    refine tg_bipush (v := nI 20) hx hb dH_requireCell_5 (by decide +kernel) ?_
    refine tg_icmp_ge (tgt := 20) hx hb dH_requireCell_7 (by decide) (fun q_4 => ?_) (fun q_4 => ?_)
    · have q_4' := q_4
      have h_5 : 20 ≤ x := (nI_leI (by omega) (by omega)).mp q_4
      omega
    · have q_4' := q_4
      have h_6 : x < 20 := Nat.lt_of_not_le fun z => q_4 ((nI_leI (by omega) (by omega)).mpr z)
      refine tg_iload_n hx hb dH_requireCell_10 rfl rfl ?_
      refine tg_if_lt (tgt := 20) hx hb dH_requireCell_11 (by decide) (fun q_7 => ?_) (fun q_7 => ?_)
      · have q_7' := q_7
        rw [← nI_0] at q_7
        have h_8 : y < 0 := (nI_ltI (by omega) (by omega)).mp q_7
        omega
      · have q_7' := q_7
        rw [← nI_0] at q_7
        have h_9 : 0 ≤ y := Nat.le_of_not_lt fun z => q_7 ((nI_ltI (by omega) (by omega)).mpr z)
        refine tg_iload_n hx hb dH_requireCell_14 rfl rfl ?_
        refine tg_bipush (v := nI 20) hx hb dH_requireCell_15 (by decide +kernel) ?_
        refine tg_icmp_lt (tgt := 30) hx hb dH_requireCell_17 (by decide) (fun q_10 => ?_) (fun q_10 => ?_)
        · have q_10' := q_10
          have h_11 : y < 20 := (nI_ltI (by omega) (by omega)).mp q_10
          exact tg_vret hx hb hlocks hr hQ ⟨rfl, rfl, rfl, rfl⟩ dH_requireCell_30
        · have q_10' := q_10
          have h_12 : 20 ≤ y := Nat.le_of_not_lt fun z => q_10 ((nI_ltI (by omega) (by omega)).mpr z)
          omega
set_option maxRecDepth 100000 in
set_option maxHeartbeats 4000000 in
/-- a block that fits -/
theorem c_requireFits (x y : Nat) (hx9 : x < 20) (hy1 : 1 ≤ y) (hy9 : y ≤ 20 - x) : tg_Met l yH_requireFits wsH_requireFits ({ frames := 0, cells := 0, slots := 0, locals := 0 }) D vwCl (hg_tys cI cF cZ cJ cA cB) F Nn ad ok w [.int (nI (x)), .int (nI (y))] (tg_po ad ok fun r w1 => r = none ∧ w1 = w) := by
  refine tg_start (cc := cH_requireFits) (maxL := 2) (ret := none) (by decide) rfl (Nat.le_of_ble_eq_true rfl) ?_
  intro p e R s m args below meth c Q hx hb hml hr hlocks hown hname hts hK hN hR hQ
  have hown : s.vm.findClass "HangGraph" = some m.cls := hown
  have hts : ∀ w ∈ lw_g, w.before args s = true := fun w z => hts w (List.mem_cons_of_mem _ z)
  refine tg_iload_n hx hb dH_requireFits_0 rfl rfl ?_
  refine tg_iconst (v := nI 1) hx hb dH_requireFits_1 (by decide +kernel) ?_
  refine tg_icmp_lt (tgt := 13) hx hb dH_requireFits_2 (by decide) (fun q_1 => ?_) (fun q_1 => ?_)
  · have q_1' := q_1
    have h_2 : y < 1 := (nI_ltI (by omega) (by omega)).mp q_1
    omega
  · have q_1' := q_1
    have h_3 : 1 ≤ y := Nat.le_of_not_lt fun z => q_1 ((nI_ltI (by omega) (by omega)).mpr z)
    refine tg_iload_n hx hb dH_requireFits_5 rfl rfl ?_
    refine tg_bipush (v := nI 20) hx hb dH_requireFits_6 (by decide +kernel) ?_
    refine tg_iload_n hx hb dH_requireFits_8 rfl rfl ?_
    refine tg_isub hx hb dH_requireFits_9 ?_
    refine tg_top (y := nI ((20) - (x))) (pk_sub (by omega)) ?_
    refine tg_icmp_le (tgt := 23) hx hb dH_requireFits_10 (by decide) (fun q_4 => ?_) (fun q_4 => ?_)
    · have q_4' := q_4
      have h_5 : y ≤ (20) - (x) := (nI_leI (by omega) (by omega)).mp q_4
      exact tg_vret hx hb hlocks hr hQ ⟨rfl, rfl, rfl, rfl⟩ dH_requireFits_23
    · have q_4' := q_4
      have h_6 : (20) - (x) < y := Nat.lt_of_not_le fun z => q_4 ((nI_leI (by omega) (by omega)).mpr z)
      omega
set_option maxRecDepth 100000 in
set_option maxHeartbeats 4000000 in
/-- a span on the grid -/
theorem c_requireSpan (x y : Nat) (hxy : x ≤ y) (hy9 : y < 20) : tg_Met l yH_requireSpan wsH_requireSpan ({ frames := 0, cells := 0, slots := 0, locals := 0 }) D vwCl (hg_tys cI cF cZ cJ cA cB) F Nn ad ok w [.int (nI (x)), .int (nI (y))] (tg_po ad ok fun r w1 => r = none ∧ w1 = w) := by
  refine tg_start (cc := cH_requireSpan) (maxL := 2) (ret := none) (by decide) rfl (Nat.le_of_ble_eq_true rfl) ?_
  intro p e R s m args below meth c Q hx hb hml hr hlocks hown hname hts hK hN hR hQ
  have hown : s.vm.findClass "HangGraph" = some m.cls := hown
  have hts : ∀ w ∈ lw_g, w.before args s = true := fun w z => hts w (List.mem_cons_of_mem _ z)
  refine tg_iload_n hx hb dH_requireSpan_0 rfl rfl ?_
  refine tg_if_lt (tgt := 15) hx hb dH_requireSpan_1 (by decide) (fun q_1 => ?_) (fun q_1 => ?_)
  · have q_1' := q_1
    rw [← nI_0] at q_1
    have h_2 : x < 0 := (nI_ltI (by omega) (by omega)).mp q_1
    omega
  · have q_1' := q_1
    rw [← nI_0] at q_1
    have h_3 : 0 ≤ x := Nat.le_of_not_lt fun z => q_1 ((nI_ltI (by omega) (by omega)).mpr z)
    refine tg_iload_n hx hb dH_requireSpan_4 rfl rfl ?_
    refine tg_iload_n hx hb dH_requireSpan_5 rfl rfl ?_
    refine tg_icmp_gt (tgt := 15) hx hb dH_requireSpan_6 (by decide) (fun q_4 => ?_) (fun q_4 => ?_)
    · have q_4' := q_4
      have h_5 : y < x := (nI_ltI (by omega) (by omega)).mp q_4
      omega
    · have q_4' := q_4
      have h_6 : x ≤ y := Nat.le_of_not_lt fun z => q_4 ((nI_ltI (by omega) (by omega)).mpr z)
      refine tg_iload_n hx hb dH_requireSpan_9 rfl rfl ?_
      refine tg_bipush (v := nI 20) hx hb dH_requireSpan_10 (by decide +kernel) ?_
      refine tg_icmp_lt (tgt := 25) hx hb dH_requireSpan_12 (by decide) (fun q_7 => ?_) (fun q_7 => ?_)
      · have q_7' := q_7
        have h_8 : y < 20 := (nI_ltI (by omega) (by omega)).mp q_7
        exact tg_vret hx hb hlocks hr hQ ⟨rfl, rfl, rfl, rfl⟩ dH_requireSpan_25
      · have q_7' := q_7
        have h_9 : 20 ≤ y := Nat.le_of_not_lt fun z => q_7 ((nI_ltI (by omega) (by omega)).mpr z)
        omega
def hg_bC (p q : Int32) : Prop := p < 0 ∨ nI 20 ≤ p ∨ q < 0 ∨ ¬ q < nI 20
def hg_bF (x : Nat) (p : Int32) : Prop := p < nI 1 ∨ ¬ p ≤ nI (20 - x)
def hg_bS (p q : Int32) : Prop := p < 0 ∨ q < p ∨ ¬ q < nI 20
set_option maxRecDepth 100000 in
set_option maxHeartbeats 4000000 in
/-- no such cell -/
theorem t_requireCell (hl9 : l.stackTraces = false) (p9 q9 : Int32) (hbad : hg_bC p9 q9) : tg_MetT l yH_requireCell wsH_requireCell ({ frames := 6, cells := 1, slots := 6, locals := 90 }) D vwCl (hg_tys cI cF cZ cJ cA cB) F (hg_N F) ad ok w [.int (p9), .int (q9)] "java/lang/IllegalArgumentException" := by
  refine tg_startT (cc := cH_requireCell) (maxL := 2) (ret := none) (by decide) rfl (Nat.le_of_ble_eq_true rfl) ?_
  intro p e R s m args below meth c Q hx hb hml hr hlocks hown hts hK hN hnt hR hQ
  have hown : s.vm.findClass "HangGraph" = some m.cls := hown
  have hts : ∀ w ∈ lw_g, w.before args s = true := fun w z => hts w (List.mem_cons_of_mem _ z)
  have hMv := hg_Mv F
  refine tg_iload_n hx hb dH_requireCell_0 rfl rfl ?_
  refine tg_if_lt (tgt := 20) hx hb dH_requireCell_1 (by decide) (fun q_1 => ?_) (fun q_1 => ?_)
  · have q_1' := q_1
    exact tg_throw hx hb hml hl9 hown hts hN (by decide) (by decide +kernel) wk_H_91 wn_java_lang_IllegalArgumentException (show ((112, "no such cell") : Nat × String) ∈ hg_strs by decide) hg_at_IAE1 hg_at_IAE2 hg_ot_IAE hnt hlocks hQ dH_requireCell_20 dH_requireCell_23 dH_requireCell_24 dH_requireCell_26 dH_requireCell_29 (by rw [hR]; exact Nat.le_of_ble_eq_true rfl) (by rw [hR]; exact Nat.le_of_ble_eq_true rfl) (by rw [hR]; exact Nat.le_of_ble_eq_true rfl) (by rw [hR]; exact Nat.le_of_ble_eq_true rfl) (Nat.le_of_ble_eq_true rfl) (Nat.le_of_ble_eq_true rfl)
  · have q_1' := q_1
    refine tg_iload_n hx hb dH_requireCell_4 rfl rfl ?_
    refine tg_bipush (v := nI 20) hx hb dH_requireCell_5 (by decide +kernel) ?_
    refine tg_icmp_ge (tgt := 20) hx hb dH_requireCell_7 (by decide) (fun q_2 => ?_) (fun q_2 => ?_)
    · have q_2' := q_2
      exact tg_throw hx hb hml hl9 hown hts hN (by decide) (by decide +kernel) wk_H_91 wn_java_lang_IllegalArgumentException (show ((112, "no such cell") : Nat × String) ∈ hg_strs by decide) hg_at_IAE1 hg_at_IAE2 hg_ot_IAE hnt hlocks hQ dH_requireCell_20 dH_requireCell_23 dH_requireCell_24 dH_requireCell_26 dH_requireCell_29 (by rw [hR]; exact Nat.le_of_ble_eq_true rfl) (by rw [hR]; exact Nat.le_of_ble_eq_true rfl) (by rw [hR]; exact Nat.le_of_ble_eq_true rfl) (by rw [hR]; exact Nat.le_of_ble_eq_true rfl) (Nat.le_of_ble_eq_true rfl) (Nat.le_of_ble_eq_true rfl)
    · have q_2' := q_2
      refine tg_iload_n hx hb dH_requireCell_10 rfl rfl ?_
      refine tg_if_lt (tgt := 20) hx hb dH_requireCell_11 (by decide) (fun q_3 => ?_) (fun q_3 => ?_)
      · have q_3' := q_3
        exact tg_throw hx hb hml hl9 hown hts hN (by decide) (by decide +kernel) wk_H_91 wn_java_lang_IllegalArgumentException (show ((112, "no such cell") : Nat × String) ∈ hg_strs by decide) hg_at_IAE1 hg_at_IAE2 hg_ot_IAE hnt hlocks hQ dH_requireCell_20 dH_requireCell_23 dH_requireCell_24 dH_requireCell_26 dH_requireCell_29 (by rw [hR]; exact Nat.le_of_ble_eq_true rfl) (by rw [hR]; exact Nat.le_of_ble_eq_true rfl) (by rw [hR]; exact Nat.le_of_ble_eq_true rfl) (by rw [hR]; exact Nat.le_of_ble_eq_true rfl) (Nat.le_of_ble_eq_true rfl) (Nat.le_of_ble_eq_true rfl)
      · have q_3' := q_3
        refine tg_iload_n hx hb dH_requireCell_14 rfl rfl ?_
        refine tg_bipush (v := nI 20) hx hb dH_requireCell_15 (by decide +kernel) ?_
        refine tg_icmp_lt (tgt := 30) hx hb dH_requireCell_17 (by decide) (fun q_4 => ?_) (fun q_4 => ?_)
        · have q_4' := q_4
          rcases hbad with z | z | z | z
          · exact absurd z q_1'
          · exact absurd z q_2'
          · exact absurd z q_3'
          · exact absurd q_4' z
        · have q_4' := q_4
          exact tg_throw hx hb hml hl9 hown hts hN (by decide) (by decide +kernel) wk_H_91 wn_java_lang_IllegalArgumentException (show ((112, "no such cell") : Nat × String) ∈ hg_strs by decide) hg_at_IAE1 hg_at_IAE2 hg_ot_IAE hnt hlocks hQ dH_requireCell_20 dH_requireCell_23 dH_requireCell_24 dH_requireCell_26 dH_requireCell_29 (by rw [hR]; exact Nat.le_of_ble_eq_true rfl) (by rw [hR]; exact Nat.le_of_ble_eq_true rfl) (by rw [hR]; exact Nat.le_of_ble_eq_true rfl) (by rw [hR]; exact Nat.le_of_ble_eq_true rfl) (Nat.le_of_ble_eq_true rfl) (Nat.le_of_ble_eq_true rfl)
set_option maxRecDepth 100000 in
set_option maxHeartbeats 4000000 in
/-- a block that is empty or doesn't fit -/
theorem t_requireFits (hl9 : l.stackTraces = false) (x : Nat) (hx9 : x < 20) (q9 : Int32) (hbad : hg_bF x q9) : tg_MetT l yH_requireFits wsH_requireFits ({ frames := 6, cells := 1, slots := 6, locals := 90 }) D vwCl (hg_tys cI cF cZ cJ cA cB) F (hg_N F) ad ok w [.int (nI (x)), .int (q9)] "java/lang/IllegalArgumentException" := by
  refine tg_startT (cc := cH_requireFits) (maxL := 2) (ret := none) (by decide) rfl (Nat.le_of_ble_eq_true rfl) ?_
  intro p e R s m args below meth c Q hx hb hml hr hlocks hown hts hK hN hnt hR hQ
  have hown : s.vm.findClass "HangGraph" = some m.cls := hown
  have hts : ∀ w ∈ lw_g, w.before args s = true := fun w z => hts w (List.mem_cons_of_mem _ z)
  have hMv := hg_Mv F
  refine tg_iload_n hx hb dH_requireFits_0 rfl rfl ?_
  refine tg_iconst (v := nI 1) hx hb dH_requireFits_1 (by decide +kernel) ?_
  refine tg_icmp_lt (tgt := 13) hx hb dH_requireFits_2 (by decide) (fun q_1 => ?_) (fun q_1 => ?_)
  · have q_1' := q_1
    exact tg_throw hx hb hml hl9 hown hts hN (by decide) (by decide +kernel) wk_H_91 wn_java_lang_IllegalArgumentException (show ((114, "the block is empty or beyond the grid") : Nat × String) ∈ hg_strs by decide) hg_at_IAE1 hg_at_IAE2 hg_ot_IAE hnt hlocks hQ dH_requireFits_13 dH_requireFits_16 dH_requireFits_17 dH_requireFits_19 dH_requireFits_22 (by rw [hR]; exact Nat.le_of_ble_eq_true rfl) (by rw [hR]; exact Nat.le_of_ble_eq_true rfl) (by rw [hR]; exact Nat.le_of_ble_eq_true rfl) (by rw [hR]; exact Nat.le_of_ble_eq_true rfl) (Nat.le_of_ble_eq_true rfl) (Nat.le_of_ble_eq_true rfl)
  · have q_1' := q_1
    refine tg_iload_n hx hb dH_requireFits_5 rfl rfl ?_
    refine tg_bipush (v := nI 20) hx hb dH_requireFits_6 (by decide +kernel) ?_
    refine tg_iload_n hx hb dH_requireFits_8 rfl rfl ?_
    refine tg_isub hx hb dH_requireFits_9 ?_
    refine tg_top (y := nI ((20) - (x))) (pk_sub (by omega)) ?_
    refine tg_icmp_le (tgt := 23) hx hb dH_requireFits_10 (by decide) (fun q_2 => ?_) (fun q_2 => ?_)
    · have q_2' := q_2
      rcases hbad with z | z
      · exact absurd z q_1'
      · exact absurd q_2' z
    · have q_2' := q_2
      exact tg_throw hx hb hml hl9 hown hts hN (by decide) (by decide +kernel) wk_H_91 wn_java_lang_IllegalArgumentException (show ((114, "the block is empty or beyond the grid") : Nat × String) ∈ hg_strs by decide) hg_at_IAE1 hg_at_IAE2 hg_ot_IAE hnt hlocks hQ dH_requireFits_13 dH_requireFits_16 dH_requireFits_17 dH_requireFits_19 dH_requireFits_22 (by rw [hR]; exact Nat.le_of_ble_eq_true rfl) (by rw [hR]; exact Nat.le_of_ble_eq_true rfl) (by rw [hR]; exact Nat.le_of_ble_eq_true rfl) (by rw [hR]; exact Nat.le_of_ble_eq_true rfl) (Nat.le_of_ble_eq_true rfl) (Nat.le_of_ble_eq_true rfl)
set_option maxRecDepth 100000 in
set_option maxHeartbeats 4000000 in
/-- a span that is empty or beyond the grid -/
theorem t_requireSpan (hl9 : l.stackTraces = false) (p9 q9 : Int32) (hbad : hg_bS p9 q9) : tg_MetT l yH_requireSpan wsH_requireSpan ({ frames := 6, cells := 1, slots := 6, locals := 90 }) D vwCl (hg_tys cI cF cZ cJ cA cB) F (hg_N F) ad ok w [.int (p9), .int (q9)] "java/lang/IllegalArgumentException" := by
  refine tg_startT (cc := cH_requireSpan) (maxL := 2) (ret := none) (by decide) rfl (Nat.le_of_ble_eq_true rfl) ?_
  intro p e R s m args below meth c Q hx hb hml hr hlocks hown hts hK hN hnt hR hQ
  have hown : s.vm.findClass "HangGraph" = some m.cls := hown
  have hts : ∀ w ∈ lw_g, w.before args s = true := fun w z => hts w (List.mem_cons_of_mem _ z)
  have hMv := hg_Mv F
  refine tg_iload_n hx hb dH_requireSpan_0 rfl rfl ?_
  refine tg_if_lt (tgt := 15) hx hb dH_requireSpan_1 (by decide) (fun q_1 => ?_) (fun q_1 => ?_)
  · have q_1' := q_1
    exact tg_throw hx hb hml hl9 hown hts hN (by decide) (by decide +kernel) wk_H_91 wn_java_lang_IllegalArgumentException (show ((116, "the rectangle is empty or beyond the grid") : Nat × String) ∈ hg_strs by decide) hg_at_IAE1 hg_at_IAE2 hg_ot_IAE hnt hlocks hQ dH_requireSpan_15 dH_requireSpan_18 dH_requireSpan_19 dH_requireSpan_21 dH_requireSpan_24 (by rw [hR]; exact Nat.le_of_ble_eq_true rfl) (by rw [hR]; exact Nat.le_of_ble_eq_true rfl) (by rw [hR]; exact Nat.le_of_ble_eq_true rfl) (by rw [hR]; exact Nat.le_of_ble_eq_true rfl) (Nat.le_of_ble_eq_true rfl) (Nat.le_of_ble_eq_true rfl)
  · have q_1' := q_1
    refine tg_iload_n hx hb dH_requireSpan_4 rfl rfl ?_
    refine tg_iload_n hx hb dH_requireSpan_5 rfl rfl ?_
    refine tg_icmp_gt (tgt := 15) hx hb dH_requireSpan_6 (by decide) (fun q_2 => ?_) (fun q_2 => ?_)
    · have q_2' := q_2
      exact tg_throw hx hb hml hl9 hown hts hN (by decide) (by decide +kernel) wk_H_91 wn_java_lang_IllegalArgumentException (show ((116, "the rectangle is empty or beyond the grid") : Nat × String) ∈ hg_strs by decide) hg_at_IAE1 hg_at_IAE2 hg_ot_IAE hnt hlocks hQ dH_requireSpan_15 dH_requireSpan_18 dH_requireSpan_19 dH_requireSpan_21 dH_requireSpan_24 (by rw [hR]; exact Nat.le_of_ble_eq_true rfl) (by rw [hR]; exact Nat.le_of_ble_eq_true rfl) (by rw [hR]; exact Nat.le_of_ble_eq_true rfl) (by rw [hR]; exact Nat.le_of_ble_eq_true rfl) (Nat.le_of_ble_eq_true rfl) (Nat.le_of_ble_eq_true rfl)
    · have q_2' := q_2
      refine tg_iload_n hx hb dH_requireSpan_9 rfl rfl ?_
      refine tg_bipush (v := nI 20) hx hb dH_requireSpan_10 (by decide +kernel) ?_
      refine tg_icmp_lt (tgt := 25) hx hb dH_requireSpan_12 (by decide) (fun q_3 => ?_) (fun q_3 => ?_)
      · have q_3' := q_3
        rcases hbad with z | z | z
        · exact absurd z q_1'
        · exact absurd z q_2'
        · exact absurd q_3' z
      · have q_3' := q_3
        exact tg_throw hx hb hml hl9 hown hts hN (by decide) (by decide +kernel) wk_H_91 wn_java_lang_IllegalArgumentException (show ((116, "the rectangle is empty or beyond the grid") : Nat × String) ∈ hg_strs by decide) hg_at_IAE1 hg_at_IAE2 hg_ot_IAE hnt hlocks hQ dH_requireSpan_15 dH_requireSpan_18 dH_requireSpan_19 dH_requireSpan_21 dH_requireSpan_24 (by rw [hR]; exact Nat.le_of_ble_eq_true rfl) (by rw [hR]; exact Nat.le_of_ble_eq_true rfl) (by rw [hR]; exact Nat.le_of_ble_eq_true rfl) (by rw [hR]; exact Nat.le_of_ble_eq_true rfl) (Nat.le_of_ble_eq_true rfl) (Nat.le_of_ble_eq_true rfl)
end HGA
end
section
/-! an array's length; rows for covering blocks and rows of cells -/
section TGL
variable {p : Program} {l : Launch} {e : Env} {R : Room} {s : State} {m : MethodId} {args : Array Value} {below : List Frame} {meth : Method} {c : Code} {cells slots : Nat} {Q : State → Prop}
variable {cc : ByteArray} {pc nL : Nat} {st : List Value} {D : va_G} {cl : List vw_C} {tys : List (ClassId × FieldType)} {F : Nat → Prop} {ad : Nat → Nat → Nat} {ok : Nat → Nat → Prop} {w : Nat → Nat → va_E} {L : List (Nat × Value)}
theorem tg_alen (hx : p.tables.exec = Jvm.exec) (hb : c.code = cc) {k i t0 : Nat} (hK : va_K D cl tys s) (hk : ok k i) {cA : ClassId} {x : vp_A} (ha : w k i = .inl (cA, x)) {ty : FieldType} (ht : tys[t0]? = some (cA, ty)) {v : Int32} (hv : Int32.ofNat x.1 = v) (hdg : decode cc pc = .ok (.arraylength, 1)) (kk : tg_W p l e R s m args below meth c Q nL D cl F ad ok w L cells slots (pc + 1) (.int v :: st)) : tg_W p l e R s m args below meth c Q nL D cl F ad ok w L cells slots pc (.ref (ad k i) :: st) :=
  fun H locs ls hZ h => va_alen hx hb hK (hZ.one hk ha) 0 t0 rfl ht hv hdg (kk H locs ls hZ h)
end TGL
/-- v at the cells of the columns l .. r, in the rows from t below x and in the row x in the columns below y -/
def hg_cp {α : Type} (f : Nat → α) (t l r x y : Nat) (v : α) : Nat → α := fun c => if (l ≤ c % 20 ∧ c % 20 ≤ r) ∧ t ≤ c / 20 ∧ (c / 20 < x ∨ (c / 20 = x ∧ c % 20 < y)) then v else f c
theorem hg_cp_0 {α : Type} (f : Nat → α) (t l r : Nat) (v : α) : hg_cp f t l r t l v = f := by
  funext c
  exact if_neg (fun h => by omega)
theorem hg_cp_row {α : Type} (f : Nat → α) (t l r x y : Nat) (v : α) (h : r < y) : hg_cp f t l r x y v = hg_cp f t l r (x + 1) l v := by
  funext c
  unfold hg_cp
  by_cases q : (l ≤ c % 20 ∧ c % 20 ≤ r) ∧ t ≤ c / 20 ∧ (c / 20 < x ∨ (c / 20 = x ∧ c % 20 < y))
  · rw [if_pos q, if_pos (by omega)]
  · by_cases tx : t ≤ x
    · rw [if_neg q, if_neg (by omega)]
    · rw [if_neg q, if_neg (by omega)]
theorem hg_cp_step {α : Type} (f : Nat → α) (t l r x y : Nat) (v : α) (hy : y < 20) (h1 : l ≤ y) (h2 : y ≤ r) (h3 : t ≤ x) : va_up (hg_cp f t l r x y v) (20 * x + y) v = hg_cp f t l r x (y + 1) v := by
  funext c
  by_cases q : c = 20 * x + y
  · subst q
    rw [va_up_self]
    exact (if_pos (by omega)).symm
  · rw [va_up_ne _ _ q]
    unfold hg_cp
    by_cases z : (l ≤ c % 20 ∧ c % 20 ≤ r) ∧ t ≤ c / 20 ∧ (c / 20 < x ∨ (c / 20 = x ∧ c % 20 < y))
    · rw [if_pos z, if_pos (by omega)]
    · rw [if_neg z, if_neg (by omega)]
/-- the columns c in the rows t .. below i -/
def hg_or (f : Nat → Int32) (t i : Nat) (c : Int32) : Nat → Int32 := fun row => if t ≤ row ∧ row < i then (f row) ||| c else f row
theorem hg_or_0 (f : Nat → Int32) (t : Nat) (c : Int32) : hg_or f t t c = f := by
  funext row
  exact if_neg (fun h => by omega)
theorem hg_or_step (f : Nat → Int32) {t i : Nat} (c : Int32) (h : t ≤ i) : upd (hg_or f t i c) i ((hg_or f t i c i) ||| c) = hg_or f t (i + 1) c := by
  funext row
  unfold upd hg_or
  by_cases q : row = i
  · subst q
    rw [if_pos rfl, if_neg (by omega), if_pos (by omega)]
  · rw [if_neg q]
    by_cases z : t ≤ row ∧ row < i
    · rw [if_pos z, if_pos (by omega)]
    · rw [if_neg z, if_neg (by omega)]
theorem hg_spup {sp : Nat → Nat → Int32} {f : Nat} {x : Nat → Int32} (h : x = sp f) : va_up sp f x = sp := by
  funext a
  by_cases z : a = f
  · rw [z, va_up_self, h]
  · rw [va_up_ne _ _ z]
theorem hg_aup {a : Nat → Nat → Option Nat} {j : Nat} {x : Nat → Option Nat} (h : x = a j) : va_up a j x = a := by
  funext k
  by_cases z : k = j
  · rw [z, va_up_self, h]
  · rw [va_up_ne _ _ z]
def hg_z (f : Nat → Int32) (i : Nat) : Nat → Int32 := fun c => if c < i then nI 0 else f c
theorem hg_z_0 (f : Nat → Int32) : hg_z f 0 = f := by
  funext c
  exact if_neg (by omega)
theorem hg_z_s (f : Nat → Int32) (i : Nat) : upd (hg_z f i) i (nI 0) = hg_z f (i + 1) := by
  funext c
  unfold upd hg_z
  by_cases q : c = i
  · rw [if_pos q, if_pos (by omega)]
  · rw [if_neg q]
    by_cases z : c < i
    · rw [if_pos z, if_pos (by omega)]
    · rw [if_neg z, if_neg (by omega)]
end
section
/-! the face's loops -/
theorem hg_a00 (a : Nat → Nat → Option Nat) (x : Nat → Option Nat) (k : Nat) (v : Option Nat) : va_up (va_up a 0 x) 0 (va_up (va_up a 0 x 0) k v) = va_up a 0 (va_up x k v) := by
  funext j
  by_cases q : j = 0
  · rw [q, va_up_self, va_up_self, va_up_self]
  · rw [va_up_ne _ _ q, va_up_ne _ _ q, va_up_ne _ _ q]
theorem hg_s00 (sp : Nat → Nat → Int32) (f : Nat) (x : Nat → Int32) (k : Nat) (c : Int32) : va_up (va_up sp f x) f (upd (va_up sp f x f) k ((va_up sp f x f k) ||| c)) = va_up sp f (upd x k ((x k) ||| c)) := by
  funext j
  by_cases q : j = f
  · rw [q, va_up_self, va_up_self, va_up_self]
  · rw [va_up_ne _ _ q, va_up_ne _ _ q, va_up_ne _ _ q]
section HGB
variable {l : Launch} {D : va_G} {F : Nat → Prop} {Nn : State → Heap → Prop} {ad : Nat → Nat → Nat} {ok : Nat → Nat → Prop} {cF cI cZ cJ cA cB : ClassId} {G : Nat → Nat} {a : Nat → Nat → Option Nat} {dr : Nat → Int32} {N : Nat → Nat → Nat} {bc : Nat → Int32} {sp : Nat → Nat → Int32} {μ : Nat → Nat → va_E} {T : Nat → Prop} {w : Nat → Nat → va_E}
set_option maxRecDepth 100000 in
set_option maxHeartbeats 4000000 in
/-- the block is free -/
theorem c_requireFree (hO : hg_ok ok) (hMv : tg_Mv F Nn) (t0 l0 b0 r0 : Nat) (ht0 : t0 ≤ b0) (hb0 : b0 < 20) (hl0 : l0 ≤ r0) (hr0 : r0 < 20) (hfree : ∀ x y, t0 ≤ x → x ≤ b0 → l0 ≤ y → y ≤ r0 → a 0 (20 * x + y) = none) : tg_Met l yH_requireFree wsH_requireFree ({ frames := 1, cells := 0, slots := 0, locals := 40 }) D vwCl (hg_tys cI cF cZ cJ cA cB) F Nn ad ok (hg_w ad cF cI G a dr N bc sp μ) [.ref (ad 0 0), .int (nI (t0)), .int (nI (l0)), .int (nI (b0)), .int (nI (r0))] (tg_po ad ok fun r w1 => r = none ∧ w1 = (hg_w ad cF cI G a dr N bc sp μ)) := by
  refine tg_start (cc := cH_requireFree) (maxL := 7) (ret := none) (by decide) rfl (Nat.le_of_ble_eq_true rfl) ?_
  intro p e R s m args below meth c Q hx hb hml hr hlocks hown hname hts hK hN hR hQ
  have hown : s.vm.findClass "HangGraph" = some m.cls := hown
  have hts : ∀ w ∈ lw_g, w.before args s = true := fun w z => hts w (List.mem_cons_of_mem _ z)
  refine tg_iload_n hx hb dH_requireFree_0 rfl rfl ?_
  refine tg_istore (L' := [(0, .ref (ad 0 0)), (1, .int (nI (t0))), (2, .int (nI (l0))), (3, .int (nI (b0))), (4, .int (nI (r0))), (5, .int (nI (t0)))]) hx hb dH_requireFree_1 (by decide) rfl rfl ?_
  refine tg_loop (fun i : Nat => t0 ≤ i ∧ i ≤ 20) (fun i => 20 - i) (fun i => tg_W p l e R s m args below meth c Q 7 D vwCl F ad ok (hg_w ad cF cI G a dr N bc sp μ) [(0, .ref (ad 0 0)), (1, .int (nI (t0))), (2, .int (nI (l0))), (3, .int (nI (b0))), (4, .int (nI (r0))), (5, .int (nI (i)))] 0 0 3 []) ?_ t0 ⟨Nat.le_refl _, by omega⟩
  intro i ⟨hi1, hi2⟩ ih
  refine tg_iload hx hb dH_requireFree_3 rfl ?_
  refine tg_iload_n hx hb dH_requireFree_5 rfl rfl ?_
  refine tg_icmp_gt (tgt := 56) hx hb dH_requireFree_6 (by decide) (fun q_1 => ?_) (fun q_1 => ?_)
  · have q_1' := q_1
    have h_2 : b0 < i := (nI_ltI (by omega) (by omega)).mp q_1
    exact tg_vret hx hb hlocks hr hQ ⟨rfl, rfl, rfl, rfl⟩ dH_requireFree_56
  · have q_1' := q_1
    have h_3 : i ≤ b0 := Nat.le_of_not_lt fun z => q_1 ((nI_ltI (by omega) (by omega)).mpr z)
    refine tg_iload_n hx hb dH_requireFree_9 rfl rfl ?_
    refine tg_istore (L' := [(0, .ref (ad 0 0)), (1, .int (nI (t0))), (2, .int (nI (l0))), (3, .int (nI (b0))), (4, .int (nI (r0))), (5, .int (nI (i))), (6, .int (nI (l0)))]) hx hb dH_requireFree_10 (by decide) rfl rfl ?_
    refine tg_loop (fun j : Nat => l0 ≤ j ∧ j ≤ 20) (fun j => 20 - j) (fun j => tg_W p l e R s m args below meth c Q 7 D vwCl F ad ok (hg_w ad cF cI G a dr N bc sp μ) [(0, .ref (ad 0 0)), (1, .int (nI (t0))), (2, .int (nI (l0))), (3, .int (nI (b0))), (4, .int (nI (r0))), (5, .int (nI (i))), (6, .int (nI (j)))] 0 0 12 []) ?_ l0 ⟨Nat.le_refl _, by omega⟩
    intro j ⟨hj1, hj2⟩ ih2
    refine tg_iload hx hb dH_requireFree_12 rfl ?_
    refine tg_iload hx hb dH_requireFree_14 rfl ?_
    refine tg_icmp_gt (tgt := 50) hx hb dH_requireFree_16 (by decide) (fun q_4 => ?_) (fun q_4 => ?_)
    · have q_4' := q_4
      have h_5 : r0 < j := (nI_ltI (by omega) (by omega)).mp q_4
      refine tg_iinc (v := nI (i + 1)) (L' := [(0, .ref (ad 0 0)), (1, .int (nI (t0))), (2, .int (nI (l0))), (3, .int (nI (b0))), (4, .int (nI (r0))), (5, .int (nI (i + 1))), (6, .int (nI (j)))]) hx hb dH_requireFree_50 rfl (nI_1 _) (by decide) rfl rfl ?_
      refine tg_goto (tgt := 3) hx hb dH_requireFree_53 (by decide) ?_
      refine tg_sub (L' := [(0, .ref (ad 0 0)), (1, .int (nI (t0))), (2, .int (nI (l0))), (3, .int (nI (b0))), (4, .int (nI (r0))), (5, .int (nI (i + 1)))]) (fun q hq => (List.mem_append_left [(6, .int (nI (j)))] hq : q ∈ [(0, .ref (ad 0 0)), (1, .int (nI (t0))), (2, .int (nI (l0))), (3, .int (nI (b0))), (4, .int (nI (r0))), (5, .int (nI (i + 1)))] ++ [(6, .int (nI (j)))])) ?_
      exact ih (i + 1) ⟨by omega, by omega⟩ (by omega)
    · have q_4' := q_4
      have h_6 : j ≤ r0 := Nat.le_of_not_lt fun z => q_4 ((nI_ltI (by omega) (by omega)).mpr z)
      refine tg_aload_n hx hb dH_requireFree_19 rfl rfl ?_
      refine tg_get (T := TH) (N := 4) hx hb hts inH hown hK (hO.1 0 (by decide)) rfl rfl 0 (by decide) (hts _ wf_H_11) (fun _ z => z) rfl dH_requireFree_20 ?_
      refine tg_iload hx hb dH_requireFree_23 rfl ?_
      refine tg_iload hx hb dH_requireFree_25 rfl ?_
      refine tg_callS (As := [.int (nI (i)), .int (nI (j))]) (rest := [.ref (ad 1 0)]) ⟨hx, hb, hml, hown, hts⟩ hK hN hMv (c_cellAt i j) (va_cwS 2 hts (lg_S wm_H_106 wt_H_cellAt wn_H wc_H_cellAt) rfl rfl rfl ⟨by decide, by decide, rfl⟩ ⟨by rw [hR]; exact Nat.le_of_ble_eq_true rfl, by rw [hR]; exact Nat.le_of_ble_eq_true rfl⟩) rfl (Nat.le_of_ble_eq_true rfl) ⟨by rw [hR]; exact Nat.le_of_ble_eq_true rfl, by rw [hR]; exact Nat.le_of_ble_eq_true rfl⟩ rfl dH_requireFree_27 (tg_kv rfl rfl ?_)
      refine tg_aald (t0 := 1) hx hb hK (hO.1 1 (by decide)) rfl rfl (x := 20 * i + j) (by decide) (by omega) dH_requireFree_30 ?_
      refine tg_st (st' := .null :: []) (by rw [hfree i j (by omega) (by omega) (by omega) (by omega)]; rfl) ?_
      refine tg_ifnullN (tgt := 44) hx hb dH_requireFree_31 (by decide) ?_
      refine tg_iinc (v := nI (j + 1)) (L' := [(0, .ref (ad 0 0)), (1, .int (nI (t0))), (2, .int (nI (l0))), (3, .int (nI (b0))), (4, .int (nI (r0))), (5, .int (nI (i))), (6, .int (nI (j + 1)))]) hx hb dH_requireFree_44 rfl (nI_1 _) (by decide) rfl rfl ?_
      refine tg_goto (tgt := 12) hx hb dH_requireFree_47 (by decide) ?_
      exact ih2 (j + 1) ⟨by omega, by omega⟩ (by omega)
set_option maxRecDepth 100000 in
set_option maxHeartbeats 4000000 in
/-- the block is not free -/
theorem t_requireFree (hl9 : l.stackTraces = false) (hO : hg_ok ok) (t0 l0 b0 r0 : Nat) (ht0 : t0 ≤ b0) (hb0 : b0 < 20) (hl0 : l0 ≤ r0) (hr0 : r0 < 20) (hov : ∀ c, c < 400 → a 0 c = none ∨ ∃ f, T f ∧ a 0 c = some (ad 8 f)) (hbad : ∃ x y, (t0 ≤ x ∧ x ≤ b0) ∧ (l0 ≤ y ∧ y ≤ r0) ∧ a 0 (20 * x + y) ≠ none) : tg_MetT l yH_requireFree wsH_requireFree ({ frames := 6, cells := 1, slots := 6, locals := 90 }) D vwCl (hg_tys cI cF cZ cJ cA cB) F (hg_N F) ad ok (hg_w ad cF cI G a dr N bc sp μ) [.ref (ad 0 0), .int (nI (t0)), .int (nI (l0)), .int (nI (b0)), .int (nI (r0))] "java/lang/IllegalStateException" := by
  refine tg_startT (cc := cH_requireFree) (maxL := 7) (ret := none) (by decide) rfl (Nat.le_of_ble_eq_true rfl) ?_
  intro p e R s m args below meth c Q hx hb hml hr hlocks hown hts hK hN hnt hR hQ
  have hown : s.vm.findClass "HangGraph" = some m.cls := hown
  have hts : ∀ w ∈ lw_g, w.before args s = true := fun w z => hts w (List.mem_cons_of_mem _ z)
  have hMv := hg_Mv F
  refine tg_iload_n hx hb dH_requireFree_0 rfl rfl ?_
  refine tg_istore (L' := [(0, .ref (ad 0 0)), (1, .int (nI (t0))), (2, .int (nI (l0))), (3, .int (nI (b0))), (4, .int (nI (r0))), (5, .int (nI (t0)))]) hx hb dH_requireFree_1 (by decide) rfl rfl ?_
  refine tg_loop (fun i : Nat => (t0 ≤ i ∧ i ≤ 20) ∧ ∀ x y, t0 ≤ x → x < i → l0 ≤ y → y ≤ r0 → a 0 (20 * x + y) = none) (fun i => 20 - i) (fun i => tg_W p l e R s m args below meth c Q 7 D vwCl F ad ok (hg_w ad cF cI G a dr N bc sp μ) [(0, .ref (ad 0 0)), (1, .int (nI (t0))), (2, .int (nI (l0))), (3, .int (nI (b0))), (4, .int (nI (r0))), (5, .int (nI (i)))] 0 0 3 []) ?_ t0 ⟨⟨Nat.le_refl _, by omega⟩, fun x y z1 z2 => by omega⟩
  intro i ⟨⟨hi1, hi2⟩, hi3⟩ ih
  refine tg_iload hx hb dH_requireFree_3 rfl ?_
  refine tg_iload_n hx hb dH_requireFree_5 rfl rfl ?_
  refine tg_icmp_gt (tgt := 56) hx hb dH_requireFree_6 (by decide) (fun q_1 => ?_) (fun q_1 => ?_)
  · have q_1' := q_1
    have h_2 : b0 < i := (nI_ltI (by omega) (by omega)).mp q_1
    obtain ⟨x, y, z1, z2, z3⟩ := hbad
    exact absurd (hi3 x y z1.1 (by omega) z2.1 z2.2) z3
  · have q_1' := q_1
    have h_3 : i ≤ b0 := Nat.le_of_not_lt fun z => q_1 ((nI_ltI (by omega) (by omega)).mpr z)
    refine tg_iload_n hx hb dH_requireFree_9 rfl rfl ?_
    refine tg_istore (L' := [(0, .ref (ad 0 0)), (1, .int (nI (t0))), (2, .int (nI (l0))), (3, .int (nI (b0))), (4, .int (nI (r0))), (5, .int (nI (i))), (6, .int (nI (l0)))]) hx hb dH_requireFree_10 (by decide) rfl rfl ?_
    refine tg_loop (fun j : Nat => (l0 ≤ j ∧ j ≤ 20) ∧ ∀ y, l0 ≤ y → y < j → a 0 (20 * i + y) = none) (fun j => 20 - j) (fun j => tg_W p l e R s m args below meth c Q 7 D vwCl F ad ok (hg_w ad cF cI G a dr N bc sp μ) [(0, .ref (ad 0 0)), (1, .int (nI (t0))), (2, .int (nI (l0))), (3, .int (nI (b0))), (4, .int (nI (r0))), (5, .int (nI (i))), (6, .int (nI (j)))] 0 0 12 []) ?_ l0 ⟨⟨Nat.le_refl _, by omega⟩, fun y z1 z2 => by omega⟩
    intro j ⟨⟨hj1, hj2⟩, hj3⟩ ih2
    refine tg_iload hx hb dH_requireFree_12 rfl ?_
    refine tg_iload hx hb dH_requireFree_14 rfl ?_
    refine tg_icmp_gt (tgt := 50) hx hb dH_requireFree_16 (by decide) (fun q_4 => ?_) (fun q_4 => ?_)
    · have q_4' := q_4
      have h_5 : r0 < j := (nI_ltI (by omega) (by omega)).mp q_4
      refine tg_iinc (v := nI (i + 1)) (L' := [(0, .ref (ad 0 0)), (1, .int (nI (t0))), (2, .int (nI (l0))), (3, .int (nI (b0))), (4, .int (nI (r0))), (5, .int (nI (i + 1))), (6, .int (nI (j)))]) hx hb dH_requireFree_50 rfl (nI_1 _) (by decide) rfl rfl ?_
      refine tg_goto (tgt := 3) hx hb dH_requireFree_53 (by decide) ?_
      refine tg_sub (L' := [(0, .ref (ad 0 0)), (1, .int (nI (t0))), (2, .int (nI (l0))), (3, .int (nI (b0))), (4, .int (nI (r0))), (5, .int (nI (i + 1)))]) (fun q hq => (List.mem_append_left [(6, .int (nI (j)))] hq : q ∈ [(0, .ref (ad 0 0)), (1, .int (nI (t0))), (2, .int (nI (l0))), (3, .int (nI (b0))), (4, .int (nI (r0))), (5, .int (nI (i + 1)))] ++ [(6, .int (nI (j)))])) ?_
      refine ih (i + 1) ⟨⟨by omega, by omega⟩, fun x y z1 z2 z3 z4 => ?_⟩ (by omega)
      by_cases z : x = i
      · rw [z]; exact hj3 y z3 (by omega)
      · exact hi3 x y z1 (by omega) z3 z4
    · have q_4' := q_4
      have h_6 : j ≤ r0 := Nat.le_of_not_lt fun z => q_4 ((nI_ltI (by omega) (by omega)).mpr z)
      refine tg_aload_n hx hb dH_requireFree_19 rfl rfl ?_
      refine tg_get (T := TH) (N := 4) hx hb hts inH hown hK (hO.1 0 (by decide)) rfl rfl 0 (by decide) (hts _ wf_H_11) (fun _ z => z) rfl dH_requireFree_20 ?_
      refine tg_iload hx hb dH_requireFree_23 rfl ?_
      refine tg_iload hx hb dH_requireFree_25 rfl ?_
      refine tg_callS (As := [.int (nI (i)), .int (nI (j))]) (rest := [.ref (ad 1 0)]) ⟨hx, hb, hml, hown, hts⟩ hK hN hMv (c_cellAt i j) (va_cwS 2 hts (lg_S wm_H_106 wt_H_cellAt wn_H wc_H_cellAt) rfl rfl rfl ⟨by decide, by decide, rfl⟩ ⟨by rw [hR]; exact Nat.le_of_ble_eq_true rfl, by rw [hR]; exact Nat.le_of_ble_eq_true rfl⟩) rfl (Nat.le_of_ble_eq_true rfl) ⟨by rw [hR]; exact Nat.le_of_ble_eq_true rfl, by rw [hR]; exact Nat.le_of_ble_eq_true rfl⟩ rfl dH_requireFree_27 (tg_kv rfl rfl ?_)
      refine tg_aald (t0 := 1) hx hb hK (hO.1 1 (by decide)) rfl rfl (x := 20 * i + j) (by decide) (by omega) dH_requireFree_30 ?_
      rcases hov (20 * i + j) (by omega) with ho1 | ⟨f, hfT, ho1⟩
      · refine tg_st (st' := [.null]) (by rw [ho1]; rfl) ?_
        refine tg_ifnullN (tgt := 44) hx hb dH_requireFree_31 (by decide) ?_
        refine tg_iinc (v := nI (j + 1)) (L' := [(0, .ref (ad 0 0)), (1, .int (nI (t0))), (2, .int (nI (l0))), (3, .int (nI (b0))), (4, .int (nI (r0))), (5, .int (nI (i))), (6, .int (nI (j + 1)))]) hx hb dH_requireFree_44 rfl (nI_1 _) (by decide) rfl rfl ?_
        refine tg_goto (tgt := 12) hx hb dH_requireFree_47 (by decide) ?_
        refine ih2 (j + 1) ⟨⟨by omega, by omega⟩, fun y z1 z2 => ?_⟩ (by omega)
        by_cases z : y = j
        · rw [z]; exact ho1
        · exact hj3 y z1 (by omega)
      · refine tg_st (st' := [.ref (ad 8 f)]) (by rw [ho1]; rfl) ?_
        refine tg_ifnull hx hb dH_requireFree_31 ?_
        exact tg_throw hx hb hml hl9 hown hts hN (by decide) (by decide +kernel) wk_H_118 wn_java_lang_IllegalStateException (show ((120, "blocks would overlap") : Nat × String) ∈ hg_strs by decide) hg_at_ISE1 hg_at_ISE2 hg_ot_ISE hnt hlocks hQ dH_requireFree_34 dH_requireFree_37 dH_requireFree_38 dH_requireFree_40 dH_requireFree_43 (by rw [hR]; exact Nat.le_of_ble_eq_true rfl) (by rw [hR]; exact Nat.le_of_ble_eq_true rfl) (by rw [hR]; exact Nat.le_of_ble_eq_true rfl) (by rw [hR]; exact Nat.le_of_ble_eq_true rfl) (Nat.le_of_ble_eq_true rfl) (Nat.le_of_ble_eq_true rfl)
set_option maxRecDepth 100000 in
set_option maxHeartbeats 4000000 in
/-- f is over its block from now -/
theorem c_cover (hO : hg_ok ok) (hT : ∀ f, T f → ok 8 f ∧ ok 9 f) (hMv : tg_Mv F Nn) (f : Nat) (hf : T f) (hN1 : N 1 f ≤ N 3 f) (hN3 : N 3 f < 20) (hN2 : N 2 f ≤ N 4 f) (hN4 : N 4 f < 20) : tg_Met l yH_cover wsH_cover ({ frames := 1, cells := 0, slots := 0, locals := 40 }) D vwCl (hg_tys cI cF cZ cJ cA cB) F Nn ad ok (hg_w ad cF cI G a dr N bc sp μ) [.ref (ad 0 0), .ref (ad 8 f), .ref (ad 8 f)] (tg_po ad ok fun r w1 => r = none ∧ w1 = (hg_w ad cF cI G (va_up a 0 (hg_cp (a 0) (N 1 f) (N 2 f) (N 4 f) (N 3 f + 1) (N 2 f) (some (ad 8 f)))) dr N bc sp μ)) := by
  refine tg_start (cc := cH_cover) (maxL := 5) (ret := none) (by decide) rfl (Nat.le_of_ble_eq_true rfl) ?_
  intro p e R s m args below meth c Q hx hb hml hr hlocks hown hname hts hK hN hR hQ
  have hown : s.vm.findClass "HangGraph" = some m.cls := hown
  have hts : ∀ w ∈ lw_g, w.before args s = true := fun w z => hts w (List.mem_cons_of_mem _ z)
  refine tg_w (w' := (hg_w ad cF cI G (va_up a 0 (hg_cp (a 0) (N 1 f) (N 2 f) (N 4 f) (N 1 f) (N 2 f) (some (ad 8 f)))) dr N bc sp μ)) (by rw [hg_cp_0, hg_aup rfl]) ?_
  refine tg_aload_n hx hb dH_cover_0 rfl rfl ?_
  refine tg_get (T := TF) (N := 15) hx hb hts inF hown hK (hT f hf).1 rfl rfl 1 (by decide) (hts _ wf_H_128) (fun _ z => z) rfl dH_cover_1 ?_
  refine tg_istore_n (L' := [(0, .ref (ad 0 0)), (1, .ref (ad 8 f)), (2, .ref (ad 8 f)), (3, .int (nI (N 1 f)))]) hx hb dH_cover_4 rfl (by decide) rfl rfl ?_
  refine tg_loop (fun i : Nat => N 1 f ≤ i ∧ i ≤ N 3 f + 1) (fun i => 20 - i) (fun i => tg_W p l e R s m args below meth c Q 5 D vwCl F ad ok (hg_w ad cF cI G (va_up a 0 (hg_cp (a 0) (N 1 f) (N 2 f) (N 4 f) (i) (N 2 f) (some (ad 8 f)))) dr N bc sp μ) [(0, .ref (ad 0 0)), (1, .ref (ad 8 f)), (2, .ref (ad 8 f)), (3, .int (nI (i)))] 0 0 5 []) ?_ (N 1 f) ⟨Nat.le_refl _, by omega⟩
  intro i ⟨hi1, hi2⟩ ih
  refine tg_iload_n hx hb dH_cover_5 rfl rfl ?_
  refine tg_aload_n hx hb dH_cover_6 rfl rfl ?_
  refine tg_get (T := TF) (N := 15) hx hb hts inF hown hK (hT f hf).1 rfl rfl 3 (by decide) (hts _ wf_H_131) (fun _ z => z) rfl dH_cover_7 ?_
  refine tg_icmp_gt (tgt := 52) hx hb dH_cover_10 (by decide) (fun q_1 => ?_) (fun q_1 => ?_)
  · have q_1' := q_1
    have h_2 : N 3 f < i := (nI_ltI (by omega) (by omega)).mp q_1
    have ei : i = N 3 f + 1 := by omega
    subst ei
    exact tg_vret hx hb hlocks hr hQ ⟨rfl, rfl, rfl, rfl⟩ dH_cover_52
  · have q_1' := q_1
    have h_3 : i ≤ N 3 f := Nat.le_of_not_lt fun z => q_1 ((nI_ltI (by omega) (by omega)).mpr z)
    refine tg_aload_n hx hb dH_cover_13 rfl rfl ?_
    refine tg_get (T := TF) (N := 15) hx hb hts inF hown hK (hT f hf).1 rfl rfl 2 (by decide) (hts _ wf_H_134) (fun _ z => z) rfl dH_cover_14 ?_
    refine tg_istore (L' := [(0, .ref (ad 0 0)), (1, .ref (ad 8 f)), (2, .ref (ad 8 f)), (3, .int (nI (i))), (4, .int (nI (N 2 f)))]) hx hb dH_cover_17 (by decide) rfl rfl ?_
    refine tg_loop (fun j : Nat => N 2 f ≤ j ∧ j ≤ 20) (fun j => 20 - j) (fun j => tg_W p l e R s m args below meth c Q 5 D vwCl F ad ok (hg_w ad cF cI G (va_up a 0 (hg_cp (a 0) (N 1 f) (N 2 f) (N 4 f) (i) (j) (some (ad 8 f)))) dr N bc sp μ) [(0, .ref (ad 0 0)), (1, .ref (ad 8 f)), (2, .ref (ad 8 f)), (3, .int (nI (i))), (4, .int (nI (j)))] 0 0 19 []) ?_ (N 2 f) ⟨Nat.le_refl _, by omega⟩
    intro j ⟨hj1, hj2⟩ ih2
    refine tg_iload hx hb dH_cover_19 rfl ?_
    refine tg_aload_n hx hb dH_cover_21 rfl rfl ?_
    refine tg_get (T := TF) (N := 15) hx hb hts inF hown hK (hT f hf).1 rfl rfl 4 (by decide) (hts _ wf_H_137) (fun _ z => z) rfl dH_cover_22 ?_
    refine tg_icmp_gt (tgt := 46) hx hb dH_cover_25 (by decide) (fun q_4 => ?_) (fun q_4 => ?_)
    · have q_4' := q_4
      have h_5 : N 4 f < j := (nI_ltI (by omega) (by omega)).mp q_4
      refine tg_iinc (v := nI (i + 1)) (L' := [(0, .ref (ad 0 0)), (1, .ref (ad 8 f)), (2, .ref (ad 8 f)), (3, .int (nI (i + 1))), (4, .int (nI (j)))]) hx hb dH_cover_46 rfl (nI_1 _) (by decide) rfl rfl ?_
      refine tg_goto (tgt := 5) hx hb dH_cover_49 (by decide) ?_
      refine tg_sub (L' := [(0, .ref (ad 0 0)), (1, .ref (ad 8 f)), (2, .ref (ad 8 f)), (3, .int (nI (i + 1)))]) (fun q hq => (List.mem_append_left [(4, .int (nI (j)))] hq : q ∈ [(0, .ref (ad 0 0)), (1, .ref (ad 8 f)), (2, .ref (ad 8 f)), (3, .int (nI (i + 1)))] ++ [(4, .int (nI (j)))])) ?_
      rw [hg_cp_row _ _ _ _ _ _ _ (show N 4 f < j by omega)]
      exact ih (i + 1) ⟨by omega, by omega⟩ (by omega)
    · have q_4' := q_4
      have h_6 : j ≤ N 4 f := Nat.le_of_not_lt fun z => q_4 ((nI_ltI (by omega) (by omega)).mpr z)
      refine tg_aload_n hx hb dH_cover_28 rfl rfl ?_
      refine tg_get (T := TH) (N := 4) hx hb hts inH hown hK (hO.1 0 (by decide)) rfl rfl 0 (by decide) (hts _ wf_H_11) (fun _ z => z) rfl dH_cover_29 ?_
      refine tg_iload_n hx hb dH_cover_32 rfl rfl ?_
      refine tg_iload hx hb dH_cover_33 rfl ?_
      refine tg_callS (As := [.int (nI (i)), .int (nI (j))]) (rest := [.ref (ad 1 0)]) ⟨hx, hb, hml, hown, hts⟩ hK hN hMv (c_cellAt i j) (va_cwS 2 hts (lg_S wm_H_106 wt_H_cellAt wn_H wc_H_cellAt) rfl rfl rfl ⟨by decide, by decide, rfl⟩ ⟨by rw [hR]; exact Nat.le_of_ble_eq_true rfl, by rw [hR]; exact Nat.le_of_ble_eq_true rfl⟩) rfl (Nat.le_of_ble_eq_true rfl) ⟨by rw [hR]; exact Nat.le_of_ble_eq_true rfl, by rw [hR]; exact Nat.le_of_ble_eq_true rfl⟩ rfl dH_cover_35 (tg_kv rfl rfl ?_)
      refine tg_aload_n hx hb dH_cover_38 rfl rfl ?_
      refine tg_aast (t0 := 1) hx hb hK (hO.1 1 (by decide)) rfl rfl (hT f hf).1 rfl rfl (x := 20 * i + j) (by decide) (by omega) dH_cover_39 ?_
      refine tg_wp (hg_w_a0 hO (20 * i + j) (some (ad 8 f))) ?_
      refine tg_iinc (v := nI (j + 1)) (L' := [(0, .ref (ad 0 0)), (1, .ref (ad 8 f)), (2, .ref (ad 8 f)), (3, .int (nI (i))), (4, .int (nI (j + 1)))]) hx hb dH_cover_40 rfl (nI_1 _) (by decide) rfl rfl ?_
      refine tg_goto (tgt := 19) hx hb dH_cover_43 (by decide) ?_
      rw [hg_a00, hg_cp_step _ _ _ _ _ _ _ (by omega) (by omega) (by omega) (by omega)]
      exact ih2 (j + 1) ⟨by omega, by omega⟩ (by omega)
set_option maxRecDepth 100000 in
set_option maxHeartbeats 4000000 in
/-- nothing is over f's block from now -/
theorem c_uncover (hO : hg_ok ok) (hT : ∀ f, T f → ok 8 f ∧ ok 9 f) (hMv : tg_Mv F Nn) (f : Nat) (hf : T f) (hN1 : N 1 f ≤ N 3 f) (hN3 : N 3 f < 20) (hN2 : N 2 f ≤ N 4 f) (hN4 : N 4 f < 20) : tg_Met l yH_cover wsH_cover ({ frames := 1, cells := 0, slots := 0, locals := 40 }) D vwCl (hg_tys cI cF cZ cJ cA cB) F Nn ad ok (hg_w ad cF cI G a dr N bc sp μ) [.ref (ad 0 0), .ref (ad 8 f), .null] (tg_po ad ok fun r w1 => r = none ∧ w1 = (hg_w ad cF cI G (va_up a 0 (hg_cp (a 0) (N 1 f) (N 2 f) (N 4 f) (N 3 f + 1) (N 2 f) none)) dr N bc sp μ)) := by
  refine tg_start (cc := cH_cover) (maxL := 5) (ret := none) (by decide) rfl (Nat.le_of_ble_eq_true rfl) ?_
  intro p e R s m args below meth c Q hx hb hml hr hlocks hown hname hts hK hN hR hQ
  have hown : s.vm.findClass "HangGraph" = some m.cls := hown
  have hts : ∀ w ∈ lw_g, w.before args s = true := fun w z => hts w (List.mem_cons_of_mem _ z)
  refine tg_w (w' := (hg_w ad cF cI G (va_up a 0 (hg_cp (a 0) (N 1 f) (N 2 f) (N 4 f) (N 1 f) (N 2 f) none)) dr N bc sp μ)) (by rw [hg_cp_0, hg_aup rfl]) ?_
  refine tg_aload_n hx hb dH_cover_0 rfl rfl ?_
  refine tg_get (T := TF) (N := 15) hx hb hts inF hown hK (hT f hf).1 rfl rfl 1 (by decide) (hts _ wf_H_128) (fun _ z => z) rfl dH_cover_1 ?_
  refine tg_istore_n (L' := [(0, .ref (ad 0 0)), (1, .ref (ad 8 f)), (2, .null), (3, .int (nI (N 1 f)))]) hx hb dH_cover_4 rfl (by decide) rfl rfl ?_
  refine tg_loop (fun i : Nat => N 1 f ≤ i ∧ i ≤ N 3 f + 1) (fun i => 20 - i) (fun i => tg_W p l e R s m args below meth c Q 5 D vwCl F ad ok (hg_w ad cF cI G (va_up a 0 (hg_cp (a 0) (N 1 f) (N 2 f) (N 4 f) (i) (N 2 f) none)) dr N bc sp μ) [(0, .ref (ad 0 0)), (1, .ref (ad 8 f)), (2, .null), (3, .int (nI (i)))] 0 0 5 []) ?_ (N 1 f) ⟨Nat.le_refl _, by omega⟩
  intro i ⟨hi1, hi2⟩ ih
  refine tg_iload_n hx hb dH_cover_5 rfl rfl ?_
  refine tg_aload_n hx hb dH_cover_6 rfl rfl ?_
  refine tg_get (T := TF) (N := 15) hx hb hts inF hown hK (hT f hf).1 rfl rfl 3 (by decide) (hts _ wf_H_131) (fun _ z => z) rfl dH_cover_7 ?_
  refine tg_icmp_gt (tgt := 52) hx hb dH_cover_10 (by decide) (fun q_1 => ?_) (fun q_1 => ?_)
  · have q_1' := q_1
    have h_2 : N 3 f < i := (nI_ltI (by omega) (by omega)).mp q_1
    have ei : i = N 3 f + 1 := by omega
    subst ei
    exact tg_vret hx hb hlocks hr hQ ⟨rfl, rfl, rfl, rfl⟩ dH_cover_52
  · have q_1' := q_1
    have h_3 : i ≤ N 3 f := Nat.le_of_not_lt fun z => q_1 ((nI_ltI (by omega) (by omega)).mpr z)
    refine tg_aload_n hx hb dH_cover_13 rfl rfl ?_
    refine tg_get (T := TF) (N := 15) hx hb hts inF hown hK (hT f hf).1 rfl rfl 2 (by decide) (hts _ wf_H_134) (fun _ z => z) rfl dH_cover_14 ?_
    refine tg_istore (L' := [(0, .ref (ad 0 0)), (1, .ref (ad 8 f)), (2, .null), (3, .int (nI (i))), (4, .int (nI (N 2 f)))]) hx hb dH_cover_17 (by decide) rfl rfl ?_
    refine tg_loop (fun j : Nat => N 2 f ≤ j ∧ j ≤ 20) (fun j => 20 - j) (fun j => tg_W p l e R s m args below meth c Q 5 D vwCl F ad ok (hg_w ad cF cI G (va_up a 0 (hg_cp (a 0) (N 1 f) (N 2 f) (N 4 f) (i) (j) none)) dr N bc sp μ) [(0, .ref (ad 0 0)), (1, .ref (ad 8 f)), (2, .null), (3, .int (nI (i))), (4, .int (nI (j)))] 0 0 19 []) ?_ (N 2 f) ⟨Nat.le_refl _, by omega⟩
    intro j ⟨hj1, hj2⟩ ih2
    refine tg_iload hx hb dH_cover_19 rfl ?_
    refine tg_aload_n hx hb dH_cover_21 rfl rfl ?_
    refine tg_get (T := TF) (N := 15) hx hb hts inF hown hK (hT f hf).1 rfl rfl 4 (by decide) (hts _ wf_H_137) (fun _ z => z) rfl dH_cover_22 ?_
    refine tg_icmp_gt (tgt := 46) hx hb dH_cover_25 (by decide) (fun q_4 => ?_) (fun q_4 => ?_)
    · have q_4' := q_4
      have h_5 : N 4 f < j := (nI_ltI (by omega) (by omega)).mp q_4
      refine tg_iinc (v := nI (i + 1)) (L' := [(0, .ref (ad 0 0)), (1, .ref (ad 8 f)), (2, .null), (3, .int (nI (i + 1))), (4, .int (nI (j)))]) hx hb dH_cover_46 rfl (nI_1 _) (by decide) rfl rfl ?_
      refine tg_goto (tgt := 5) hx hb dH_cover_49 (by decide) ?_
      refine tg_sub (L' := [(0, .ref (ad 0 0)), (1, .ref (ad 8 f)), (2, .null), (3, .int (nI (i + 1)))]) (fun q hq => (List.mem_append_left [(4, .int (nI (j)))] hq : q ∈ [(0, .ref (ad 0 0)), (1, .ref (ad 8 f)), (2, .null), (3, .int (nI (i + 1)))] ++ [(4, .int (nI (j)))])) ?_
      rw [hg_cp_row _ _ _ _ _ _ _ (show N 4 f < j by omega)]
      exact ih (i + 1) ⟨by omega, by omega⟩ (by omega)
    · have q_4' := q_4
      have h_6 : j ≤ N 4 f := Nat.le_of_not_lt fun z => q_4 ((nI_ltI (by omega) (by omega)).mpr z)
      refine tg_aload_n hx hb dH_cover_28 rfl rfl ?_
      refine tg_get (T := TH) (N := 4) hx hb hts inH hown hK (hO.1 0 (by decide)) rfl rfl 0 (by decide) (hts _ wf_H_11) (fun _ z => z) rfl dH_cover_29 ?_
      refine tg_iload_n hx hb dH_cover_32 rfl rfl ?_
      refine tg_iload hx hb dH_cover_33 rfl ?_
      refine tg_callS (As := [.int (nI (i)), .int (nI (j))]) (rest := [.ref (ad 1 0)]) ⟨hx, hb, hml, hown, hts⟩ hK hN hMv (c_cellAt i j) (va_cwS 2 hts (lg_S wm_H_106 wt_H_cellAt wn_H wc_H_cellAt) rfl rfl rfl ⟨by decide, by decide, rfl⟩ ⟨by rw [hR]; exact Nat.le_of_ble_eq_true rfl, by rw [hR]; exact Nat.le_of_ble_eq_true rfl⟩) rfl (Nat.le_of_ble_eq_true rfl) ⟨by rw [hR]; exact Nat.le_of_ble_eq_true rfl, by rw [hR]; exact Nat.le_of_ble_eq_true rfl⟩ rfl dH_cover_35 (tg_kv rfl rfl ?_)
      refine tg_aload_nN hx hb dH_cover_38 rfl rfl ?_
      refine tg_aastN (t0 := 1) hx hb hK (hO.1 1 (by decide)) rfl rfl (x := 20 * i + j) (by decide) (by omega) dH_cover_39 ?_
      refine tg_wp (hg_w_a0 hO (20 * i + j) none) ?_
      refine tg_iinc (v := nI (j + 1)) (L' := [(0, .ref (ad 0 0)), (1, .ref (ad 8 f)), (2, .null), (3, .int (nI (i))), (4, .int (nI (j + 1)))]) hx hb dH_cover_40 rfl (nI_1 _) (by decide) rfl rfl ?_
      refine tg_goto (tgt := 19) hx hb dH_cover_43 (by decide) ?_
      rw [hg_a00, hg_cp_step _ _ _ _ _ _ _ (by omega) (by omega) (by omega) (by omega)]
      exact ih2 (j + 1) ⟨by omega, by omega⟩ (by omega)
set_option maxRecDepth 100000 in
set_option maxHeartbeats 4000000 in
/-- one more rectangle -/
theorem c_addRectangle (hO : hg_ok ok) (hT : ∀ f, T f → ok 8 f ∧ ok 9 f) (hB : ∀ j u, N j u < 1000000) (f : Nat) (hf : T f) (t0 l0 b0 r0 : Nat) (ht0 : t0 ≤ b0) (hb0 : b0 < 20) (hl0 : l0 ≤ r0) (hr0 : r0 < 20) : tg_Met l yF_addRectangle wsF_addRectangle ({ frames := 1, cells := 0, slots := 0, locals := 40 }) D vwCl (hg_tys cI cF cZ cJ cA cB) F (hg_N F) ad ok (hg_w ad cF cI G a dr N bc sp μ) [.ref (ad 8 f), .int (nI (t0)), .int (nI (l0)), .int (nI (b0)), .int (nI (r0))] (tg_po ad ok fun r w1 => r = none ∧ w1 = hg_w ad cF cI G a dr (tg_up N 7 f (N 7 f + 1)) bc (va_up sp f (hg_or (sp f) t0 (b0 + 1) (hg_cb l0 r0))) μ) := by
  refine tg_start (cc := cF_addRectangle) (maxL := 7) (ret := none) (by decide) rfl (Nat.le_of_ble_eq_true rfl) ?_
  intro p e R s m args below meth c Q hx hb hml hr hlocks hown hname hts hK hN hR hQ
  have hown : s.vm.findClass "HangGraph$Formula" = some m.cls := hown
  have hts : ∀ w ∈ lw_g, w.before args s = true := fun w z => hts w (List.mem_cons_of_mem _ z)
  have hMv := hg_Mv F
  have hNest := hN.1
  refine tg_iload_n hx hb dF_addRectangle_0 rfl rfl ?_
  refine tg_iload hx hb dF_addRectangle_1 rfl ?_
  refine tg_callSN (As := [.int (nI (l0)), .int (nI (r0))]) (rest := []) ⟨hx, hb, hml, hown, hts⟩ hK hN hMv (c_columnBits l0 r0 hl0 hr0) ⟨va_cnB 2 hts (lg_N wc_H_columnBits) rfl rfl rfl (hNest (.methodLinkNest "HangGraph$Formula" 31 yH_columnBits "HangGraph") (by decide)) (hts _ wn_H) ⟨by decide, by decide, rfl⟩ ⟨by rw [hR]; exact Nat.le_of_ble_eq_true rfl, by rw [hR]; exact Nat.le_of_ble_eq_true rfl⟩, hts _ wt_H_columnBits, trivial⟩ rfl (Nat.le_of_ble_eq_true rfl) ⟨by rw [hR]; exact Nat.le_of_ble_eq_true rfl, by rw [hR]; exact Nat.le_of_ble_eq_true rfl⟩ rfl dF_addRectangle_3 (tg_kv rfl rfl ?_)
  refine tg_istore (L' := [(0, .ref (ad 8 f)), (1, .int (nI (t0))), (2, .int (nI (l0))), (3, .int (nI (b0))), (4, .int (nI (r0))), (5, .int (hg_cb l0 r0))]) hx hb dF_addRectangle_6 (by decide) rfl rfl ?_
  refine tg_iload_n hx hb dF_addRectangle_8 rfl rfl ?_
  refine tg_istore (L' := [(0, .ref (ad 8 f)), (1, .int (nI (t0))), (2, .int (nI (l0))), (3, .int (nI (b0))), (4, .int (nI (r0))), (5, .int (hg_cb l0 r0)), (6, .int (nI (t0)))]) hx hb dF_addRectangle_9 (by decide) rfl rfl ?_
  refine tg_w (w' := (hg_w ad cF cI G a dr N bc (va_up sp f (hg_or (sp f) t0 (t0) (hg_cb l0 r0))) μ)) (by rw [hg_or_0, hg_spup rfl]) ?_
  refine tg_loop (fun i : Nat => t0 ≤ i ∧ i ≤ b0 + 1) (fun i => 20 - i) (fun i => tg_W p l e R s m args below meth c Q 7 D vwCl F ad ok (hg_w ad cF cI G a dr N bc (va_up sp f (hg_or (sp f) t0 (i) (hg_cb l0 r0))) μ) [(0, .ref (ad 8 f)), (1, .int (nI (t0))), (2, .int (nI (l0))), (3, .int (nI (b0))), (4, .int (nI (r0))), (5, .int (hg_cb l0 r0)), (6, .int (nI (i)))] 0 0 11 []) ?_ t0 ⟨Nat.le_refl _, by omega⟩
  intro i ⟨hi1, hi2⟩ ih
  refine tg_iload hx hb dF_addRectangle_11 rfl ?_
  refine tg_iload_n hx hb dF_addRectangle_13 rfl rfl ?_
  refine tg_icmp_gt (tgt := 35) hx hb dF_addRectangle_14 (by decide) (fun q_1 => ?_) (fun q_1 => ?_)
  · have q_1' := q_1
    have h_2 : b0 < i := (nI_ltI (by omega) (by omega)).mp q_1
    refine tg_aload_n hx hb dF_addRectangle_35 rfl rfl ?_
    refine tg_dup hx hb dF_addRectangle_36 rfl ?_
    refine tg_get (T := TF) (N := 15) hx hb hts inF hown hK (hT f hf).1 rfl rfl 7 (by decide) (hts _ wf_F_41) (fun _ z => z) rfl dF_addRectangle_37 ?_
    have hb_3 := hB 7 f
    refine tg_iconst (v := nI 1) hx hb dF_addRectangle_40 (by decide +kernel) ?_
    refine tg_iadd hx hb dF_addRectangle_41 ?_
    refine tg_top (y := nI ((N 7 f) + (1))) (nI_add _ _) ?_
    refine tg_put (T := TF) (N := 15) (ty := .int) hx hb hts inF tyF tyF_ok nmF hown hK (hT f hf).1 rfl rfl 7 (by decide) (hts _ wf_F_41) (fun _ z => z) rfl (by decide +kernel) rfl rfl (Nat.le_of_ble_eq_true rfl) dF_addRectangle_42 ?_
    refine tg_w (hg_w_N7 f ((N 7 f) + (1))) ?_
    have ei : i = b0 + 1 := by omega
    subst ei
    exact tg_vret hx hb hlocks hr hQ ⟨rfl, rfl, rfl, rfl⟩ dF_addRectangle_45
  · have q_1' := q_1
    have h_4 : i ≤ b0 := Nat.le_of_not_lt fun z => q_1 ((nI_ltI (by omega) (by omega)).mpr z)
    refine tg_aload_n hx hb dF_addRectangle_17 rfl rfl ?_
    refine tg_get (T := TF) (N := 15) hx hb hts inF hown hK (hT f hf).1 rfl rfl 6 (by decide) (hts _ wf_F_37) (fun _ z => z) rfl dF_addRectangle_18 ?_
    refine tg_iload hx hb dF_addRectangle_21 rfl ?_
    refine tg_dup2 hx hb dF_addRectangle_23 rfl rfl ?_
    refine tg_iald (t0 := 0) hx hb hK (hT f hf).2 rfl rfl (x := i) (by decide) (by omega) dF_addRectangle_24 ?_
    refine tg_iload hx hb dF_addRectangle_25 rfl ?_
    refine tg_ior hx hb dF_addRectangle_27 ?_
    refine tg_iast (t0 := 0) hx hb hK (hT f hf).2 rfl rfl (x := i) (v := ((va_up sp f (hg_or (sp f) t0 (i) (hg_cb l0 r0))) f (i)) ||| (hg_cb l0 r0)) (by decide) (by omega) dF_addRectangle_28 ?_
    refine tg_w (hg_w_sp f i (((va_up sp f (hg_or (sp f) t0 (i) (hg_cb l0 r0))) f (i)) ||| (hg_cb l0 r0))) ?_
    refine tg_iinc (v := nI (i + 1)) (L' := [(0, .ref (ad 8 f)), (1, .int (nI (t0))), (2, .int (nI (l0))), (3, .int (nI (b0))), (4, .int (nI (r0))), (5, .int (hg_cb l0 r0)), (6, .int (nI (i + 1)))]) hx hb dF_addRectangle_29 rfl (nI_1 _) (by decide) rfl rfl ?_
    refine tg_goto (tgt := 11) hx hb dF_addRectangle_32 (by decide) ?_
    rw [hg_s00, hg_or_step _ _ hi1]
    exact ih (i + 1) ⟨by omega, by omega⟩ (by omega)
set_option maxRecDepth 100000 in
set_option maxHeartbeats 4000000 in
/-- nothing is dirty from now -/
theorem c_fill (hO : hg_ok ok) : tg_Met l yA_fill wsA_fill ({ frames := 0, cells := 0, slots := 0, locals := 0 }) D vwCl (hg_tys cI cF cZ cJ cA cB) F Nn ad ok (hg_w ad cF cI G a dr N bc sp μ) [.ref (ad 2 0), .int (nI (0))] (tg_po ad ok fun r w1 => r = none ∧ w1 = (hg_w ad cF cI G a (hg_z dr 20) N bc sp μ)) := by
  refine tg_start (cc := cA_fill) (maxL := 4) (ret := none) (by decide) rfl (Nat.le_of_ble_eq_true rfl) ?_
  intro p e R s m args below meth c Q hx hb hml hr hlocks hown hname hts hK hN hR hQ
  have hown : s.vm.findClass "java/util/Arrays" = some m.cls := hown
  have hts : ∀ w ∈ lw_g, w.before args s = true := fun w z => hts w (List.mem_cons_of_mem _ z)
  refine tg_iconst (v := nI 0) hx hb dA_fill_0 (by decide +kernel) ?_
  refine tg_istore_n (L' := [(0, .ref (ad 2 0)), (1, .int (nI (0))), (2, .int (nI (0)))]) hx hb dA_fill_1 rfl (by decide) rfl rfl ?_
  refine tg_aload_n hx hb dA_fill_2 rfl rfl ?_
  refine tg_alen (t0 := 0) hx hb hK (hO.1 2 (by decide)) rfl rfl (v := nI 20) (show Int32.ofNat 20 = nI 20 by decide +kernel) dA_fill_3 ?_
  refine tg_istore_n (L' := [(0, .ref (ad 2 0)), (1, .int (nI (0))), (2, .int (nI (0))), (3, .int (nI (20)))]) hx hb dA_fill_4 rfl (by decide) rfl rfl ?_
  refine tg_w (w' := (hg_w ad cF cI G a (hg_z dr 0) N bc sp μ)) (by rw [hg_z_0]) ?_
  refine tg_loop (fun i : Nat => i ≤ 20) (fun i => 20 - i) (fun i => tg_W p l e R s m args below meth c Q 4 D vwCl F ad ok (hg_w ad cF cI G a (hg_z dr i) N bc sp μ) [(0, .ref (ad 2 0)), (1, .int (nI (0))), (2, .int (nI (i))), (3, .int (nI (20)))] 0 0 5 []) ?_ 0 (Nat.zero_le _)
  intro i hi1 ih
  refine tg_iload_n hx hb dA_fill_5 rfl rfl ?_
  refine tg_iload_n hx hb dA_fill_6 rfl rfl ?_
  refine tg_icmp_ge (tgt := 20) hx hb dA_fill_7 (by decide) (fun q_1 => ?_) (fun q_1 => ?_)
  · have q_1' := q_1
    have h_2 : 20 ≤ i := (nI_leI (by omega) (by omega)).mp q_1
    have ei : i = 20 := by omega
    subst ei
    exact tg_vret hx hb hlocks hr hQ ⟨rfl, rfl, rfl, rfl⟩ dA_fill_20
  · have q_1' := q_1
    have h_3 : i < 20 := Nat.lt_of_not_le fun z => q_1 ((nI_leI (by omega) (by omega)).mpr z)
    refine tg_aload_n hx hb dA_fill_10 rfl rfl ?_
    refine tg_iload_n hx hb dA_fill_11 rfl rfl ?_
    refine tg_iload_n hx hb dA_fill_12 rfl rfl ?_
    refine tg_iast (t0 := 0) hx hb hK (hO.1 2 (by decide)) rfl rfl (x := i) (v := nI (0)) (by decide) (by omega) dA_fill_13 ?_
    refine tg_wp (hg_w_dr hO i (nI (0))) ?_
    refine tg_iinc (v := nI (i + 1)) (L' := [(0, .ref (ad 2 0)), (1, .int (nI (0))), (2, .int (nI (i + 1))), (3, .int (nI (20)))]) hx hb dA_fill_14 rfl (nI_1 _) (by decide) rfl rfl ?_
    refine tg_goto (tgt := 5) hx hb dA_fill_17 (by decide) ?_
    rw [hg_z_s]
    exact ih (i + 1) (by omega) (by omega)
end HGB
end
section
/-! the face -/
def hg_tv (N : Nat → Nat → Nat) (f q : Nat) : Nat := if q = 0 then (if N 8 f = 0 then 0 else 1) else if q = 1 then (if N 9 f = 0 then 0 else 1) else N 10 f
section HGC
variable {l : Launch} {D : va_G} {F : Nat → Prop} {Nn : State → Heap → Prop} {ad : Nat → Nat → Nat} {ok : Nat → Nat → Prop} {cF cI cZ cJ cA cB : ClassId} {G : Nat → Nat} {a : Nat → Nat → Option Nat} {dr : Nat → Int32} {N : Nat → Nat → Nat} {bc : Nat → Int32} {sp : Nat → Nat → Int32} {μ : Nat → Nat → va_E} {T : Nat → Prop} {w : Nat → Nat → va_E}
set_option maxRecDepth 100000 in
set_option maxHeartbeats 4000000 in
/-- the formula of this name -/
theorem c_formulaNamed (hO : hg_ok ok) (hT : ∀ f, T f → ok 8 f ∧ ok 9 f) (hMv : tg_Mv F Nn) (hB : ∀ j u, N j u < 1000000) (x y : Nat) (hx9 : x < 20) (hy9 : y < 20) (f : Nat) (hf : T f) (ho : a 0 (20 * x + y) = some (ad 8 f)) (h0 : N 0 f = 20 * x + y) : tg_Met l yH_formulaNamed wsH_formulaNamed ({ frames := 1, cells := 0, slots := 0, locals := 40 }) D vwCl (hg_tys cI cF cZ cJ cA cB) F Nn ad ok (hg_w ad cF cI G a dr N bc sp μ) [.ref (ad 0 0), .int (nI (x)), .int (nI (y))] (tg_po ad ok fun r w1 => r = some (.ref (ad 8 f)) ∧ w1 = (hg_w ad cF cI G a dr N bc sp μ)) := by
  refine tg_start (cc := cH_formulaNamed) (maxL := 5) (ret := some (.object "HangGraph$Formula")) (by decide) rfl (Nat.le_of_ble_eq_true rfl) ?_
  intro p e R s m args below meth c Q hx hb hml hr hlocks hown hname hts hK hN hR hQ
  have hown : s.vm.findClass "HangGraph" = some m.cls := hown
  have hts : ∀ w ∈ lw_g, w.before args s = true := fun w z => hts w (List.mem_cons_of_mem _ z)
  refine tg_iload_n hx hb dH_formulaNamed_0 rfl rfl ?_
  refine tg_iload_n hx hb dH_formulaNamed_1 rfl rfl ?_
  refine tg_callS (As := [.int (nI (x)), .int (nI (y))]) (rest := []) ⟨hx, hb, hml, hown, hts⟩ hK hN hMv (c_cellAt x y) (va_cwS 2 hts (lg_S wm_H_106 wt_H_cellAt wn_H wc_H_cellAt) rfl rfl rfl ⟨by decide, by decide, rfl⟩ ⟨by rw [hR]; exact Nat.le_of_ble_eq_true rfl, by rw [hR]; exact Nat.le_of_ble_eq_true rfl⟩) rfl (Nat.le_of_ble_eq_true rfl) ⟨by rw [hR]; exact Nat.le_of_ble_eq_true rfl, by rw [hR]; exact Nat.le_of_ble_eq_true rfl⟩ rfl dH_formulaNamed_2 (tg_kv rfl rfl ?_)
  refine tg_istore_n (L' := [(0, .ref (ad 0 0)), (1, .int (nI (x))), (2, .int (nI (y))), (3, .int (nI (20 * x + y)))]) hx hb dH_formulaNamed_5 rfl (by decide) rfl rfl ?_
  refine tg_aload_n hx hb dH_formulaNamed_6 rfl rfl ?_
  refine tg_get (T := TH) (N := 4) hx hb hts inH hown hK (hO.1 0 (by decide)) rfl rfl 0 (by decide) (hts _ wf_H_11) (fun _ z => z) rfl dH_formulaNamed_7 ?_
  refine tg_iload_n hx hb dH_formulaNamed_10 rfl rfl ?_
  refine tg_aald (t0 := 1) hx hb hK (hO.1 1 (by decide)) rfl rfl (x := 20 * x + y) (by decide) (by omega) dH_formulaNamed_11 ?_
  refine tg_st (st' := .ref (ad 8 f) :: []) (by rw [ho]; rfl) ?_
  refine tg_astore (L' := [(0, .ref (ad 0 0)), (1, .int (nI (x))), (2, .int (nI (y))), (3, .int (nI (20 * x + y))), (4, .ref (ad 8 f))]) hx hb dH_formulaNamed_12 (by decide) rfl rfl ?_
  refine tg_aload hx hb dH_formulaNamed_14 rfl ?_
  refine tg_ifnull hx hb dH_formulaNamed_16 ?_
  refine tg_aload hx hb dH_formulaNamed_19 rfl ?_
  refine tg_get (T := TF) (N := 15) hx hb hts inF hown hK (hT f hf).1 rfl rfl 0 (by decide) (hts _ wf_H_109) (fun _ z => z) rfl dH_formulaNamed_21 ?_
  have hb_1 := hB 0 f
  refine tg_iload_n hx hb dH_formulaNamed_24 rfl rfl ?_
  refine tg_icmp_eq (tgt := 38) hx hb dH_formulaNamed_25 (by decide) (fun q_2 => ?_) (fun q_2 => ?_)
  · have q_2' := q_2
    have h_3 : N 0 f = 20 * x + y := (nI_eq (by omega) (by omega)).mp q_2
    refine tg_aload hx hb dH_formulaNamed_38 rfl ?_
    exact tg_aret hx hb hlocks hr hQ (Or.inr ⟨_, rfl⟩) ⟨rfl, rfl, rfl, rfl⟩ dH_formulaNamed_40
  · have q_2' := q_2
    have h_4 : N 0 f ≠ 20 * x + y := fun z => q_2 ((nI_eq (by omega) (by omega)).mpr z)
    omega
/-- no formula has the first cell k -/
def hg_un (T : Nat → Prop) (ad : Nat → Nat → Nat) (a : Nat → Nat → Option Nat) (N : Nat → Nat → Nat) (k : Nat) : Prop := a 0 k = none ∨ ∃ f, T f ∧ a 0 k = some (ad 8 f) ∧ N 0 f ≠ k
set_option maxRecDepth 100000 in
set_option maxHeartbeats 4000000 in
/-- no formula of this name -/
theorem t_formulaNamed (hl9 : l.stackTraces = false) (hO : hg_ok ok) (hT : ∀ f, T f → ok 8 f ∧ ok 9 f) (hB : ∀ j u, N j u < 1000000) (x y : Nat) (hx9 : x < 20) (hy9 : y < 20) (hbad : hg_un T ad a N (20 * x + y)) : tg_MetT l yH_formulaNamed wsH_formulaNamed ({ frames := 6, cells := 1, slots := 6, locals := 90 }) D vwCl (hg_tys cI cF cZ cJ cA cB) F (hg_N F) ad ok (hg_w ad cF cI G a dr N bc sp μ) [.ref (ad 0 0), .int (nI (x)), .int (nI (y))] "java/util/NoSuchElementException" := by
  refine tg_startT (cc := cH_formulaNamed) (maxL := 5) (ret := some (.object "HangGraph$Formula")) (by decide) rfl (Nat.le_of_ble_eq_true rfl) ?_
  intro p e R s m args below meth c Q hx hb hml hr hlocks hown hts hK hN hnt hR hQ
  have hown : s.vm.findClass "HangGraph" = some m.cls := hown
  have hts : ∀ w ∈ lw_g, w.before args s = true := fun w z => hts w (List.mem_cons_of_mem _ z)
  have hMv := hg_Mv F
  refine tg_iload_n hx hb dH_formulaNamed_0 rfl rfl ?_
  refine tg_iload_n hx hb dH_formulaNamed_1 rfl rfl ?_
  refine tg_callS (As := [.int (nI (x)), .int (nI (y))]) (rest := []) ⟨hx, hb, hml, hown, hts⟩ hK hN hMv (c_cellAt x y) (va_cwS 2 hts (lg_S wm_H_106 wt_H_cellAt wn_H wc_H_cellAt) rfl rfl rfl ⟨by decide, by decide, rfl⟩ ⟨by rw [hR]; exact Nat.le_of_ble_eq_true rfl, by rw [hR]; exact Nat.le_of_ble_eq_true rfl⟩) rfl (Nat.le_of_ble_eq_true rfl) ⟨by rw [hR]; exact Nat.le_of_ble_eq_true rfl, by rw [hR]; exact Nat.le_of_ble_eq_true rfl⟩ rfl dH_formulaNamed_2 (tg_kv rfl rfl ?_)
  refine tg_istore_n (L' := [(0, .ref (ad 0 0)), (1, .int (nI (x))), (2, .int (nI (y))), (3, .int (nI (20 * x + y)))]) hx hb dH_formulaNamed_5 rfl (by decide) rfl rfl ?_
  refine tg_aload_n hx hb dH_formulaNamed_6 rfl rfl ?_
  refine tg_get (T := TH) (N := 4) hx hb hts inH hown hK (hO.1 0 (by decide)) rfl rfl 0 (by decide) (hts _ wf_H_11) (fun _ z => z) rfl dH_formulaNamed_7 ?_
  refine tg_iload_n hx hb dH_formulaNamed_10 rfl rfl ?_
  refine tg_aald (t0 := 1) hx hb hK (hO.1 1 (by decide)) rfl rfl (x := 20 * x + y) (by decide) (by omega) dH_formulaNamed_11 ?_
  rcases hbad with ho1 | ⟨f, hfT, ho1, hne⟩
  · refine tg_st (st' := [.null]) (by rw [ho1]; rfl) ?_
    refine tg_astoreN (L' := [(0, .ref (ad 0 0)), (1, .int (nI (x))), (2, .int (nI (y))), (3, .int (nI (20 * x + y))), (4, .null)]) hx hb dH_formulaNamed_12 (by decide) rfl rfl ?_
    refine tg_aloadN hx hb dH_formulaNamed_14 rfl ?_
    refine tg_ifnullN (tgt := 28) hx hb dH_formulaNamed_16 (by decide) ?_
    exact tg_throwN hx hb hml hl9 hown hts hN wk_H_123 wn_java_util_NoSuchElementException (show ((125, "no formula has this first cell") : Nat × String) ∈ hg_strs by decide) hnt hlocks hQ dH_formulaNamed_28 dH_formulaNamed_31 dH_formulaNamed_32 dH_formulaNamed_34 dH_formulaNamed_37 (by rw [hR]; exact Nat.le_of_ble_eq_true rfl) (by rw [hR]; exact Nat.le_of_ble_eq_true rfl) (by rw [hR]; exact Nat.le_of_ble_eq_true rfl) (by rw [hR]; exact Nat.le_of_ble_eq_true rfl) (Nat.le_of_ble_eq_true rfl) (Nat.le_of_ble_eq_true rfl)
  · refine tg_st (st' := [.ref (ad 8 f)]) (by rw [ho1]; rfl) ?_
    refine tg_astore (L' := [(0, .ref (ad 0 0)), (1, .int (nI (x))), (2, .int (nI (y))), (3, .int (nI (20 * x + y))), (4, .ref (ad 8 f))]) hx hb dH_formulaNamed_12 (by decide) rfl rfl ?_
    refine tg_aload hx hb dH_formulaNamed_14 rfl ?_
    refine tg_ifnull hx hb dH_formulaNamed_16 ?_
    refine tg_aload hx hb dH_formulaNamed_19 rfl ?_
    refine tg_get (T := TF) (N := 15) hx hb hts inF hown hK (hT f hfT).1 rfl rfl 0 (by decide) (hts _ wf_H_109) (fun _ z => z) rfl dH_formulaNamed_21 ?_
    have hb_1 := hB 0 f
    refine tg_iload_n hx hb dH_formulaNamed_24 rfl rfl ?_
    refine tg_icmp_eq (tgt := 38) hx hb dH_formulaNamed_25 (by decide) (fun q_2 => ?_) (fun q_2 => ?_)
    · have q_2' := q_2
      have h_3 : N 0 f = 20 * x + y := (nI_eq (by omega) (by omega)).mp q_2
      omega
    · have q_2' := q_2
      have h_4 : N 0 f ≠ 20 * x + y := fun z => q_2 ((nI_eq (by omega) (by omega)).mpr z)
      exact tg_throwN hx hb hml hl9 hown hts hN wk_H_123 wn_java_util_NoSuchElementException (show ((125, "no formula has this first cell") : Nat × String) ∈ hg_strs by decide) hnt hlocks hQ dH_formulaNamed_28 dH_formulaNamed_31 dH_formulaNamed_32 dH_formulaNamed_34 dH_formulaNamed_37 (by rw [hR]; exact Nat.le_of_ble_eq_true rfl) (by rw [hR]; exact Nat.le_of_ble_eq_true rfl) (by rw [hR]; exact Nat.le_of_ble_eq_true rfl) (by rw [hR]; exact Nat.le_of_ble_eq_true rfl) (Nat.le_of_ble_eq_true rfl) (Nat.le_of_ble_eq_true rfl)
set_option maxRecDepth 100000 in
set_option maxHeartbeats 4000000 in
/-- one more cell is dirty -/
theorem c_touch (hO : hg_ok ok) (hMv : tg_Mv F Nn) (x y : Nat) (hx9 : x < 20) (hy9 : y < 20) : tg_Met l yH_touch wsH_touch ({ frames := 1, cells := 0, slots := 0, locals := 40 }) D vwCl (hg_tys cI cF cZ cJ cA cB) F Nn ad ok (hg_w ad cF cI G a dr N bc sp μ) [.ref (ad 0 0), .int (nI (x)), .int (nI (y))] (tg_po ad ok fun r w1 => r = none ∧ w1 = (hg_w ad cF cI G a (upd dr x ((dr x) ||| (hg_cb y y))) N bc sp μ)) := by
  refine tg_start (cc := cH_touch) (maxL := 3) (ret := none) (by decide) rfl (Nat.le_of_ble_eq_true rfl) ?_
  intro p e R s m args below meth c Q hx hb hml hr hlocks hown hname hts hK hN hR hQ
  have hown : s.vm.findClass "HangGraph" = some m.cls := hown
  have hts : ∀ w ∈ lw_g, w.before args s = true := fun w z => hts w (List.mem_cons_of_mem _ z)
  refine tg_iload_n hx hb dH_touch_0 rfl rfl ?_
  refine tg_iload_n hx hb dH_touch_1 rfl rfl ?_
  refine tg_callS (As := [.int (nI (x)), .int (nI (y))]) (rest := []) ⟨hx, hb, hml, hown, hts⟩ hK hN hMv (c_requireCell x y hx9 hy9) (va_cwS 2 hts (lg_S wm_H_30 wt_H_requireCell wn_H wc_H_requireCell) rfl rfl rfl ⟨by decide, by decide, rfl⟩ ⟨by rw [hR]; exact Nat.le_of_ble_eq_true rfl, by rw [hR]; exact Nat.le_of_ble_eq_true rfl⟩) rfl (Nat.le_of_ble_eq_true rfl) ⟨by rw [hR]; exact Nat.le_of_ble_eq_true rfl, by rw [hR]; exact Nat.le_of_ble_eq_true rfl⟩ rfl dH_touch_2 (tg_kn rfl rfl ?_)
  refine tg_aload_n hx hb dH_touch_5 rfl rfl ?_
  refine tg_get (T := TH) (N := 4) hx hb hts inH hown hK (hO.1 0 (by decide)) rfl rfl 1 (by decide) (hts _ wf_H_15) (fun _ z => z) rfl dH_touch_6 ?_
  refine tg_iload_n hx hb dH_touch_9 rfl rfl ?_
  refine tg_dup2 hx hb dH_touch_10 rfl rfl ?_
  refine tg_iald (t0 := 0) hx hb hK (hO.1 2 (by decide)) rfl rfl (x := x) (by decide) (by omega) dH_touch_11 ?_
  refine tg_iload_n hx hb dH_touch_12 rfl rfl ?_
  refine tg_iload_n hx hb dH_touch_13 rfl rfl ?_
  refine tg_callS (As := [.int (nI (y)), .int (nI (y))]) (rest := [.int (dr (x)), .int (nI (x)), .ref (ad 2 0)]) ⟨hx, hb, hml, hown, hts⟩ hK hN hMv (c_columnBits y y (Nat.le_refl _) hy9) (va_cwS 2 hts (lg_S wm_H_67 wt_H_columnBits wn_H wc_H_columnBits) rfl rfl rfl ⟨by decide, by decide, rfl⟩ ⟨by rw [hR]; exact Nat.le_of_ble_eq_true rfl, by rw [hR]; exact Nat.le_of_ble_eq_true rfl⟩) rfl (Nat.le_of_ble_eq_true rfl) ⟨by rw [hR]; exact Nat.le_of_ble_eq_true rfl, by rw [hR]; exact Nat.le_of_ble_eq_true rfl⟩ rfl dH_touch_14 (tg_kv rfl rfl ?_)
  refine tg_ior hx hb dH_touch_17 ?_
  refine tg_iast (t0 := 0) hx hb hK (hO.1 2 (by decide)) rfl rfl (x := x) (v := (dr (x)) ||| (hg_cb y y)) (by decide) (by omega) dH_touch_18 ?_
  refine tg_wp (hg_w_dr hO x ((dr (x)) ||| (hg_cb y y))) ?_
  exact tg_vret hx hb hlocks hr hQ ⟨rfl, rfl, rfl, rfl⟩ dH_touch_19
set_option maxRecDepth 100000 in
set_option maxHeartbeats 4000000 in
/-- a cell of no block -/
theorem c_owner0 (hO : hg_ok ok) (hMv : tg_Mv F Nn) (x y : Nat) (hx9 : x < 20) (hy9 : y < 20) (ho : a 0 (20 * x + y) = none) : tg_Met l yH_owner wsH_owner ({ frames := 1, cells := 0, slots := 0, locals := 40 }) D vwCl (hg_tys cI cF cZ cJ cA cB) F Nn ad ok (hg_w ad cF cI G a dr N bc sp μ) [.ref (ad 0 0), .int (nI (x)), .int (nI (y))] (tg_po ad ok fun r w1 => r = some (.int (-1)) ∧ w1 = (hg_w ad cF cI G a dr N bc sp μ)) := by
  refine tg_start (cc := cH_owner) (maxL := 4) (ret := some .int) (by decide) rfl (Nat.le_of_ble_eq_true rfl) ?_
  intro p e R s m args below meth c Q hx hb hml hr hlocks hown hname hts hK hN hR hQ
  have hown : s.vm.findClass "HangGraph" = some m.cls := hown
  have hts : ∀ w ∈ lw_g, w.before args s = true := fun w z => hts w (List.mem_cons_of_mem _ z)
  refine tg_iload_n hx hb dH_owner_0 rfl rfl ?_
  refine tg_iload_n hx hb dH_owner_1 rfl rfl ?_
  refine tg_callS (As := [.int (nI (x)), .int (nI (y))]) (rest := []) ⟨hx, hb, hml, hown, hts⟩ hK hN hMv (c_requireCell x y hx9 hy9) (va_cwS 2 hts (lg_S wm_H_30 wt_H_requireCell wn_H wc_H_requireCell) rfl rfl rfl ⟨by decide, by decide, rfl⟩ ⟨by rw [hR]; exact Nat.le_of_ble_eq_true rfl, by rw [hR]; exact Nat.le_of_ble_eq_true rfl⟩) rfl (Nat.le_of_ble_eq_true rfl) ⟨by rw [hR]; exact Nat.le_of_ble_eq_true rfl, by rw [hR]; exact Nat.le_of_ble_eq_true rfl⟩ rfl dH_owner_2 (tg_kn rfl rfl ?_)
  refine tg_aload_n hx hb dH_owner_5 rfl rfl ?_
  refine tg_get (T := TH) (N := 4) hx hb hts inH hown hK (hO.1 0 (by decide)) rfl rfl 0 (by decide) (hts _ wf_H_11) (fun _ z => z) rfl dH_owner_6 ?_
  refine tg_iload_n hx hb dH_owner_9 rfl rfl ?_
  refine tg_iload_n hx hb dH_owner_10 rfl rfl ?_
  refine tg_callS (As := [.int (nI (x)), .int (nI (y))]) (rest := [.ref (ad 1 0)]) ⟨hx, hb, hml, hown, hts⟩ hK hN hMv (c_cellAt x y) (va_cwS 2 hts (lg_S wm_H_106 wt_H_cellAt wn_H wc_H_cellAt) rfl rfl rfl ⟨by decide, by decide, rfl⟩ ⟨by rw [hR]; exact Nat.le_of_ble_eq_true rfl, by rw [hR]; exact Nat.le_of_ble_eq_true rfl⟩) rfl (Nat.le_of_ble_eq_true rfl) ⟨by rw [hR]; exact Nat.le_of_ble_eq_true rfl, by rw [hR]; exact Nat.le_of_ble_eq_true rfl⟩ rfl dH_owner_11 (tg_kv rfl rfl ?_)
  refine tg_aald (t0 := 1) hx hb hK (hO.1 1 (by decide)) rfl rfl (x := 20 * x + y) (by decide) (by omega) dH_owner_14 ?_
  refine tg_st (st' := .null :: []) (by rw [ho]; rfl) ?_
  refine tg_astore_nN (L' := [(0, .ref (ad 0 0)), (1, .int (nI (x))), (2, .int (nI (y))), (3, .null)]) hx hb dH_owner_15 rfl (by decide) rfl rfl ?_
  refine tg_aload_nN hx hb dH_owner_16 rfl rfl ?_
  refine tg_ifnonnullN hx hb dH_owner_17 ?_
  refine tg_iconst (v := (-1 : Int32)) hx hb dH_owner_20 (by decide +kernel) ?_
  refine tg_goto (tgt := 28) hx hb dH_owner_21 (by decide) ?_
  exact tg_iret hx hb hlocks hr hQ ⟨rfl, rfl, rfl, rfl⟩ dH_owner_28
set_option maxRecDepth 100000 in
set_option maxHeartbeats 4000000 in
/-- a cell of f's block -/
theorem c_owner1 (hO : hg_ok ok) (hT : ∀ f, T f → ok 8 f ∧ ok 9 f) (hMv : tg_Mv F Nn) (x y : Nat) (hx9 : x < 20) (hy9 : y < 20) (f : Nat) (hf : T f) (ho : a 0 (20 * x + y) = some (ad 8 f)) : tg_Met l yH_owner wsH_owner ({ frames := 1, cells := 0, slots := 0, locals := 40 }) D vwCl (hg_tys cI cF cZ cJ cA cB) F Nn ad ok (hg_w ad cF cI G a dr N bc sp μ) [.ref (ad 0 0), .int (nI (x)), .int (nI (y))] (tg_po ad ok fun r w1 => r = some (.int (nI (N 0 f))) ∧ w1 = (hg_w ad cF cI G a dr N bc sp μ)) := by
  refine tg_start (cc := cH_owner) (maxL := 4) (ret := some .int) (by decide) rfl (Nat.le_of_ble_eq_true rfl) ?_
  intro p e R s m args below meth c Q hx hb hml hr hlocks hown hname hts hK hN hR hQ
  have hown : s.vm.findClass "HangGraph" = some m.cls := hown
  have hts : ∀ w ∈ lw_g, w.before args s = true := fun w z => hts w (List.mem_cons_of_mem _ z)
  refine tg_iload_n hx hb dH_owner_0 rfl rfl ?_
  refine tg_iload_n hx hb dH_owner_1 rfl rfl ?_
  refine tg_callS (As := [.int (nI (x)), .int (nI (y))]) (rest := []) ⟨hx, hb, hml, hown, hts⟩ hK hN hMv (c_requireCell x y hx9 hy9) (va_cwS 2 hts (lg_S wm_H_30 wt_H_requireCell wn_H wc_H_requireCell) rfl rfl rfl ⟨by decide, by decide, rfl⟩ ⟨by rw [hR]; exact Nat.le_of_ble_eq_true rfl, by rw [hR]; exact Nat.le_of_ble_eq_true rfl⟩) rfl (Nat.le_of_ble_eq_true rfl) ⟨by rw [hR]; exact Nat.le_of_ble_eq_true rfl, by rw [hR]; exact Nat.le_of_ble_eq_true rfl⟩ rfl dH_owner_2 (tg_kn rfl rfl ?_)
  refine tg_aload_n hx hb dH_owner_5 rfl rfl ?_
  refine tg_get (T := TH) (N := 4) hx hb hts inH hown hK (hO.1 0 (by decide)) rfl rfl 0 (by decide) (hts _ wf_H_11) (fun _ z => z) rfl dH_owner_6 ?_
  refine tg_iload_n hx hb dH_owner_9 rfl rfl ?_
  refine tg_iload_n hx hb dH_owner_10 rfl rfl ?_
  refine tg_callS (As := [.int (nI (x)), .int (nI (y))]) (rest := [.ref (ad 1 0)]) ⟨hx, hb, hml, hown, hts⟩ hK hN hMv (c_cellAt x y) (va_cwS 2 hts (lg_S wm_H_106 wt_H_cellAt wn_H wc_H_cellAt) rfl rfl rfl ⟨by decide, by decide, rfl⟩ ⟨by rw [hR]; exact Nat.le_of_ble_eq_true rfl, by rw [hR]; exact Nat.le_of_ble_eq_true rfl⟩) rfl (Nat.le_of_ble_eq_true rfl) ⟨by rw [hR]; exact Nat.le_of_ble_eq_true rfl, by rw [hR]; exact Nat.le_of_ble_eq_true rfl⟩ rfl dH_owner_11 (tg_kv rfl rfl ?_)
  refine tg_aald (t0 := 1) hx hb hK (hO.1 1 (by decide)) rfl rfl (x := 20 * x + y) (by decide) (by omega) dH_owner_14 ?_
  refine tg_st (st' := .ref (ad 8 f) :: []) (by rw [ho]; rfl) ?_
  refine tg_astore_n (L' := [(0, .ref (ad 0 0)), (1, .int (nI (x))), (2, .int (nI (y))), (3, .ref (ad 8 f))]) hx hb dH_owner_15 rfl (by decide) rfl rfl ?_
  refine tg_aload_n hx hb dH_owner_16 rfl rfl ?_
  refine tg_ifnonnull (tgt := 24) hx hb dH_owner_17 (by decide) ?_
  refine tg_aload_n hx hb dH_owner_24 rfl rfl ?_
  refine tg_get (T := TF) (N := 15) hx hb hts inF hown hK (hT f hf).1 rfl rfl 0 (by decide) (hts _ wf_H_109) (fun _ z => z) rfl dH_owner_25 ?_
  exact tg_iret hx hb hlocks hr hQ ⟨rfl, rfl, rfl, rfl⟩ dH_owner_28
set_option maxRecDepth 100000 in
set_option maxHeartbeats 4000000 in
/-- what is told of f -/
theorem c_told (hO : hg_ok ok) (hT : ∀ f, T f → ok 8 f ∧ ok 9 f) (hMv : tg_Mv F Nn) (hB : ∀ j u, N j u < 1000000) (x y : Nat) (hx9 : x < 20) (hy9 : y < 20) (f : Nat) (hf : T f) (ho : a 0 (20 * x + y) = some (ad 8 f)) (h0 : N 0 f = 20 * x + y) (q : Nat) (hq : q ≤ 2) : tg_Met l yH_told wsH_told ({ frames := 2, cells := 0, slots := 0, locals := 90 }) D vwCl (hg_tys cI cF cZ cJ cA cB) F Nn ad ok (hg_w ad cF cI G a dr N bc sp μ) [.ref (ad 0 0), .int (nI (x)), .int (nI (y)), .int (nI (q))] (tg_po ad ok fun r w1 => r = some (.int (nI (hg_tv N f q))) ∧ w1 = (hg_w ad cF cI G a dr N bc sp μ)) := by
  refine tg_start (cc := cH_told) (maxL := 5) (ret := some .int) (by decide) rfl (Nat.le_of_ble_eq_true rfl) ?_
  intro p e R s m args below meth c Q hx hb hml hr hlocks hown hname hts hK hN hR hQ
  have hown : s.vm.findClass "HangGraph" = some m.cls := hown
  have hts : ∀ w ∈ lw_g, w.before args s = true := fun w z => hts w (List.mem_cons_of_mem _ z)
  refine tg_iload_n hx hb dH_told_0 rfl rfl ?_
  refine tg_iload_n hx hb dH_told_1 rfl rfl ?_
  refine tg_callS (As := [.int (nI (x)), .int (nI (y))]) (rest := []) ⟨hx, hb, hml, hown, hts⟩ hK hN hMv (c_requireCell x y hx9 hy9) (va_cwS 2 hts (lg_S wm_H_30 wt_H_requireCell wn_H wc_H_requireCell) rfl rfl rfl ⟨by decide, by decide, rfl⟩ ⟨by rw [hR]; exact Nat.le_of_ble_eq_true rfl, by rw [hR]; exact Nat.le_of_ble_eq_true rfl⟩) rfl (Nat.le_of_ble_eq_true rfl) ⟨by rw [hR]; exact Nat.le_of_ble_eq_true rfl, by rw [hR]; exact Nat.le_of_ble_eq_true rfl⟩ rfl dH_told_2 (tg_kn rfl rfl ?_)
  refine tg_iload_n hx hb dH_told_5 rfl rfl ?_
  refine tg_if_lt (tgt := 14) hx hb dH_told_6 (by decide) (fun q_1 => ?_) (fun q_1 => ?_)
  · have q_1' := q_1
    rw [← nI_0] at q_1
    have h_2 : q < 0 := (nI_ltI (by omega) (by omega)).mp q_1
    omega
  · have q_1' := q_1
    rw [← nI_0] at q_1
    have h_3 : 0 ≤ q := Nat.le_of_not_lt fun z => q_1 ((nI_ltI (by omega) (by omega)).mpr z)
    refine tg_iload_n hx hb dH_told_9 rfl rfl ?_
    refine tg_iconst (v := nI 2) hx hb dH_told_10 (by decide +kernel) ?_
    refine tg_icmp_le (tgt := 24) hx hb dH_told_11 (by decide) (fun q_4 => ?_) (fun q_4 => ?_)
    · have q_4' := q_4
      have h_5 : q ≤ 2 := (nI_leI (by omega) (by omega)).mp q_4
      refine tg_aload_n hx hb dH_told_24 rfl rfl ?_
      refine tg_iload_n hx hb dH_told_25 rfl rfl ?_
      refine tg_iload_n hx hb dH_told_26 rfl rfl ?_
      refine tg_callV (C := "HangGraph") (As := [.int (nI (x)), .int (nI (y))]) (rest := []) ⟨hx, hb, hml, hown, hts⟩ hK hN hMv (hO.1 0 (by decide)) rfl rfl rfl (c_formulaNamed hO hT hMv hB x y hx9 hy9 f hf ho h0) (cwV 2 hts (lg_V wm_H_47 wi_H_formulaNamed we_H_formulaNamed wn_H wc_H_formulaNamed) rfl rfl rfl ⟨rfl, by decide, by decide, rfl⟩ ⟨by rw [hR]; exact Nat.le_of_ble_eq_true rfl, by rw [hR]; exact Nat.le_of_ble_eq_true rfl⟩) rfl (Nat.le_of_ble_eq_true rfl) ⟨by rw [hR]; exact Nat.le_of_ble_eq_true rfl, by rw [hR]; exact Nat.le_of_ble_eq_true rfl⟩ rfl dH_told_27 (tg_kv rfl rfl ?_)
      refine tg_astore (L' := [(0, .ref (ad 0 0)), (1, .int (nI (x))), (2, .int (nI (y))), (3, .int (nI (q))), (4, .ref (ad 8 f))]) hx hb dH_told_30 (by decide) rfl rfl ?_
      refine tg_iload_n hx hb dH_told_32 rfl rfl ?_
      refine tg_if_ne (tgt := 50) hx hb dH_told_33 (by decide) (fun q_6 => ?_) (fun q_6 => ?_)
      · have q_6' := q_6
        rw [← nI_0] at q_6
        have h_7 : q ≠ 0 := fun z => q_6 ((nI_eq (by omega) (by omega)).mpr z)
        refine tg_iload_n hx hb dH_told_50 rfl rfl ?_
        refine tg_iconst (v := nI 1) hx hb dH_told_51 (by decide +kernel) ?_
        refine tg_icmp_ne (tgt := 69) hx hb dH_told_52 (by decide) (fun q_8 => ?_) (fun q_8 => ?_)
        · have q_8' := q_8
          have h_9 : q ≠ 1 := fun z => q_8 ((nI_eq (by omega) (by omega)).mpr z)
          refine tg_aload hx hb dH_told_69 rfl ?_
          refine tg_get (T := TF) (N := 15) hx hb hts inF hown hK (hT f hf).1 rfl rfl 10 (by decide) (hts _ wf_H_103) (fun _ z => z) rfl dH_told_71 ?_
          have hb_10 := hB 10 f
          have e9 : hg_tv N f q = N 10 f := by
            have z : q = 2 := by omega
            subst z
            rfl
          exact tg_iret hx hb hlocks hr hQ ⟨rfl, rfl, by rw [e9], rfl⟩ dH_told_74
        · have q_8' := q_8
          have h_11 : q = 1 := (nI_eq (by omega) (by omega)).mp q_8
          refine tg_aload hx hb dH_told_55 rfl ?_
          refine tg_get (T := TF) (N := 15) hx hb hts inF hown hK (hT f hf).1 rfl rfl 9 (by decide) (hts _ wf_H_100) (fun _ z => z) rfl dH_told_57 ?_
          have hb_12 := hB 9 f
          refine tg_if_eq (tgt := 67) hx hb dH_told_60 (by decide) (fun q_13 => ?_) (fun q_13 => ?_)
          · have q_13' := q_13
            rw [← nI_0] at q_13
            have h_14 : N 9 f = 0 := (nI_eq (by omega) (by omega)).mp q_13
            refine tg_iconst (v := nI 0) hx hb dH_told_67 (by decide +kernel) ?_
            have e9 : hg_tv N f q = 0 := by
              have z : q = 1 := by omega
              subst z
              show (if N 9 f = 0 then 0 else 1) = 0
              first | exact if_pos (by omega) | exact if_neg (by omega)
            exact tg_iret hx hb hlocks hr hQ ⟨rfl, rfl, by rw [e9], rfl⟩ dH_told_68
          · have q_13' := q_13
            rw [← nI_0] at q_13
            have h_15 : N 9 f ≠ 0 := fun z => q_13 ((nI_eq (by omega) (by omega)).mpr z)
            refine tg_iconst (v := nI 1) hx hb dH_told_63 (by decide +kernel) ?_
            refine tg_goto (tgt := 68) hx hb dH_told_64 (by decide) ?_
            have e9 : hg_tv N f q = 1 := by
              have z : q = 1 := by omega
              subst z
              show (if N 9 f = 0 then 0 else 1) = 1
              first | exact if_pos (by omega) | exact if_neg (by omega)
            exact tg_iret hx hb hlocks hr hQ ⟨rfl, rfl, by rw [e9], rfl⟩ dH_told_68
      · have q_6' := q_6
        rw [← nI_0] at q_6
        have h_16 : q = 0 := (nI_eq (by omega) (by omega)).mp q_6
        refine tg_aload hx hb dH_told_36 rfl ?_
        refine tg_get (T := TF) (N := 15) hx hb hts inF hown hK (hT f hf).1 rfl rfl 8 (by decide) (hts _ wf_H_96) (fun _ z => z) rfl dH_told_38 ?_
        have hb_17 := hB 8 f
        refine tg_if_eq (tgt := 48) hx hb dH_told_41 (by decide) (fun q_18 => ?_) (fun q_18 => ?_)
        · have q_18' := q_18
          rw [← nI_0] at q_18
          have h_19 : N 8 f = 0 := (nI_eq (by omega) (by omega)).mp q_18
          refine tg_iconst (v := nI 0) hx hb dH_told_48 (by decide +kernel) ?_
          have e9 : hg_tv N f q = 0 := by
            have z : q = 0 := by omega
            subst z
            show (if N 8 f = 0 then 0 else 1) = 0
            first | exact if_pos (by omega) | exact if_neg (by omega)
          exact tg_iret hx hb hlocks hr hQ ⟨rfl, rfl, by rw [e9], rfl⟩ dH_told_49
        · have q_18' := q_18
          rw [← nI_0] at q_18
          have h_20 : N 8 f ≠ 0 := fun z => q_18 ((nI_eq (by omega) (by omega)).mpr z)
          refine tg_iconst (v := nI 1) hx hb dH_told_44 (by decide +kernel) ?_
          refine tg_goto (tgt := 49) hx hb dH_told_45 (by decide) ?_
          have e9 : hg_tv N f q = 1 := by
            have z : q = 0 := by omega
            subst z
            show (if N 8 f = 0 then 0 else 1) = 1
            first | exact if_pos (by omega) | exact if_neg (by omega)
          exact tg_iret hx hb hlocks hr hQ ⟨rfl, rfl, by rw [e9], rfl⟩ dH_told_49
    · have q_4' := q_4
      have h_21 : 2 < q := Nat.lt_of_not_le fun z => q_4 ((nI_leI (by omega) (by omega)).mpr z)
      omega
set_option maxRecDepth 100000 in
set_option maxHeartbeats 4000000 in
/-- f speaks of one more rectangle -/
theorem c_speak (hO : hg_ok ok) (hT : ∀ f, T f → ok 8 f ∧ ok 9 f) (hB : ∀ j u, N j u < 1000000) (x y : Nat) (hx9 : x < 20) (hy9 : y < 20) (f : Nat) (hf : T f) (ho : a 0 (20 * x + y) = some (ad 8 f)) (h0 : N 0 f = 20 * x + y) (t0 l0 b0 r0 : Nat) (ht0 : t0 ≤ b0) (hb0 : b0 < 20) (hl0 : l0 ≤ r0) (hr0 : r0 < 20) (h7 : N 7 f < 20) : tg_Met l yH_speak wsH_speak ({ frames := 2, cells := 0, slots := 0, locals := 90 }) D vwCl (hg_tys cI cF cZ cJ cA cB) F (hg_N F) ad ok (hg_w ad cF cI G a dr N bc sp μ) [.ref (ad 0 0), .int (nI (x)), .int (nI (y)), .int (nI (t0)), .int (nI (l0)), .int (nI (b0)), .int (nI (r0))] (tg_po ad ok fun r w1 => r = some (.int (nI (N 7 f + 1))) ∧ w1 = hg_w ad cF cI G a dr (tg_up N 7 f (N 7 f + 1)) bc (va_up sp f (hg_or (sp f) t0 (b0 + 1) (hg_cb l0 r0))) μ) := by
  refine tg_start (cc := cH_speak) (maxL := 8) (ret := some .int) (by decide) rfl (Nat.le_of_ble_eq_true rfl) ?_
  intro p e R s m args below meth c Q hx hb hml hr hlocks hown hname hts hK hN hR hQ
  have hown : s.vm.findClass "HangGraph" = some m.cls := hown
  have hts : ∀ w ∈ lw_g, w.before args s = true := fun w z => hts w (List.mem_cons_of_mem _ z)
  have hMv := hg_Mv F
  refine tg_iload_n hx hb dH_speak_0 rfl rfl ?_
  refine tg_iload_n hx hb dH_speak_1 rfl rfl ?_
  refine tg_callS (As := [.int (nI (x)), .int (nI (y))]) (rest := []) ⟨hx, hb, hml, hown, hts⟩ hK hN hMv (c_requireCell x y hx9 hy9) (va_cwS 2 hts (lg_S wm_H_30 wt_H_requireCell wn_H wc_H_requireCell) rfl rfl rfl ⟨by decide, by decide, rfl⟩ ⟨by rw [hR]; exact Nat.le_of_ble_eq_true rfl, by rw [hR]; exact Nat.le_of_ble_eq_true rfl⟩) rfl (Nat.le_of_ble_eq_true rfl) ⟨by rw [hR]; exact Nat.le_of_ble_eq_true rfl, by rw [hR]; exact Nat.le_of_ble_eq_true rfl⟩ rfl dH_speak_2 (tg_kn rfl rfl ?_)
  refine tg_iload_n hx hb dH_speak_5 rfl rfl ?_
  refine tg_iload hx hb dH_speak_6 rfl ?_
  refine tg_callS (As := [.int (nI (t0)), .int (nI (b0))]) (rest := []) ⟨hx, hb, hml, hown, hts⟩ hK hN hMv (c_requireSpan t0 b0 ht0 hb0) (va_cwS 2 hts (lg_S wm_H_51 wt_H_requireSpan wn_H wc_H_requireSpan) rfl rfl rfl ⟨by decide, by decide, rfl⟩ ⟨by rw [hR]; exact Nat.le_of_ble_eq_true rfl, by rw [hR]; exact Nat.le_of_ble_eq_true rfl⟩) rfl (Nat.le_of_ble_eq_true rfl) ⟨by rw [hR]; exact Nat.le_of_ble_eq_true rfl, by rw [hR]; exact Nat.le_of_ble_eq_true rfl⟩ rfl dH_speak_8 (tg_kn rfl rfl ?_)
  refine tg_iload hx hb dH_speak_11 rfl ?_
  refine tg_iload hx hb dH_speak_13 rfl ?_
  refine tg_callS (As := [.int (nI (l0)), .int (nI (r0))]) (rest := []) ⟨hx, hb, hml, hown, hts⟩ hK hN hMv (c_requireSpan l0 r0 hl0 hr0) (va_cwS 2 hts (lg_S wm_H_51 wt_H_requireSpan wn_H wc_H_requireSpan) rfl rfl rfl ⟨by decide, by decide, rfl⟩ ⟨by rw [hR]; exact Nat.le_of_ble_eq_true rfl, by rw [hR]; exact Nat.le_of_ble_eq_true rfl⟩) rfl (Nat.le_of_ble_eq_true rfl) ⟨by rw [hR]; exact Nat.le_of_ble_eq_true rfl, by rw [hR]; exact Nat.le_of_ble_eq_true rfl⟩ rfl dH_speak_15 (tg_kn rfl rfl ?_)
  refine tg_aload_n hx hb dH_speak_18 rfl rfl ?_
  refine tg_iload_n hx hb dH_speak_19 rfl rfl ?_
  refine tg_iload_n hx hb dH_speak_20 rfl rfl ?_
  refine tg_callV (C := "HangGraph") (As := [.int (nI (x)), .int (nI (y))]) (rest := []) ⟨hx, hb, hml, hown, hts⟩ hK hN hMv (hO.1 0 (by decide)) rfl rfl rfl (c_formulaNamed hO hT hMv hB x y hx9 hy9 f hf ho h0) (cwV 2 hts (lg_V wm_H_47 wi_H_formulaNamed we_H_formulaNamed wn_H wc_H_formulaNamed) rfl rfl rfl ⟨rfl, by decide, by decide, rfl⟩ ⟨by rw [hR]; exact Nat.le_of_ble_eq_true rfl, by rw [hR]; exact Nat.le_of_ble_eq_true rfl⟩) rfl (Nat.le_of_ble_eq_true rfl) ⟨by rw [hR]; exact Nat.le_of_ble_eq_true rfl, by rw [hR]; exact Nat.le_of_ble_eq_true rfl⟩ rfl dH_speak_21 (tg_kv rfl rfl ?_)
  refine tg_astore (L' := [(0, .ref (ad 0 0)), (1, .int (nI (x))), (2, .int (nI (y))), (3, .int (nI (t0))), (4, .int (nI (l0))), (5, .int (nI (b0))), (6, .int (nI (r0))), (7, .ref (ad 8 f))]) hx hb dH_speak_24 (by decide) rfl rfl ?_
  refine tg_aload hx hb dH_speak_26 rfl ?_
  refine tg_get (T := TF) (N := 15) hx hb hts inF hown hK (hT f hf).1 rfl rfl 7 (by decide) (hts _ wf_H_54) (fun _ z => z) rfl dH_speak_28 ?_
  have hb_1 := hB 7 f
  refine tg_bipush (v := nI 20) hx hb dH_speak_31 (by decide +kernel) ?_
  refine tg_icmp_lt (tgt := 46) hx hb dH_speak_33 (by decide) (fun q_2 => ?_) (fun q_2 => ?_)
  · have q_2' := q_2
    have h_3 : N 7 f < 20 := (nI_ltI (by omega) (by omega)).mp q_2
    refine tg_aload hx hb dH_speak_46 rfl ?_
    refine tg_iload_n hx hb dH_speak_48 rfl rfl ?_
    refine tg_iload hx hb dH_speak_49 rfl ?_
    refine tg_iload hx hb dH_speak_51 rfl ?_
    refine tg_iload hx hb dH_speak_53 rfl ?_
    refine tg_callV (C := "HangGraph$Formula") (As := [.int (nI (t0)), .int (nI (l0)), .int (nI (b0)), .int (nI (r0))]) (rest := []) ⟨hx, hb, hml, hown, hts⟩ hK hN hMv (hT f hf).1 rfl rfl rfl (c_addRectangle hO hT hB f hf t0 l0 b0 r0 ht0 hb0 hl0 hr0) (cwV 4 hts (lg_V wm_H_64 wi_F_addRectangle we_F_addRectangle wn_F wc_F_addRectangle) rfl rfl rfl ⟨rfl, by decide, by decide, rfl⟩ ⟨by rw [hR]; exact Nat.le_of_ble_eq_true rfl, by rw [hR]; exact Nat.le_of_ble_eq_true rfl⟩) rfl (Nat.le_of_ble_eq_true rfl) ⟨by rw [hR]; exact Nat.le_of_ble_eq_true rfl, by rw [hR]; exact Nat.le_of_ble_eq_true rfl⟩ rfl dH_speak_55 (tg_kn rfl rfl ?_)
    refine tg_aload hx hb dH_speak_58 rfl ?_
    refine tg_get (T := TF) (N := 15) hx hb hts inF hown hK (hT f hf).1 rfl rfl 7 (by decide) (hts _ wf_H_54) (fun _ z => z) rfl dH_speak_60 ?_
    refine tg_top (y := nI (N 7 f + 1)) (by simp [tg_up]) ?_
    exact tg_iret hx hb hlocks hr hQ ⟨rfl, rfl, rfl, rfl⟩ dH_speak_63
  · have q_2' := q_2
    have h_4 : 20 ≤ N 7 f := Nat.le_of_not_lt fun z => q_2 ((nI_ltI (by omega) (by omega)).mpr z)
    omega
set_option maxRecDepth 100000 in
set_option maxHeartbeats 4000000 in
/-- f is taken out -/
theorem c_out (hO : hg_ok ok) (hT : ∀ f, T f → ok 8 f ∧ ok 9 f) (hMv : tg_Mv F Nn) (hB : ∀ j u, N j u < 1000000) (x y : Nat) (hx9 : x < 20) (hy9 : y < 20) (f : Nat) (hf : T f) (ho : a 0 (20 * x + y) = some (ad 8 f)) (h0 : N 0 f = 20 * x + y) (hN1 : N 1 f ≤ N 3 f) (hN3 : N 3 f < 20) (hN2 : N 2 f ≤ N 4 f) (hN4 : N 4 f < 20) (hG0 : 1 ≤ G 0) : tg_Met l yH_out wsH_out ({ frames := 2, cells := 0, slots := 0, locals := 90 }) D vwCl (hg_tys cI cF cZ cJ cA cB) F Nn ad ok (hg_w ad cF cI G a dr N bc sp μ) [.ref (ad 0 0), .int (nI (x)), .int (nI (y))] (tg_po ad ok fun r w1 => r = some (.int (nI (G 0 - 1))) ∧ w1 = hg_w ad cF cI (va_up G 0 (G 0 - 1)) (va_up a 0 (hg_cp (a 0) (N 1 f) (N 2 f) (N 4 f) (N 3 f + 1) (N 2 f) none)) dr N bc sp μ) := by
  refine tg_start (cc := cH_out) (maxL := 4) (ret := some .int) (by decide) rfl (Nat.le_of_ble_eq_true rfl) ?_
  intro p e R s m args below meth c Q hx hb hml hr hlocks hown hname hts hK hN hR hQ
  have hown : s.vm.findClass "HangGraph" = some m.cls := hown
  have hts : ∀ w ∈ lw_g, w.before args s = true := fun w z => hts w (List.mem_cons_of_mem _ z)
  refine tg_iload_n hx hb dH_out_0 rfl rfl ?_
  refine tg_iload_n hx hb dH_out_1 rfl rfl ?_
  refine tg_callS (As := [.int (nI (x)), .int (nI (y))]) (rest := []) ⟨hx, hb, hml, hown, hts⟩ hK hN hMv (c_requireCell x y hx9 hy9) (va_cwS 2 hts (lg_S wm_H_30 wt_H_requireCell wn_H wc_H_requireCell) rfl rfl rfl ⟨by decide, by decide, rfl⟩ ⟨by rw [hR]; exact Nat.le_of_ble_eq_true rfl, by rw [hR]; exact Nat.le_of_ble_eq_true rfl⟩) rfl (Nat.le_of_ble_eq_true rfl) ⟨by rw [hR]; exact Nat.le_of_ble_eq_true rfl, by rw [hR]; exact Nat.le_of_ble_eq_true rfl⟩ rfl dH_out_2 (tg_kn rfl rfl ?_)
  refine tg_aload_n hx hb dH_out_5 rfl rfl ?_
  refine tg_iload_n hx hb dH_out_6 rfl rfl ?_
  refine tg_iload_n hx hb dH_out_7 rfl rfl ?_
  refine tg_callV (C := "HangGraph") (As := [.int (nI (x)), .int (nI (y))]) (rest := []) ⟨hx, hb, hml, hown, hts⟩ hK hN hMv (hO.1 0 (by decide)) rfl rfl rfl (c_formulaNamed hO hT hMv hB x y hx9 hy9 f hf ho h0) (cwV 2 hts (lg_V wm_H_47 wi_H_formulaNamed we_H_formulaNamed wn_H wc_H_formulaNamed) rfl rfl rfl ⟨rfl, by decide, by decide, rfl⟩ ⟨by rw [hR]; exact Nat.le_of_ble_eq_true rfl, by rw [hR]; exact Nat.le_of_ble_eq_true rfl⟩) rfl (Nat.le_of_ble_eq_true rfl) ⟨by rw [hR]; exact Nat.le_of_ble_eq_true rfl, by rw [hR]; exact Nat.le_of_ble_eq_true rfl⟩ rfl dH_out_8 (tg_kv rfl rfl ?_)
  refine tg_astore_n (L' := [(0, .ref (ad 0 0)), (1, .int (nI (x))), (2, .int (nI (y))), (3, .ref (ad 8 f))]) hx hb dH_out_11 rfl (by decide) rfl rfl ?_
  refine tg_aload_n hx hb dH_out_12 rfl rfl ?_
  refine tg_aload_n hx hb dH_out_13 rfl rfl ?_
  refine tg_null hx hb dH_out_14 ?_
  refine tg_callV (C := "HangGraph") (As := [.ref (ad 8 f), .null]) (rest := []) ⟨hx, hb, hml, hown, hts⟩ hK hN hMv (hO.1 0 (by decide)) rfl rfl rfl (c_uncover hO hT hMv f hf hN1 hN3 hN2 hN4) (cwV 2 hts (lg_V wm_H_43 wi_H_cover we_H_cover wn_H wc_H_cover) rfl rfl rfl ⟨rfl, by decide, by decide, rfl⟩ ⟨by rw [hR]; exact Nat.le_of_ble_eq_true rfl, by rw [hR]; exact Nat.le_of_ble_eq_true rfl⟩) rfl (Nat.le_of_ble_eq_true rfl) ⟨by rw [hR]; exact Nat.le_of_ble_eq_true rfl, by rw [hR]; exact Nat.le_of_ble_eq_true rfl⟩ rfl dH_out_15 (tg_kn rfl rfl ?_)
  refine tg_aload_n hx hb dH_out_18 rfl rfl ?_
  refine tg_dup hx hb dH_out_19 rfl ?_
  refine tg_get (T := TH) (N := 4) hx hb hts inH hown hK (hO.1 0 (by decide)) rfl rfl 3 (by decide) (hts _ wf_H_26) (fun _ z => z) rfl dH_out_20 ?_
  refine tg_iconst (v := nI 1) hx hb dH_out_23 (by decide +kernel) ?_
  refine tg_isub hx hb dH_out_24 ?_
  refine tg_top (y := nI ((G 0) - (1))) (pk_sub (by omega)) ?_
  refine tg_put (T := TH) (N := 4) (ty := .int) hx hb hts inH tyH tyH_ok nmH hown hK (hO.1 0 (by decide)) rfl rfl 3 (by decide) (hts _ wf_H_26) (fun _ z => z) rfl (by decide +kernel) rfl rfl (Nat.le_of_ble_eq_true rfl) dH_out_25 ?_
  refine tg_wp (hg_w_G0 hO ((G 0) - (1))) ?_
  refine tg_aload_n hx hb dH_out_28 rfl rfl ?_
  refine tg_get (T := TH) (N := 4) hx hb hts inH hown hK (hO.1 0 (by decide)) rfl rfl 3 (by decide) (hts _ wf_H_26) (fun _ z => z) rfl dH_out_29 ?_
  refine tg_top (y := nI ((G 0) - (1))) (by simp [va_up]) ?_
  exact tg_iret hx hb hlocks hr hQ ⟨rfl, rfl, rfl, rfl⟩ dH_out_32
set_option maxRecDepth 100000 in
set_option maxHeartbeats 4000000 in
/-- no such cell -/
theorem t_touch1 (hl9 : l.stackTraces = false) (p9 q9 : Int32) (hbad : hg_bC p9 q9) : tg_MetT l yH_touch wsH_touch ({ frames := 7, cells := 1, slots := 6, locals := 140 }) D vwCl (hg_tys cI cF cZ cJ cA cB) F (hg_N F) ad ok w [.ref (ad 0 0), .int (p9), .int (q9)] "java/lang/IllegalArgumentException" := by
  refine tg_startT (cc := cH_touch) (maxL := 3) (ret := none) (by decide) rfl (Nat.le_of_ble_eq_true rfl) ?_
  intro p e R s m args below meth c Q hx hb hml hr hlocks hown hts hK hN hnt hR hQ
  have hown : s.vm.findClass "HangGraph" = some m.cls := hown
  have hts : ∀ w ∈ lw_g, w.before args s = true := fun w z => hts w (List.mem_cons_of_mem _ z)
  have hMv := hg_Mv F
  refine tg_iload_n hx hb dH_touch_0 rfl rfl ?_
  refine tg_iload_n hx hb dH_touch_1 rfl rfl ?_
  exact tg_passT (tg_runST (As := [.int (p9), .int (q9)]) (rest := []) ⟨hx, hb, hml, hown, hts⟩ hK hN hMv (t_requireCell hl9 p9 q9 hbad) (va_cwS 2 hts (lg_S wm_H_30 wt_H_requireCell wn_H wc_H_requireCell) rfl rfl rfl ⟨by decide, by decide, rfl⟩ ⟨by rw [hR]; exact Nat.le_of_ble_eq_true rfl, by rw [hR]; exact Nat.le_of_ble_eq_true rfl⟩) rfl (Nat.le_of_ble_eq_true rfl) ⟨by rw [hR]; exact Nat.le_of_ble_eq_true rfl, by rw [hR]; exact Nat.le_of_ble_eq_true rfl⟩ rfl dH_touch_2) hnt hlocks hQ (Nat.le_of_ble_eq_true rfl) (Nat.le_of_ble_eq_true rfl)
set_option maxRecDepth 100000 in
set_option maxHeartbeats 4000000 in
/-- no such cell -/
theorem t_owner1 (hl9 : l.stackTraces = false) (p9 q9 : Int32) (hbad : hg_bC p9 q9) : tg_MetT l yH_owner wsH_owner ({ frames := 7, cells := 1, slots := 6, locals := 140 }) D vwCl (hg_tys cI cF cZ cJ cA cB) F (hg_N F) ad ok w [.ref (ad 0 0), .int (p9), .int (q9)] "java/lang/IllegalArgumentException" := by
  refine tg_startT (cc := cH_owner) (maxL := 4) (ret := some .int) (by decide) rfl (Nat.le_of_ble_eq_true rfl) ?_
  intro p e R s m args below meth c Q hx hb hml hr hlocks hown hts hK hN hnt hR hQ
  have hown : s.vm.findClass "HangGraph" = some m.cls := hown
  have hts : ∀ w ∈ lw_g, w.before args s = true := fun w z => hts w (List.mem_cons_of_mem _ z)
  have hMv := hg_Mv F
  refine tg_iload_n hx hb dH_owner_0 rfl rfl ?_
  refine tg_iload_n hx hb dH_owner_1 rfl rfl ?_
  exact tg_passT (tg_runST (As := [.int (p9), .int (q9)]) (rest := []) ⟨hx, hb, hml, hown, hts⟩ hK hN hMv (t_requireCell hl9 p9 q9 hbad) (va_cwS 2 hts (lg_S wm_H_30 wt_H_requireCell wn_H wc_H_requireCell) rfl rfl rfl ⟨by decide, by decide, rfl⟩ ⟨by rw [hR]; exact Nat.le_of_ble_eq_true rfl, by rw [hR]; exact Nat.le_of_ble_eq_true rfl⟩) rfl (Nat.le_of_ble_eq_true rfl) ⟨by rw [hR]; exact Nat.le_of_ble_eq_true rfl, by rw [hR]; exact Nat.le_of_ble_eq_true rfl⟩ rfl dH_owner_2) hnt hlocks hQ (Nat.le_of_ble_eq_true rfl) (Nat.le_of_ble_eq_true rfl)
set_option maxRecDepth 100000 in
set_option maxHeartbeats 4000000 in
/-- no such cell -/
theorem t_out1 (hl9 : l.stackTraces = false) (p9 q9 : Int32) (hbad : hg_bC p9 q9) : tg_MetT l yH_out wsH_out ({ frames := 7, cells := 1, slots := 6, locals := 140 }) D vwCl (hg_tys cI cF cZ cJ cA cB) F (hg_N F) ad ok w [.ref (ad 0 0), .int (p9), .int (q9)] "java/lang/IllegalArgumentException" := by
  refine tg_startT (cc := cH_out) (maxL := 4) (ret := some .int) (by decide) rfl (Nat.le_of_ble_eq_true rfl) ?_
  intro p e R s m args below meth c Q hx hb hml hr hlocks hown hts hK hN hnt hR hQ
  have hown : s.vm.findClass "HangGraph" = some m.cls := hown
  have hts : ∀ w ∈ lw_g, w.before args s = true := fun w z => hts w (List.mem_cons_of_mem _ z)
  have hMv := hg_Mv F
  refine tg_iload_n hx hb dH_out_0 rfl rfl ?_
  refine tg_iload_n hx hb dH_out_1 rfl rfl ?_
  exact tg_passT (tg_runST (As := [.int (p9), .int (q9)]) (rest := []) ⟨hx, hb, hml, hown, hts⟩ hK hN hMv (t_requireCell hl9 p9 q9 hbad) (va_cwS 2 hts (lg_S wm_H_30 wt_H_requireCell wn_H wc_H_requireCell) rfl rfl rfl ⟨by decide, by decide, rfl⟩ ⟨by rw [hR]; exact Nat.le_of_ble_eq_true rfl, by rw [hR]; exact Nat.le_of_ble_eq_true rfl⟩) rfl (Nat.le_of_ble_eq_true rfl) ⟨by rw [hR]; exact Nat.le_of_ble_eq_true rfl, by rw [hR]; exact Nat.le_of_ble_eq_true rfl⟩ rfl dH_out_2) hnt hlocks hQ (Nat.le_of_ble_eq_true rfl) (Nat.le_of_ble_eq_true rfl)
set_option maxRecDepth 100000 in
set_option maxHeartbeats 4000000 in
/-- no such cell -/
theorem t_told1 (hl9 : l.stackTraces = false) (p9 q9 : Int32) (hbad : hg_bC p9 q9) (k1 : Int32) : tg_MetT l yH_told wsH_told ({ frames := 7, cells := 1, slots := 6, locals := 140 }) D vwCl (hg_tys cI cF cZ cJ cA cB) F (hg_N F) ad ok w [.ref (ad 0 0), .int (p9), .int (q9), .int (k1)] "java/lang/IllegalArgumentException" := by
  refine tg_startT (cc := cH_told) (maxL := 5) (ret := some .int) (by decide) rfl (Nat.le_of_ble_eq_true rfl) ?_
  intro p e R s m args below meth c Q hx hb hml hr hlocks hown hts hK hN hnt hR hQ
  have hown : s.vm.findClass "HangGraph" = some m.cls := hown
  have hts : ∀ w ∈ lw_g, w.before args s = true := fun w z => hts w (List.mem_cons_of_mem _ z)
  have hMv := hg_Mv F
  refine tg_iload_n hx hb dH_told_0 rfl rfl ?_
  refine tg_iload_n hx hb dH_told_1 rfl rfl ?_
  exact tg_passT (tg_runST (As := [.int (p9), .int (q9)]) (rest := []) ⟨hx, hb, hml, hown, hts⟩ hK hN hMv (t_requireCell hl9 p9 q9 hbad) (va_cwS 2 hts (lg_S wm_H_30 wt_H_requireCell wn_H wc_H_requireCell) rfl rfl rfl ⟨by decide, by decide, rfl⟩ ⟨by rw [hR]; exact Nat.le_of_ble_eq_true rfl, by rw [hR]; exact Nat.le_of_ble_eq_true rfl⟩) rfl (Nat.le_of_ble_eq_true rfl) ⟨by rw [hR]; exact Nat.le_of_ble_eq_true rfl, by rw [hR]; exact Nat.le_of_ble_eq_true rfl⟩ rfl dH_told_2) hnt hlocks hQ (Nat.le_of_ble_eq_true rfl) (Nat.le_of_ble_eq_true rfl)
set_option maxRecDepth 100000 in
set_option maxHeartbeats 4000000 in
/-- no such cell -/
theorem t_speak1 (hl9 : l.stackTraces = false) (p9 q9 : Int32) (hbad : hg_bC p9 q9) (k1 k2 k3 k4 : Int32) : tg_MetT l yH_speak wsH_speak ({ frames := 7, cells := 1, slots := 6, locals := 140 }) D vwCl (hg_tys cI cF cZ cJ cA cB) F (hg_N F) ad ok w [.ref (ad 0 0), .int (p9), .int (q9), .int (k1), .int (k2), .int (k3), .int (k4)] "java/lang/IllegalArgumentException" := by
  refine tg_startT (cc := cH_speak) (maxL := 8) (ret := some .int) (by decide) rfl (Nat.le_of_ble_eq_true rfl) ?_
  intro p e R s m args below meth c Q hx hb hml hr hlocks hown hts hK hN hnt hR hQ
  have hown : s.vm.findClass "HangGraph" = some m.cls := hown
  have hts : ∀ w ∈ lw_g, w.before args s = true := fun w z => hts w (List.mem_cons_of_mem _ z)
  have hMv := hg_Mv F
  refine tg_iload_n hx hb dH_speak_0 rfl rfl ?_
  refine tg_iload_n hx hb dH_speak_1 rfl rfl ?_
  exact tg_passT (tg_runST (As := [.int (p9), .int (q9)]) (rest := []) ⟨hx, hb, hml, hown, hts⟩ hK hN hMv (t_requireCell hl9 p9 q9 hbad) (va_cwS 2 hts (lg_S wm_H_30 wt_H_requireCell wn_H wc_H_requireCell) rfl rfl rfl ⟨by decide, by decide, rfl⟩ ⟨by rw [hR]; exact Nat.le_of_ble_eq_true rfl, by rw [hR]; exact Nat.le_of_ble_eq_true rfl⟩) rfl (Nat.le_of_ble_eq_true rfl) ⟨by rw [hR]; exact Nat.le_of_ble_eq_true rfl, by rw [hR]; exact Nat.le_of_ble_eq_true rfl⟩ rfl dH_speak_2) hnt hlocks hQ (Nat.le_of_ble_eq_true rfl) (Nat.le_of_ble_eq_true rfl)
set_option maxRecDepth 100000 in
set_option maxHeartbeats 4000000 in
/-- no such cell -/
theorem t_put1 (hl9 : l.stackTraces = false) (p9 q9 : Int32) (hbad : hg_bC p9 q9) (k1 k2 : Int32) : tg_MetT l yH_put wsH_put ({ frames := 7, cells := 1, slots := 6, locals := 140 }) D vwCl (hg_tys cI cF cZ cJ cA cB) F (hg_N F) ad ok w [.ref (ad 0 0), .int (p9), .int (q9), .int (k1), .int (k2)] "java/lang/IllegalArgumentException" := by
  refine tg_startT (cc := cH_put) (maxL := 8) (ret := some .int) (by decide) rfl (Nat.le_of_ble_eq_true rfl) ?_
  intro p e R s m args below meth c Q hx hb hml hr hlocks hown hts hK hN hnt hR hQ
  have hown : s.vm.findClass "HangGraph" = some m.cls := hown
  have hts : ∀ w ∈ lw_g, w.before args s = true := fun w z => hts w (List.mem_cons_of_mem _ z)
  have hMv := hg_Mv F
  refine tg_iload_n hx hb dH_put_0 rfl rfl ?_
  refine tg_iload_n hx hb dH_put_1 rfl rfl ?_
  exact tg_passT (tg_runST (As := [.int (p9), .int (q9)]) (rest := []) ⟨hx, hb, hml, hown, hts⟩ hK hN hMv (t_requireCell hl9 p9 q9 hbad) (va_cwS 2 hts (lg_S wm_H_30 wt_H_requireCell wn_H wc_H_requireCell) rfl rfl rfl ⟨by decide, by decide, rfl⟩ ⟨by rw [hR]; exact Nat.le_of_ble_eq_true rfl, by rw [hR]; exact Nat.le_of_ble_eq_true rfl⟩) rfl (Nat.le_of_ble_eq_true rfl) ⟨by rw [hR]; exact Nat.le_of_ble_eq_true rfl, by rw [hR]; exact Nat.le_of_ble_eq_true rfl⟩ rfl dH_put_2) hnt hlocks hQ (Nat.le_of_ble_eq_true rfl) (Nat.le_of_ble_eq_true rfl)
set_option maxRecDepth 100000 in
set_option maxHeartbeats 4000000 in
/-- what is not 0, 1 or 2 -/
theorem t_told2 (hl9 : l.stackTraces = false) (x y : Nat) (hx9 : x < 20) (hy9 : y < 20) (k1 : Int32) (hbad : k1 < 0 ∨ ¬ k1 ≤ nI 2) : tg_MetT l yH_told wsH_told ({ frames := 7, cells := 1, slots := 6, locals := 140 }) D vwCl (hg_tys cI cF cZ cJ cA cB) F (hg_N F) ad ok w [.ref (ad 0 0), .int (nI (x)), .int (nI (y)), .int (k1)] "java/lang/IllegalArgumentException" := by
  refine tg_startT (cc := cH_told) (maxL := 5) (ret := some .int) (by decide) rfl (Nat.le_of_ble_eq_true rfl) ?_
  intro p e R s m args below meth c Q hx hb hml hr hlocks hown hts hK hN hnt hR hQ
  have hown : s.vm.findClass "HangGraph" = some m.cls := hown
  have hts : ∀ w ∈ lw_g, w.before args s = true := fun w z => hts w (List.mem_cons_of_mem _ z)
  have hMv := hg_Mv F
  refine tg_iload_n hx hb dH_told_0 rfl rfl ?_
  refine tg_iload_n hx hb dH_told_1 rfl rfl ?_
  refine tg_callS (As := [.int (nI (x)), .int (nI (y))]) (rest := []) ⟨hx, hb, hml, hown, hts⟩ hK hN hMv (c_requireCell x y hx9 hy9) (va_cwS 2 hts (lg_S wm_H_30 wt_H_requireCell wn_H wc_H_requireCell) rfl rfl rfl ⟨by decide, by decide, rfl⟩ ⟨by rw [hR]; exact Nat.le_of_ble_eq_true rfl, by rw [hR]; exact Nat.le_of_ble_eq_true rfl⟩) rfl (Nat.le_of_ble_eq_true rfl) ⟨by rw [hR]; exact Nat.le_of_ble_eq_true rfl, by rw [hR]; exact Nat.le_of_ble_eq_true rfl⟩ rfl dH_told_2 (tg_kn rfl rfl ?_)
  refine tg_iload_n hx hb dH_told_5 rfl rfl ?_
  refine tg_if_lt (tgt := 14) hx hb dH_told_6 (by decide) (fun q_1 => ?_) (fun q_1 => ?_)
  · have q_1' := q_1
    exact tg_throw hx hb hml hl9 hown hts hN (by decide) (by decide +kernel) wk_H_91 wn_java_lang_IllegalArgumentException (show ((93, "what is not 0, 1 or 2") : Nat × String) ∈ hg_strs by decide) hg_at_IAE1 hg_at_IAE2 hg_ot_IAE hnt hlocks hQ dH_told_14 dH_told_17 dH_told_18 dH_told_20 dH_told_23 (by rw [hR]; exact Nat.le_of_ble_eq_true rfl) (by rw [hR]; exact Nat.le_of_ble_eq_true rfl) (by rw [hR]; exact Nat.le_of_ble_eq_true rfl) (by rw [hR]; exact Nat.le_of_ble_eq_true rfl) (Nat.le_of_ble_eq_true rfl) (Nat.le_of_ble_eq_true rfl)
  · have q_1' := q_1
    refine tg_iload_n hx hb dH_told_9 rfl rfl ?_
    refine tg_iconst (v := nI 2) hx hb dH_told_10 (by decide +kernel) ?_
    refine tg_icmp_le (tgt := 24) hx hb dH_told_11 (by decide) (fun q_2 => ?_) (fun q_2 => ?_)
    · have q_2' := q_2
      exact absurd hbad (not_or.mpr ⟨q_1, fun z => z q_2⟩)
    · have q_2' := q_2
      exact tg_throw hx hb hml hl9 hown hts hN (by decide) (by decide +kernel) wk_H_91 wn_java_lang_IllegalArgumentException (show ((93, "what is not 0, 1 or 2") : Nat × String) ∈ hg_strs by decide) hg_at_IAE1 hg_at_IAE2 hg_ot_IAE hnt hlocks hQ dH_told_14 dH_told_17 dH_told_18 dH_told_20 dH_told_23 (by rw [hR]; exact Nat.le_of_ble_eq_true rfl) (by rw [hR]; exact Nat.le_of_ble_eq_true rfl) (by rw [hR]; exact Nat.le_of_ble_eq_true rfl) (by rw [hR]; exact Nat.le_of_ble_eq_true rfl) (Nat.le_of_ble_eq_true rfl) (Nat.le_of_ble_eq_true rfl)
set_option maxRecDepth 100000 in
set_option maxHeartbeats 4000000 in
/-- no such formula -/
theorem t_told3 (hl9 : l.stackTraces = false) (hO : hg_ok ok) (hT : ∀ f, T f → ok 8 f ∧ ok 9 f) (hB : ∀ j u, N j u < 1000000) (x y : Nat) (hx9 : x < 20) (hy9 : y < 20) (hbad : hg_un T ad a N (20 * x + y)) (q : Nat) (hq : q ≤ 2) : tg_MetT l yH_told wsH_told ({ frames := 7, cells := 1, slots := 6, locals := 140 }) D vwCl (hg_tys cI cF cZ cJ cA cB) F (hg_N F) ad ok (hg_w ad cF cI G a dr N bc sp μ) [.ref (ad 0 0), .int (nI (x)), .int (nI (y)), .int (nI (q))] "java/util/NoSuchElementException" := by
  refine tg_startT (cc := cH_told) (maxL := 5) (ret := some .int) (by decide) rfl (Nat.le_of_ble_eq_true rfl) ?_
  intro p e R s m args below meth c Q hx hb hml hr hlocks hown hts hK hN hnt hR hQ
  have hown : s.vm.findClass "HangGraph" = some m.cls := hown
  have hts : ∀ w ∈ lw_g, w.before args s = true := fun w z => hts w (List.mem_cons_of_mem _ z)
  have hMv := hg_Mv F
  refine tg_iload_n hx hb dH_told_0 rfl rfl ?_
  refine tg_iload_n hx hb dH_told_1 rfl rfl ?_
  refine tg_callS (As := [.int (nI (x)), .int (nI (y))]) (rest := []) ⟨hx, hb, hml, hown, hts⟩ hK hN hMv (c_requireCell x y hx9 hy9) (va_cwS 2 hts (lg_S wm_H_30 wt_H_requireCell wn_H wc_H_requireCell) rfl rfl rfl ⟨by decide, by decide, rfl⟩ ⟨by rw [hR]; exact Nat.le_of_ble_eq_true rfl, by rw [hR]; exact Nat.le_of_ble_eq_true rfl⟩) rfl (Nat.le_of_ble_eq_true rfl) ⟨by rw [hR]; exact Nat.le_of_ble_eq_true rfl, by rw [hR]; exact Nat.le_of_ble_eq_true rfl⟩ rfl dH_told_2 (tg_kn rfl rfl ?_)
  refine tg_iload_n hx hb dH_told_5 rfl rfl ?_
  refine tg_if_lt (tgt := 14) hx hb dH_told_6 (by decide) (fun q_1 => ?_) (fun q_1 => ?_)
  · have q_1' := q_1
    rw [← nI_0] at q_1
    have h_2 : q < 0 := (nI_ltI (by omega) (by omega)).mp q_1
    omega
  · have q_1' := q_1
    rw [← nI_0] at q_1
    have h_3 : 0 ≤ q := Nat.le_of_not_lt fun z => q_1 ((nI_ltI (by omega) (by omega)).mpr z)
    refine tg_iload_n hx hb dH_told_9 rfl rfl ?_
    refine tg_iconst (v := nI 2) hx hb dH_told_10 (by decide +kernel) ?_
    refine tg_icmp_le (tgt := 24) hx hb dH_told_11 (by decide) (fun q_4 => ?_) (fun q_4 => ?_)
    · have q_4' := q_4
      have h_5 : q ≤ 2 := (nI_leI (by omega) (by omega)).mp q_4
      refine tg_aload_n hx hb dH_told_24 rfl rfl ?_
      refine tg_iload_n hx hb dH_told_25 rfl rfl ?_
      refine tg_iload_n hx hb dH_told_26 rfl rfl ?_
      exact tg_passT (tg_runVT (C := "HangGraph") (As := [.int (nI (x)), .int (nI (y))]) (rest := []) ⟨hx, hb, hml, hown, hts⟩ hK hN hMv (hO.1 0 (by decide)) rfl rfl rfl (t_formulaNamed hl9 hO hT hB x y hx9 hy9 hbad) (cwV 2 hts (lg_V wm_H_47 wi_H_formulaNamed we_H_formulaNamed wn_H wc_H_formulaNamed) rfl rfl rfl ⟨rfl, by decide, by decide, rfl⟩ ⟨by rw [hR]; exact Nat.le_of_ble_eq_true rfl, by rw [hR]; exact Nat.le_of_ble_eq_true rfl⟩) rfl (Nat.le_of_ble_eq_true rfl) ⟨by rw [hR]; exact Nat.le_of_ble_eq_true rfl, by rw [hR]; exact Nat.le_of_ble_eq_true rfl⟩ rfl dH_told_27) hnt hlocks hQ (Nat.le_of_ble_eq_true rfl) (Nat.le_of_ble_eq_true rfl)
    · have q_4' := q_4
      have h_6 : 2 < q := Nat.lt_of_not_le fun z => q_4 ((nI_leI (by omega) (by omega)).mpr z)
      omega
set_option maxRecDepth 100000 in
set_option maxHeartbeats 4000000 in
/-- no such formula -/
theorem t_out2 (hl9 : l.stackTraces = false) (hO : hg_ok ok) (hT : ∀ f, T f → ok 8 f ∧ ok 9 f) (hB : ∀ j u, N j u < 1000000) (x y : Nat) (hx9 : x < 20) (hy9 : y < 20) (hbad : hg_un T ad a N (20 * x + y)) : tg_MetT l yH_out wsH_out ({ frames := 7, cells := 1, slots := 6, locals := 140 }) D vwCl (hg_tys cI cF cZ cJ cA cB) F (hg_N F) ad ok (hg_w ad cF cI G a dr N bc sp μ) [.ref (ad 0 0), .int (nI (x)), .int (nI (y))] "java/util/NoSuchElementException" := by
  refine tg_startT (cc := cH_out) (maxL := 4) (ret := some .int) (by decide) rfl (Nat.le_of_ble_eq_true rfl) ?_
  intro p e R s m args below meth c Q hx hb hml hr hlocks hown hts hK hN hnt hR hQ
  have hown : s.vm.findClass "HangGraph" = some m.cls := hown
  have hts : ∀ w ∈ lw_g, w.before args s = true := fun w z => hts w (List.mem_cons_of_mem _ z)
  have hMv := hg_Mv F
  refine tg_iload_n hx hb dH_out_0 rfl rfl ?_
  refine tg_iload_n hx hb dH_out_1 rfl rfl ?_
  refine tg_callS (As := [.int (nI (x)), .int (nI (y))]) (rest := []) ⟨hx, hb, hml, hown, hts⟩ hK hN hMv (c_requireCell x y hx9 hy9) (va_cwS 2 hts (lg_S wm_H_30 wt_H_requireCell wn_H wc_H_requireCell) rfl rfl rfl ⟨by decide, by decide, rfl⟩ ⟨by rw [hR]; exact Nat.le_of_ble_eq_true rfl, by rw [hR]; exact Nat.le_of_ble_eq_true rfl⟩) rfl (Nat.le_of_ble_eq_true rfl) ⟨by rw [hR]; exact Nat.le_of_ble_eq_true rfl, by rw [hR]; exact Nat.le_of_ble_eq_true rfl⟩ rfl dH_out_2 (tg_kn rfl rfl ?_)
  refine tg_aload_n hx hb dH_out_5 rfl rfl ?_
  refine tg_iload_n hx hb dH_out_6 rfl rfl ?_
  refine tg_iload_n hx hb dH_out_7 rfl rfl ?_
  exact tg_passT (tg_runVT (C := "HangGraph") (As := [.int (nI (x)), .int (nI (y))]) (rest := []) ⟨hx, hb, hml, hown, hts⟩ hK hN hMv (hO.1 0 (by decide)) rfl rfl rfl (t_formulaNamed hl9 hO hT hB x y hx9 hy9 hbad) (cwV 2 hts (lg_V wm_H_47 wi_H_formulaNamed we_H_formulaNamed wn_H wc_H_formulaNamed) rfl rfl rfl ⟨rfl, by decide, by decide, rfl⟩ ⟨by rw [hR]; exact Nat.le_of_ble_eq_true rfl, by rw [hR]; exact Nat.le_of_ble_eq_true rfl⟩) rfl (Nat.le_of_ble_eq_true rfl) ⟨by rw [hR]; exact Nat.le_of_ble_eq_true rfl, by rw [hR]; exact Nat.le_of_ble_eq_true rfl⟩ rfl dH_out_8) hnt hlocks hQ (Nat.le_of_ble_eq_true rfl) (Nat.le_of_ble_eq_true rfl)
set_option maxRecDepth 100000 in
set_option maxHeartbeats 4000000 in
/-- rows beyond the grid -/
theorem t_speak2 (hl9 : l.stackTraces = false) (x y : Nat) (hx9 : x < 20) (hy9 : y < 20) (p9 q9 : Int32) (hbad : hg_bS p9 q9) (k1 k2 : Int32) : tg_MetT l yH_speak wsH_speak ({ frames := 7, cells := 1, slots := 6, locals := 140 }) D vwCl (hg_tys cI cF cZ cJ cA cB) F (hg_N F) ad ok w [.ref (ad 0 0), .int (nI (x)), .int (nI (y)), .int (p9), .int (k1), .int (q9), .int (k2)] "java/lang/IllegalArgumentException" := by
  refine tg_startT (cc := cH_speak) (maxL := 8) (ret := some .int) (by decide) rfl (Nat.le_of_ble_eq_true rfl) ?_
  intro p e R s m args below meth c Q hx hb hml hr hlocks hown hts hK hN hnt hR hQ
  have hown : s.vm.findClass "HangGraph" = some m.cls := hown
  have hts : ∀ w ∈ lw_g, w.before args s = true := fun w z => hts w (List.mem_cons_of_mem _ z)
  have hMv := hg_Mv F
  refine tg_iload_n hx hb dH_speak_0 rfl rfl ?_
  refine tg_iload_n hx hb dH_speak_1 rfl rfl ?_
  refine tg_callS (As := [.int (nI (x)), .int (nI (y))]) (rest := []) ⟨hx, hb, hml, hown, hts⟩ hK hN hMv (c_requireCell x y hx9 hy9) (va_cwS 2 hts (lg_S wm_H_30 wt_H_requireCell wn_H wc_H_requireCell) rfl rfl rfl ⟨by decide, by decide, rfl⟩ ⟨by rw [hR]; exact Nat.le_of_ble_eq_true rfl, by rw [hR]; exact Nat.le_of_ble_eq_true rfl⟩) rfl (Nat.le_of_ble_eq_true rfl) ⟨by rw [hR]; exact Nat.le_of_ble_eq_true rfl, by rw [hR]; exact Nat.le_of_ble_eq_true rfl⟩ rfl dH_speak_2 (tg_kn rfl rfl ?_)
  refine tg_iload_n hx hb dH_speak_5 rfl rfl ?_
  refine tg_iload hx hb dH_speak_6 rfl ?_
  exact tg_passT (tg_runST (As := [.int (p9), .int (q9)]) (rest := []) ⟨hx, hb, hml, hown, hts⟩ hK hN hMv (t_requireSpan hl9 p9 q9 hbad) (va_cwS 2 hts (lg_S wm_H_51 wt_H_requireSpan wn_H wc_H_requireSpan) rfl rfl rfl ⟨by decide, by decide, rfl⟩ ⟨by rw [hR]; exact Nat.le_of_ble_eq_true rfl, by rw [hR]; exact Nat.le_of_ble_eq_true rfl⟩) rfl (Nat.le_of_ble_eq_true rfl) ⟨by rw [hR]; exact Nat.le_of_ble_eq_true rfl, by rw [hR]; exact Nat.le_of_ble_eq_true rfl⟩ rfl dH_speak_8) hnt hlocks hQ (Nat.le_of_ble_eq_true rfl) (Nat.le_of_ble_eq_true rfl)
set_option maxRecDepth 100000 in
set_option maxHeartbeats 4000000 in
/-- columns beyond the grid -/
theorem t_speak3 (hl9 : l.stackTraces = false) (x y : Nat) (hx9 : x < 20) (hy9 : y < 20) (t0 b0 : Nat) (ht0 : t0 ≤ b0) (hb0 : b0 < 20) (p9 q9 : Int32) (hbad : hg_bS p9 q9) : tg_MetT l yH_speak wsH_speak ({ frames := 7, cells := 1, slots := 6, locals := 140 }) D vwCl (hg_tys cI cF cZ cJ cA cB) F (hg_N F) ad ok w [.ref (ad 0 0), .int (nI (x)), .int (nI (y)), .int (nI (t0)), .int (p9), .int (nI (b0)), .int (q9)] "java/lang/IllegalArgumentException" := by
  refine tg_startT (cc := cH_speak) (maxL := 8) (ret := some .int) (by decide) rfl (Nat.le_of_ble_eq_true rfl) ?_
  intro p e R s m args below meth c Q hx hb hml hr hlocks hown hts hK hN hnt hR hQ
  have hown : s.vm.findClass "HangGraph" = some m.cls := hown
  have hts : ∀ w ∈ lw_g, w.before args s = true := fun w z => hts w (List.mem_cons_of_mem _ z)
  have hMv := hg_Mv F
  refine tg_iload_n hx hb dH_speak_0 rfl rfl ?_
  refine tg_iload_n hx hb dH_speak_1 rfl rfl ?_
  refine tg_callS (As := [.int (nI (x)), .int (nI (y))]) (rest := []) ⟨hx, hb, hml, hown, hts⟩ hK hN hMv (c_requireCell x y hx9 hy9) (va_cwS 2 hts (lg_S wm_H_30 wt_H_requireCell wn_H wc_H_requireCell) rfl rfl rfl ⟨by decide, by decide, rfl⟩ ⟨by rw [hR]; exact Nat.le_of_ble_eq_true rfl, by rw [hR]; exact Nat.le_of_ble_eq_true rfl⟩) rfl (Nat.le_of_ble_eq_true rfl) ⟨by rw [hR]; exact Nat.le_of_ble_eq_true rfl, by rw [hR]; exact Nat.le_of_ble_eq_true rfl⟩ rfl dH_speak_2 (tg_kn rfl rfl ?_)
  refine tg_iload_n hx hb dH_speak_5 rfl rfl ?_
  refine tg_iload hx hb dH_speak_6 rfl ?_
  refine tg_callS (As := [.int (nI (t0)), .int (nI (b0))]) (rest := []) ⟨hx, hb, hml, hown, hts⟩ hK hN hMv (c_requireSpan t0 b0 ht0 hb0) (va_cwS 2 hts (lg_S wm_H_51 wt_H_requireSpan wn_H wc_H_requireSpan) rfl rfl rfl ⟨by decide, by decide, rfl⟩ ⟨by rw [hR]; exact Nat.le_of_ble_eq_true rfl, by rw [hR]; exact Nat.le_of_ble_eq_true rfl⟩) rfl (Nat.le_of_ble_eq_true rfl) ⟨by rw [hR]; exact Nat.le_of_ble_eq_true rfl, by rw [hR]; exact Nat.le_of_ble_eq_true rfl⟩ rfl dH_speak_8 (tg_kn rfl rfl ?_)
  refine tg_iload hx hb dH_speak_11 rfl ?_
  refine tg_iload hx hb dH_speak_13 rfl ?_
  exact tg_passT (tg_runST (As := [.int (p9), .int (q9)]) (rest := []) ⟨hx, hb, hml, hown, hts⟩ hK hN hMv (t_requireSpan hl9 p9 q9 hbad) (va_cwS 2 hts (lg_S wm_H_51 wt_H_requireSpan wn_H wc_H_requireSpan) rfl rfl rfl ⟨by decide, by decide, rfl⟩ ⟨by rw [hR]; exact Nat.le_of_ble_eq_true rfl, by rw [hR]; exact Nat.le_of_ble_eq_true rfl⟩) rfl (Nat.le_of_ble_eq_true rfl) ⟨by rw [hR]; exact Nat.le_of_ble_eq_true rfl, by rw [hR]; exact Nat.le_of_ble_eq_true rfl⟩ rfl dH_speak_15) hnt hlocks hQ (Nat.le_of_ble_eq_true rfl) (Nat.le_of_ble_eq_true rfl)
set_option maxRecDepth 100000 in
set_option maxHeartbeats 4000000 in
/-- no such formula -/
theorem t_speak4 (hl9 : l.stackTraces = false) (hO : hg_ok ok) (hT : ∀ f, T f → ok 8 f ∧ ok 9 f) (hB : ∀ j u, N j u < 1000000) (x y : Nat) (hx9 : x < 20) (hy9 : y < 20) (hbad : hg_un T ad a N (20 * x + y)) (t0 l0 b0 r0 : Nat) (ht0 : t0 ≤ b0) (hb0 : b0 < 20) (hl0 : l0 ≤ r0) (hr0 : r0 < 20) : tg_MetT l yH_speak wsH_speak ({ frames := 7, cells := 1, slots := 6, locals := 140 }) D vwCl (hg_tys cI cF cZ cJ cA cB) F (hg_N F) ad ok (hg_w ad cF cI G a dr N bc sp μ) [.ref (ad 0 0), .int (nI (x)), .int (nI (y)), .int (nI (t0)), .int (nI (l0)), .int (nI (b0)), .int (nI (r0))] "java/util/NoSuchElementException" := by
  refine tg_startT (cc := cH_speak) (maxL := 8) (ret := some .int) (by decide) rfl (Nat.le_of_ble_eq_true rfl) ?_
  intro p e R s m args below meth c Q hx hb hml hr hlocks hown hts hK hN hnt hR hQ
  have hown : s.vm.findClass "HangGraph" = some m.cls := hown
  have hts : ∀ w ∈ lw_g, w.before args s = true := fun w z => hts w (List.mem_cons_of_mem _ z)
  have hMv := hg_Mv F
  refine tg_iload_n hx hb dH_speak_0 rfl rfl ?_
  refine tg_iload_n hx hb dH_speak_1 rfl rfl ?_
  refine tg_callS (As := [.int (nI (x)), .int (nI (y))]) (rest := []) ⟨hx, hb, hml, hown, hts⟩ hK hN hMv (c_requireCell x y hx9 hy9) (va_cwS 2 hts (lg_S wm_H_30 wt_H_requireCell wn_H wc_H_requireCell) rfl rfl rfl ⟨by decide, by decide, rfl⟩ ⟨by rw [hR]; exact Nat.le_of_ble_eq_true rfl, by rw [hR]; exact Nat.le_of_ble_eq_true rfl⟩) rfl (Nat.le_of_ble_eq_true rfl) ⟨by rw [hR]; exact Nat.le_of_ble_eq_true rfl, by rw [hR]; exact Nat.le_of_ble_eq_true rfl⟩ rfl dH_speak_2 (tg_kn rfl rfl ?_)
  refine tg_iload_n hx hb dH_speak_5 rfl rfl ?_
  refine tg_iload hx hb dH_speak_6 rfl ?_
  refine tg_callS (As := [.int (nI (t0)), .int (nI (b0))]) (rest := []) ⟨hx, hb, hml, hown, hts⟩ hK hN hMv (c_requireSpan t0 b0 ht0 hb0) (va_cwS 2 hts (lg_S wm_H_51 wt_H_requireSpan wn_H wc_H_requireSpan) rfl rfl rfl ⟨by decide, by decide, rfl⟩ ⟨by rw [hR]; exact Nat.le_of_ble_eq_true rfl, by rw [hR]; exact Nat.le_of_ble_eq_true rfl⟩) rfl (Nat.le_of_ble_eq_true rfl) ⟨by rw [hR]; exact Nat.le_of_ble_eq_true rfl, by rw [hR]; exact Nat.le_of_ble_eq_true rfl⟩ rfl dH_speak_8 (tg_kn rfl rfl ?_)
  refine tg_iload hx hb dH_speak_11 rfl ?_
  refine tg_iload hx hb dH_speak_13 rfl ?_
  refine tg_callS (As := [.int (nI (l0)), .int (nI (r0))]) (rest := []) ⟨hx, hb, hml, hown, hts⟩ hK hN hMv (c_requireSpan l0 r0 hl0 hr0) (va_cwS 2 hts (lg_S wm_H_51 wt_H_requireSpan wn_H wc_H_requireSpan) rfl rfl rfl ⟨by decide, by decide, rfl⟩ ⟨by rw [hR]; exact Nat.le_of_ble_eq_true rfl, by rw [hR]; exact Nat.le_of_ble_eq_true rfl⟩) rfl (Nat.le_of_ble_eq_true rfl) ⟨by rw [hR]; exact Nat.le_of_ble_eq_true rfl, by rw [hR]; exact Nat.le_of_ble_eq_true rfl⟩ rfl dH_speak_15 (tg_kn rfl rfl ?_)
  refine tg_aload_n hx hb dH_speak_18 rfl rfl ?_
  refine tg_iload_n hx hb dH_speak_19 rfl rfl ?_
  refine tg_iload_n hx hb dH_speak_20 rfl rfl ?_
  exact tg_passT (tg_runVT (C := "HangGraph") (As := [.int (nI (x)), .int (nI (y))]) (rest := []) ⟨hx, hb, hml, hown, hts⟩ hK hN hMv (hO.1 0 (by decide)) rfl rfl rfl (t_formulaNamed hl9 hO hT hB x y hx9 hy9 hbad) (cwV 2 hts (lg_V wm_H_47 wi_H_formulaNamed we_H_formulaNamed wn_H wc_H_formulaNamed) rfl rfl rfl ⟨rfl, by decide, by decide, rfl⟩ ⟨by rw [hR]; exact Nat.le_of_ble_eq_true rfl, by rw [hR]; exact Nat.le_of_ble_eq_true rfl⟩) rfl (Nat.le_of_ble_eq_true rfl) ⟨by rw [hR]; exact Nat.le_of_ble_eq_true rfl, by rw [hR]; exact Nat.le_of_ble_eq_true rfl⟩ rfl dH_speak_21) hnt hlocks hQ (Nat.le_of_ble_eq_true rfl) (Nat.le_of_ble_eq_true rfl)
set_option maxRecDepth 100000 in
set_option maxHeartbeats 4000000 in
/-- one rectangle too many -/
theorem t_speak5 (hl9 : l.stackTraces = false) (hO : hg_ok ok) (hT : ∀ f, T f → ok 8 f ∧ ok 9 f) (hB : ∀ j u, N j u < 1000000) (x y : Nat) (hx9 : x < 20) (hy9 : y < 20) (f : Nat) (hf : T f) (ho : a 0 (20 * x + y) = some (ad 8 f)) (h0 : N 0 f = 20 * x + y) (t0 l0 b0 r0 : Nat) (ht0 : t0 ≤ b0) (hb0 : b0 < 20) (hl0 : l0 ≤ r0) (hr0 : r0 < 20) (h7 : 20 ≤ N 7 f) : tg_MetT l yH_speak wsH_speak ({ frames := 7, cells := 1, slots := 6, locals := 140 }) D vwCl (hg_tys cI cF cZ cJ cA cB) F (hg_N F) ad ok (hg_w ad cF cI G a dr N bc sp μ) [.ref (ad 0 0), .int (nI (x)), .int (nI (y)), .int (nI (t0)), .int (nI (l0)), .int (nI (b0)), .int (nI (r0))] "java/lang/IndexOutOfBoundsException" := by
  refine tg_startT (cc := cH_speak) (maxL := 8) (ret := some .int) (by decide) rfl (Nat.le_of_ble_eq_true rfl) ?_
  intro p e R s m args below meth c Q hx hb hml hr hlocks hown hts hK hN hnt hR hQ
  have hown : s.vm.findClass "HangGraph" = some m.cls := hown
  have hts : ∀ w ∈ lw_g, w.before args s = true := fun w z => hts w (List.mem_cons_of_mem _ z)
  have hMv := hg_Mv F
  refine tg_iload_n hx hb dH_speak_0 rfl rfl ?_
  refine tg_iload_n hx hb dH_speak_1 rfl rfl ?_
  refine tg_callS (As := [.int (nI (x)), .int (nI (y))]) (rest := []) ⟨hx, hb, hml, hown, hts⟩ hK hN hMv (c_requireCell x y hx9 hy9) (va_cwS 2 hts (lg_S wm_H_30 wt_H_requireCell wn_H wc_H_requireCell) rfl rfl rfl ⟨by decide, by decide, rfl⟩ ⟨by rw [hR]; exact Nat.le_of_ble_eq_true rfl, by rw [hR]; exact Nat.le_of_ble_eq_true rfl⟩) rfl (Nat.le_of_ble_eq_true rfl) ⟨by rw [hR]; exact Nat.le_of_ble_eq_true rfl, by rw [hR]; exact Nat.le_of_ble_eq_true rfl⟩ rfl dH_speak_2 (tg_kn rfl rfl ?_)
  refine tg_iload_n hx hb dH_speak_5 rfl rfl ?_
  refine tg_iload hx hb dH_speak_6 rfl ?_
  refine tg_callS (As := [.int (nI (t0)), .int (nI (b0))]) (rest := []) ⟨hx, hb, hml, hown, hts⟩ hK hN hMv (c_requireSpan t0 b0 ht0 hb0) (va_cwS 2 hts (lg_S wm_H_51 wt_H_requireSpan wn_H wc_H_requireSpan) rfl rfl rfl ⟨by decide, by decide, rfl⟩ ⟨by rw [hR]; exact Nat.le_of_ble_eq_true rfl, by rw [hR]; exact Nat.le_of_ble_eq_true rfl⟩) rfl (Nat.le_of_ble_eq_true rfl) ⟨by rw [hR]; exact Nat.le_of_ble_eq_true rfl, by rw [hR]; exact Nat.le_of_ble_eq_true rfl⟩ rfl dH_speak_8 (tg_kn rfl rfl ?_)
  refine tg_iload hx hb dH_speak_11 rfl ?_
  refine tg_iload hx hb dH_speak_13 rfl ?_
  refine tg_callS (As := [.int (nI (l0)), .int (nI (r0))]) (rest := []) ⟨hx, hb, hml, hown, hts⟩ hK hN hMv (c_requireSpan l0 r0 hl0 hr0) (va_cwS 2 hts (lg_S wm_H_51 wt_H_requireSpan wn_H wc_H_requireSpan) rfl rfl rfl ⟨by decide, by decide, rfl⟩ ⟨by rw [hR]; exact Nat.le_of_ble_eq_true rfl, by rw [hR]; exact Nat.le_of_ble_eq_true rfl⟩) rfl (Nat.le_of_ble_eq_true rfl) ⟨by rw [hR]; exact Nat.le_of_ble_eq_true rfl, by rw [hR]; exact Nat.le_of_ble_eq_true rfl⟩ rfl dH_speak_15 (tg_kn rfl rfl ?_)
  refine tg_aload_n hx hb dH_speak_18 rfl rfl ?_
  refine tg_iload_n hx hb dH_speak_19 rfl rfl ?_
  refine tg_iload_n hx hb dH_speak_20 rfl rfl ?_
  refine tg_callV (C := "HangGraph") (As := [.int (nI (x)), .int (nI (y))]) (rest := []) ⟨hx, hb, hml, hown, hts⟩ hK hN hMv (hO.1 0 (by decide)) rfl rfl rfl (c_formulaNamed hO hT hMv hB x y hx9 hy9 f hf ho h0) (cwV 2 hts (lg_V wm_H_47 wi_H_formulaNamed we_H_formulaNamed wn_H wc_H_formulaNamed) rfl rfl rfl ⟨rfl, by decide, by decide, rfl⟩ ⟨by rw [hR]; exact Nat.le_of_ble_eq_true rfl, by rw [hR]; exact Nat.le_of_ble_eq_true rfl⟩) rfl (Nat.le_of_ble_eq_true rfl) ⟨by rw [hR]; exact Nat.le_of_ble_eq_true rfl, by rw [hR]; exact Nat.le_of_ble_eq_true rfl⟩ rfl dH_speak_21 (tg_kv rfl rfl ?_)
  refine tg_astore (L' := [(0, .ref (ad 0 0)), (1, .int (nI (x))), (2, .int (nI (y))), (3, .int (nI (t0))), (4, .int (nI (l0))), (5, .int (nI (b0))), (6, .int (nI (r0))), (7, .ref (ad 8 f))]) hx hb dH_speak_24 (by decide) rfl rfl ?_
  refine tg_aload hx hb dH_speak_26 rfl ?_
  refine tg_get (T := TF) (N := 15) hx hb hts inF hown hK (hT f hf).1 rfl rfl 7 (by decide) (hts _ wf_H_54) (fun _ z => z) rfl dH_speak_28 ?_
  have hb_1 := hB 7 f
  refine tg_bipush (v := nI 20) hx hb dH_speak_31 (by decide +kernel) ?_
  refine tg_icmp_lt (tgt := 46) hx hb dH_speak_33 (by decide) (fun q_2 => ?_) (fun q_2 => ?_)
  · have q_2' := q_2
    have h_3 : N 7 f < 20 := (nI_ltI (by omega) (by omega)).mp q_2
    omega
  · have q_2' := q_2
    have h_4 : 20 ≤ N 7 f := Nat.le_of_not_lt fun z => q_2 ((nI_ltI (by omega) (by omega)).mpr z)
    exact tg_throw hx hb hml hl9 hown hts hN (by decide) (by decide +kernel) wk_H_57 wn_java_lang_IndexOutOfBoundsException (show ((59, "the formula has 20 rectangles already") : Nat × String) ∈ hg_strs by decide) hg_at_IOE1 hg_at_IOE2 hg_ot_IOE hnt hlocks hQ dH_speak_36 dH_speak_39 dH_speak_40 dH_speak_42 dH_speak_45 (by rw [hR]; exact Nat.le_of_ble_eq_true rfl) (by rw [hR]; exact Nat.le_of_ble_eq_true rfl) (by rw [hR]; exact Nat.le_of_ble_eq_true rfl) (by rw [hR]; exact Nat.le_of_ble_eq_true rfl) (Nat.le_of_ble_eq_true rfl) (Nat.le_of_ble_eq_true rfl)
set_option maxRecDepth 100000 in
set_option maxHeartbeats 4000000 in
/-- a height that doesn't fit -/
theorem t_put2 (hl9 : l.stackTraces = false) (x y : Nat) (hx9 : x < 20) (hy9 : y < 20) (q9 : Int32) (hbad : hg_bF x q9) (k1 : Int32) : tg_MetT l yH_put wsH_put ({ frames := 7, cells := 1, slots := 6, locals := 140 }) D vwCl (hg_tys cI cF cZ cJ cA cB) F (hg_N F) ad ok w [.ref (ad 0 0), .int (nI (x)), .int (nI (y)), .int (q9), .int (k1)] "java/lang/IllegalArgumentException" := by
  refine tg_startT (cc := cH_put) (maxL := 8) (ret := some .int) (by decide) rfl (Nat.le_of_ble_eq_true rfl) ?_
  intro p e R s m args below meth c Q hx hb hml hr hlocks hown hts hK hN hnt hR hQ
  have hown : s.vm.findClass "HangGraph" = some m.cls := hown
  have hts : ∀ w ∈ lw_g, w.before args s = true := fun w z => hts w (List.mem_cons_of_mem _ z)
  have hMv := hg_Mv F
  refine tg_iload_n hx hb dH_put_0 rfl rfl ?_
  refine tg_iload_n hx hb dH_put_1 rfl rfl ?_
  refine tg_callS (As := [.int (nI (x)), .int (nI (y))]) (rest := []) ⟨hx, hb, hml, hown, hts⟩ hK hN hMv (c_requireCell x y hx9 hy9) (va_cwS 2 hts (lg_S wm_H_30 wt_H_requireCell wn_H wc_H_requireCell) rfl rfl rfl ⟨by decide, by decide, rfl⟩ ⟨by rw [hR]; exact Nat.le_of_ble_eq_true rfl, by rw [hR]; exact Nat.le_of_ble_eq_true rfl⟩) rfl (Nat.le_of_ble_eq_true rfl) ⟨by rw [hR]; exact Nat.le_of_ble_eq_true rfl, by rw [hR]; exact Nat.le_of_ble_eq_true rfl⟩ rfl dH_put_2 (tg_kn rfl rfl ?_)
  refine tg_iload_n hx hb dH_put_5 rfl rfl ?_
  refine tg_iload_n hx hb dH_put_6 rfl rfl ?_
  exact tg_passT (tg_runST (As := [.int (nI (x)), .int (q9)]) (rest := []) ⟨hx, hb, hml, hown, hts⟩ hK hN hMv (t_requireFits hl9 x hx9 q9 hbad) (va_cwS 2 hts (lg_S wm_H_34 wt_H_requireFits wn_H wc_H_requireFits) rfl rfl rfl ⟨by decide, by decide, rfl⟩ ⟨by rw [hR]; exact Nat.le_of_ble_eq_true rfl, by rw [hR]; exact Nat.le_of_ble_eq_true rfl⟩) rfl (Nat.le_of_ble_eq_true rfl) ⟨by rw [hR]; exact Nat.le_of_ble_eq_true rfl, by rw [hR]; exact Nat.le_of_ble_eq_true rfl⟩ rfl dH_put_7) hnt hlocks hQ (Nat.le_of_ble_eq_true rfl) (Nat.le_of_ble_eq_true rfl)
set_option maxRecDepth 100000 in
set_option maxHeartbeats 4000000 in
/-- a width that doesn't fit -/
theorem t_put3 (hl9 : l.stackTraces = false) (x y : Nat) (hx9 : x < 20) (hy9 : y < 20) (h : Nat) (hh1 : 1 ≤ h) (hh2 : h ≤ 20 - x) (q9 : Int32) (hbad : hg_bF y q9) : tg_MetT l yH_put wsH_put ({ frames := 7, cells := 1, slots := 6, locals := 140 }) D vwCl (hg_tys cI cF cZ cJ cA cB) F (hg_N F) ad ok w [.ref (ad 0 0), .int (nI (x)), .int (nI (y)), .int (nI (h)), .int (q9)] "java/lang/IllegalArgumentException" := by
  refine tg_startT (cc := cH_put) (maxL := 8) (ret := some .int) (by decide) rfl (Nat.le_of_ble_eq_true rfl) ?_
  intro p e R s m args below meth c Q hx hb hml hr hlocks hown hts hK hN hnt hR hQ
  have hown : s.vm.findClass "HangGraph" = some m.cls := hown
  have hts : ∀ w ∈ lw_g, w.before args s = true := fun w z => hts w (List.mem_cons_of_mem _ z)
  have hMv := hg_Mv F
  refine tg_iload_n hx hb dH_put_0 rfl rfl ?_
  refine tg_iload_n hx hb dH_put_1 rfl rfl ?_
  refine tg_callS (As := [.int (nI (x)), .int (nI (y))]) (rest := []) ⟨hx, hb, hml, hown, hts⟩ hK hN hMv (c_requireCell x y hx9 hy9) (va_cwS 2 hts (lg_S wm_H_30 wt_H_requireCell wn_H wc_H_requireCell) rfl rfl rfl ⟨by decide, by decide, rfl⟩ ⟨by rw [hR]; exact Nat.le_of_ble_eq_true rfl, by rw [hR]; exact Nat.le_of_ble_eq_true rfl⟩) rfl (Nat.le_of_ble_eq_true rfl) ⟨by rw [hR]; exact Nat.le_of_ble_eq_true rfl, by rw [hR]; exact Nat.le_of_ble_eq_true rfl⟩ rfl dH_put_2 (tg_kn rfl rfl ?_)
  refine tg_iload_n hx hb dH_put_5 rfl rfl ?_
  refine tg_iload_n hx hb dH_put_6 rfl rfl ?_
  refine tg_callS (As := [.int (nI (x)), .int (nI (h))]) (rest := []) ⟨hx, hb, hml, hown, hts⟩ hK hN hMv (c_requireFits x h hx9 hh1 hh2) (va_cwS 2 hts (lg_S wm_H_34 wt_H_requireFits wn_H wc_H_requireFits) rfl rfl rfl ⟨by decide, by decide, rfl⟩ ⟨by rw [hR]; exact Nat.le_of_ble_eq_true rfl, by rw [hR]; exact Nat.le_of_ble_eq_true rfl⟩) rfl (Nat.le_of_ble_eq_true rfl) ⟨by rw [hR]; exact Nat.le_of_ble_eq_true rfl, by rw [hR]; exact Nat.le_of_ble_eq_true rfl⟩ rfl dH_put_7 (tg_kn rfl rfl ?_)
  refine tg_iload_n hx hb dH_put_10 rfl rfl ?_
  refine tg_iload hx hb dH_put_11 rfl ?_
  exact tg_passT (tg_runST (As := [.int (nI (y)), .int (q9)]) (rest := []) ⟨hx, hb, hml, hown, hts⟩ hK hN hMv (t_requireFits hl9 y hy9 q9 hbad) (va_cwS 2 hts (lg_S wm_H_34 wt_H_requireFits wn_H wc_H_requireFits) rfl rfl rfl ⟨by decide, by decide, rfl⟩ ⟨by rw [hR]; exact Nat.le_of_ble_eq_true rfl, by rw [hR]; exact Nat.le_of_ble_eq_true rfl⟩) rfl (Nat.le_of_ble_eq_true rfl) ⟨by rw [hR]; exact Nat.le_of_ble_eq_true rfl, by rw [hR]; exact Nat.le_of_ble_eq_true rfl⟩ rfl dH_put_13) hnt hlocks hQ (Nat.le_of_ble_eq_true rfl) (Nat.le_of_ble_eq_true rfl)
set_option maxRecDepth 100000 in
set_option maxHeartbeats 4000000 in
/-- blocks would overlap -/
theorem t_put4 (hl9 : l.stackTraces = false) (hO : hg_ok ok) (hov : ∀ c, c < 400 → a 0 c = none ∨ ∃ f, T f ∧ a 0 c = some (ad 8 f)) (x y : Nat) (hx9 : x < 20) (hy9 : y < 20) (h v : Nat) (hh1 : 1 ≤ h) (hh2 : h ≤ 20 - x) (hv1 : 1 ≤ v) (hv2 : v ≤ 20 - y) (hbad : ∃ i j, (x ≤ i ∧ i ≤ x + h - 1) ∧ (y ≤ j ∧ j ≤ y + v - 1) ∧ a 0 (20 * i + j) ≠ none) : tg_MetT l yH_put wsH_put ({ frames := 7, cells := 1, slots := 6, locals := 140 }) D vwCl (hg_tys cI cF cZ cJ cA cB) F (hg_N F) ad ok (hg_w ad cF cI G a dr N bc sp μ) [.ref (ad 0 0), .int (nI (x)), .int (nI (y)), .int (nI (h)), .int (nI (v))] "java/lang/IllegalStateException" := by
  refine tg_startT (cc := cH_put) (maxL := 8) (ret := some .int) (by decide) rfl (Nat.le_of_ble_eq_true rfl) ?_
  intro p e R s m args below meth c Q hx hb hml hr hlocks hown hts hK hN hnt hR hQ
  have hown : s.vm.findClass "HangGraph" = some m.cls := hown
  have hts : ∀ w ∈ lw_g, w.before args s = true := fun w z => hts w (List.mem_cons_of_mem _ z)
  have hMv := hg_Mv F
  refine tg_iload_n hx hb dH_put_0 rfl rfl ?_
  refine tg_iload_n hx hb dH_put_1 rfl rfl ?_
  refine tg_callS (As := [.int (nI (x)), .int (nI (y))]) (rest := []) ⟨hx, hb, hml, hown, hts⟩ hK hN hMv (c_requireCell x y hx9 hy9) (va_cwS 2 hts (lg_S wm_H_30 wt_H_requireCell wn_H wc_H_requireCell) rfl rfl rfl ⟨by decide, by decide, rfl⟩ ⟨by rw [hR]; exact Nat.le_of_ble_eq_true rfl, by rw [hR]; exact Nat.le_of_ble_eq_true rfl⟩) rfl (Nat.le_of_ble_eq_true rfl) ⟨by rw [hR]; exact Nat.le_of_ble_eq_true rfl, by rw [hR]; exact Nat.le_of_ble_eq_true rfl⟩ rfl dH_put_2 (tg_kn rfl rfl ?_)
  refine tg_iload_n hx hb dH_put_5 rfl rfl ?_
  refine tg_iload_n hx hb dH_put_6 rfl rfl ?_
  refine tg_callS (As := [.int (nI (x)), .int (nI (h))]) (rest := []) ⟨hx, hb, hml, hown, hts⟩ hK hN hMv (c_requireFits x h hx9 hh1 hh2) (va_cwS 2 hts (lg_S wm_H_34 wt_H_requireFits wn_H wc_H_requireFits) rfl rfl rfl ⟨by decide, by decide, rfl⟩ ⟨by rw [hR]; exact Nat.le_of_ble_eq_true rfl, by rw [hR]; exact Nat.le_of_ble_eq_true rfl⟩) rfl (Nat.le_of_ble_eq_true rfl) ⟨by rw [hR]; exact Nat.le_of_ble_eq_true rfl, by rw [hR]; exact Nat.le_of_ble_eq_true rfl⟩ rfl dH_put_7 (tg_kn rfl rfl ?_)
  refine tg_iload_n hx hb dH_put_10 rfl rfl ?_
  refine tg_iload hx hb dH_put_11 rfl ?_
  refine tg_callS (As := [.int (nI (y)), .int (nI (v))]) (rest := []) ⟨hx, hb, hml, hown, hts⟩ hK hN hMv (c_requireFits y v hy9 hv1 hv2) (va_cwS 2 hts (lg_S wm_H_34 wt_H_requireFits wn_H wc_H_requireFits) rfl rfl rfl ⟨by decide, by decide, rfl⟩ ⟨by rw [hR]; exact Nat.le_of_ble_eq_true rfl, by rw [hR]; exact Nat.le_of_ble_eq_true rfl⟩) rfl (Nat.le_of_ble_eq_true rfl) ⟨by rw [hR]; exact Nat.le_of_ble_eq_true rfl, by rw [hR]; exact Nat.le_of_ble_eq_true rfl⟩ rfl dH_put_13 (tg_kn rfl rfl ?_)
  refine tg_iload_n hx hb dH_put_16 rfl rfl ?_
  refine tg_iload_n hx hb dH_put_17 rfl rfl ?_
  refine tg_iadd hx hb dH_put_18 ?_
  refine tg_top (y := nI ((x) + (h))) (nI_add _ _) ?_
  refine tg_iconst (v := nI 1) hx hb dH_put_19 (by decide +kernel) ?_
  refine tg_isub hx hb dH_put_20 ?_
  refine tg_top (y := nI (((x) + (h)) - (1))) (pk_sub (by omega)) ?_
  refine tg_istore (L' := [(0, .ref (ad 0 0)), (1, .int (nI (x))), (2, .int (nI (y))), (3, .int (nI (h))), (4, .int (nI (v))), (5, .int (nI (((x) + (h)) - (1))))]) hx hb dH_put_21 (by decide) rfl rfl ?_
  refine tg_iload_n hx hb dH_put_23 rfl rfl ?_
  refine tg_iload hx hb dH_put_24 rfl ?_
  refine tg_iadd hx hb dH_put_26 ?_
  refine tg_top (y := nI ((y) + (v))) (nI_add _ _) ?_
  refine tg_iconst (v := nI 1) hx hb dH_put_27 (by decide +kernel) ?_
  refine tg_isub hx hb dH_put_28 ?_
  refine tg_top (y := nI (((y) + (v)) - (1))) (pk_sub (by omega)) ?_
  refine tg_istore (L' := [(0, .ref (ad 0 0)), (1, .int (nI (x))), (2, .int (nI (y))), (3, .int (nI (h))), (4, .int (nI (v))), (5, .int (nI (((x) + (h)) - (1)))), (6, .int (nI (((y) + (v)) - (1))))]) hx hb dH_put_29 (by decide) rfl rfl ?_
  refine tg_aload_n hx hb dH_put_31 rfl rfl ?_
  refine tg_iload_n hx hb dH_put_32 rfl rfl ?_
  refine tg_iload_n hx hb dH_put_33 rfl rfl ?_
  refine tg_iload hx hb dH_put_34 rfl ?_
  refine tg_iload hx hb dH_put_36 rfl ?_
  exact tg_passT (tg_runVT (C := "HangGraph") (As := [.int (nI (x)), .int (nI (y)), .int (nI (((x) + (h)) - (1))), .int (nI (((y) + (v)) - (1)))]) (rest := []) ⟨hx, hb, hml, hown, hts⟩ hK hN hMv (hO.1 0 (by decide)) rfl rfl rfl (t_requireFree hl9 hO x y (x + h - 1) (y + v - 1) (by omega) (by omega) (by omega) (by omega) hov hbad) (cwV 4 hts (lg_V wm_H_37 wi_H_requireFree we_H_requireFree wn_H wc_H_requireFree) rfl rfl rfl ⟨rfl, by decide, by decide, rfl⟩ ⟨by rw [hR]; exact Nat.le_of_ble_eq_true rfl, by rw [hR]; exact Nat.le_of_ble_eq_true rfl⟩) rfl (Nat.le_of_ble_eq_true rfl) ⟨by rw [hR]; exact Nat.le_of_ble_eq_true rfl, by rw [hR]; exact Nat.le_of_ble_eq_true rfl⟩ rfl dH_put_38) hnt hlocks hQ (Nat.le_of_ble_eq_true rfl) (Nat.le_of_ble_eq_true rfl)
end HGC
end
section
/-! the spread -/
/-- u hangs on v, both hit -/
def hg_E (M N : Nat → Nat → Nat) (bc : Nat → Int32) (sp : Nat → Nat → Int32) (u v : Nat) : Prop := M 8 u ≠ 0 ∧ M 8 v ≠ 0 ∧ hg_hk N bc sp u v
/-- what a spread leaves -/
def hg_SP (T : Nat → Prop) (bc : Nat → Int32) (sp : Nat → Nat → Int32) (dr : Nat → Int32) (G : Nat → Nat) (a : Nat → Nat → Option Nat) (N : Nat → Nat → Nat) (G' : Nat → Nat) (a' : Nat → Nat → Option Nat) (N' : Nat → Nat → Nat) : Prop :=
  G' 0 = G 0 ∧ a' 0 = a 0 ∧ (∀ j, j < 8 → N' j = N j) ∧ (∀ j u, N' j u < 1000000) ∧ (∀ k, G' k < 1000000) ∧ (∀ u, ¬ T u → ∀ j, 8 ≤ j → j < 15 → j ≠ 12 → N' j u = 0) ∧
  (∀ f, N' 8 f ≠ 0 ↔ ∃ g, hg_R (fun u v => T u ∧ T v ∧ hg_hk N bc sp u v) f g ∧ T g ∧ (hg_hh N bc dr g ∨ hg_hd sp dr g)) ∧ G' 2 = hg_cn (fun u => N' 8 u ≠ 0) 400 ∧
  (∀ f, N' 9 f ≠ 0 ↔ hg_O (hg_E N' N bc sp) f) ∧ (∀ f, N' 8 f ≠ 0 → N' 10 f = hg_K (hg_E N' N bc sp) 400 f) ∧ ∀ f, N' 8 f = 0 → N' 10 f = 0
section HGSP
variable {T : Nat → Prop} {ad : Nat → Nat → Nat} {a a1 a2 a3 : Nat → Nat → Option Nat} {G G1 G2 G3 : Nat → Nat} {N N1 N2 N3 : Nat → Nat → Nat} {bc dr : Nat → Int32} {sp : Nat → Nat → Int32} {lv hs pa op : Nat → Nat}
theorem hg_BG.z (h : hg_BG T ad a G N 400 G1 a1 N1 lv) {j : Nat} (h1 : 8 ≤ j) (h2 : j < 15) (h3 : j ≠ 12) (hl : ∀ u, T u → u < 400) (u : Nat) : N1 j u = 0 := by
  obtain ⟨b1, b2, b3, b4, b5, b6, b7, b8, b9, b10⟩ := h
  refine b5 j u h1 h2 h3 ?_
  by_cases q : T u
  · exact Or.inl (hl u q)
  · exact Or.inr q
theorem hg_BG.fv (h : hg_BG T ad a G N 400 G1 a1 N1 lv) (hl : ∀ u, T u → u < 400) (hNN : ∀ u, T u → N 1 u ≤ N 3 u ∧ N 3 u < 20) : hg_FV T ad a1 G1 N1 lv (fun _ => 0) := by
  have z8 := fun u => h.z (j := 8) (by omega) (by omega) (by omega) hl u
  obtain ⟨b1, b2, b3, b4, b5, b6, b7, b8, b9, b10⟩ := h
  refine ⟨hl, fun u hu => by rw [b4 1 (by omega), b4 3 (by omega)]; exact hNN u hu, b1.2, fun i hi => ⟨(b8 i hi).1, (b8 i hi).2.2⟩, fun u hu => b9 u hu (hl u hu), b10, fun i hi => by rw [b2.2.1] at hi; omega, fun u hu => absurd (z8 u) hu, ?_⟩
  rw [b2.2.1, hg_cn_congr (Q := fun _ => False) 400 (fun k _ => ⟨fun q => q (z8 k), False.elim⟩)]
  exact hg_cn_0 400
theorem hg_SV_of (h : hg_BG T ad a G N 400 G1 a1 N1 lv) (hk : hg_FK T ad lv a1 G1 N1 (fun _ => 0) a2 G2 N2 hs) (hl : ∀ u, T u → u < 400) : hg_SV T ad a2 G2 N2 bc sp (hg_E N2 N bc sp) hs := by
  obtain ⟨b1, b2, b3, b4, b5, b6, b7, b8, b9, b10⟩ := h
  obtain ⟨⟨f1, f2, f3, f4, f5, f6, f7, f8, f9⟩, k2, k3, k4, k5, k6, k7, k8, k9⟩ := hk
  have e1 : N2 1 = N 1 := (k2 1 (by omega)).trans (b4 1 (by omega))
  have e3 : N2 3 = N 3 := (k2 3 (by omega)).trans (b4 3 (by omega))
  refine ⟨f2, by rw [← f9]; exact hg_cn_bd _ 400, fun i hi => ⟨(f7 i hi).1, (f7 i hi).2.2⟩, fun u v q => ⟨f8 u q.1, f8 v q.2.1⟩, fun i j hi hj => ?_, hl⟩
  rw [hg_hkE e1 e3]
  exact ⟨fun q => q.2.2, fun q => ⟨(f7 i hi).2.1, (f7 j hj).2.1, q⟩⟩
theorem hg_DV_of (h : hg_BG T ad a G N 400 G1 a1 N1 lv) (hk : hg_FK T ad lv a1 G1 N1 (fun _ => 0) a2 G2 N2 hs) (hl : ∀ u, T u → u < 400) : hg_DV T ad a2 G2 N2 (N2 13) (hg_E N2 N bc sp) hs (fun _ => 0) (fun _ => 0) := by
  have z := fun {j : Nat} (h1 : 8 ≤ j) (h2 : j < 15) (h3 : j ≠ 12) (u : Nat) => h.z (j := j) h1 h2 h3 hl u
  obtain ⟨b1, b2, b3, b4, b5, b6, b7, b8, b9, b10⟩ := h
  obtain ⟨hF, k2, k3, k4, k5, k6, k7, k8, k9⟩ := hk
  have y := fun {j : Nat} (h1 : 9 ≤ j) (h2 : j < 15) (h3 : j ≠ 12) (u : Nat) => show N2 j u = 0 by rw [k2 j (by omega)]; exact z (by omega) h2 h3 u
  have g3 : G2 3 = 0 := (k3 3 (by omega)).trans b2.2.2.1
  have g4 : G2 4 = 0 := (k3 4 (by omega)).trans b2.2.2.2.1
  have g5 : G2 5 = 0 := (k3 5 (by omega)).trans b2.2.2.2.2
  refine ⟨⟨by omega, fun k q => by omega⟩, ⟨by omega, fun k q => by omega⟩, ?_, ?_, fun u q => absurd (y (j := 14) (by omega) (by omega) (by omega) u) q, fun u _ => ⟨y (j := 9) (by omega) (by omega) (by omega) u, y (j := 10) (by omega) (by omega) (by omega) u⟩, fun u => by rw [y (j := 13) (by omega) (by omega) (by omega) u]; exact Nat.zero_le _⟩
  · rw [g3, g4]
    exact hg_T_0 (y (j := 11) (by omega) (by omega) (by omega)) (y (j := 13) (by omega) (by omega) (by omega)) (fun u q => q (y (j := 14) (by omega) (by omega) (by omega) u))
  · rw [g5, hg_cn_congr (Q := fun _ => False) 400 (fun k _ => ⟨fun q => q (y (j := 11) (by omega) (by omega) (by omega) k), False.elim⟩)]
    exact hg_cn_0 400
theorem hg_SP_of (h : hg_BG T ad a G N 400 G1 a1 N1 lv) (hk : hg_FK T ad lv a1 G1 N1 (fun _ => 0) a2 G2 N2 hs) (hl : ∀ u, T u → u < 400)
    (hit : ∀ f, N2 8 f ≠ 0 ↔ ∃ g, hg_R (fun u v => T u ∧ T v ∧ hg_hk N1 bc sp u v) f g ∧ T g ∧ (hg_hh N1 bc dr g ∨ hg_hd sp dr g))
    (hw : hg_WK T ad bc sp (hg_E N2 N bc sp) hs a2 G2 N2 a3 G3 N3 pa op) (hs9 : ∀ j, j < G2 2 → N3 14 (hs j) ≠ 0) : hg_SP T bc sp dr G a N G3 a3 N3 := by
  obtain ⟨b1, b2, b3, b4, b5, b6, b7, b8, b9, b10⟩ := h
  obtain ⟨⟨f1, f2, f3, f4, f5, f6, f7, f8, f9⟩, k2, k3, k4, k5, k6, k7, k8, k9⟩ := hk
  obtain ⟨hS, ⟨d1, d2, d3, d4, d5, d6, d7⟩, w3, w4, w5, w6, w7, w8, w9⟩ := hw
  have e8 : N3 8 = N2 8 := w3 8 (by omega)
  have hE : hg_E N3 N bc sp = hg_E N2 N bc sp := by
    unfold hg_E
    rw [e8]
  have nT : ∀ u, N3 11 u ≠ 0 → T u := fun u q => by
    obtain ⟨i, h1, h2⟩ := hg_T_17 d3 u q
    rw [← h2]
    exact (hS.2.2.1 i h1).1
  have st : ∀ u, N3 14 u ≠ 0 → N3 11 u ≠ 0 := fun u q => d3.1 u q
  have hst : ∀ u, N2 8 u ≠ 0 → N3 14 u ≠ 0 := fun u q => by
    obtain ⟨i, h1, h2⟩ := f8 u q
    rw [← h2]
    exact hs9 i h1
  have sth : ∀ u, N3 14 u ≠ 0 → N2 8 u ≠ 0 := fun u q => by
    obtain ⟨i, h1, h2⟩ := hg_T_17 d3 u (st u q)
    rw [← h2]
    exact (f7 i (by rw [← w4.2.2]; exact h1)).2.1
  have hT8 : ∀ u, N2 8 u ≠ 0 → T u := fun u q => by
    obtain ⟨i, h1, h2⟩ := f8 u q
    rw [← h2]
    exact (f7 i h1).1
  unfold hg_SP
  rw [hE, e8]
  refine ⟨w4.1.trans ((k3 0 (by omega)).trans b2.1), w5.1.trans ((k4 0 (by omega)).trans (b3 0 (by omega))), fun j hj => (w3 j (by omega)).trans ((k2 j (by omega)).trans (b4 j hj)), w6, w7, fun u hu j h1 h2 h3 => ?_, fun f => ?_, w4.2.2.trans f9.symm, fun f => ?_, fun f q => (d5 f (hst f q)).2, fun f q => (d6 f (Decidable.byContradiction fun z => sth f z q)).2⟩
  · have n11 : N3 11 u = 0 := Decidable.byContradiction fun z => hu (nT u z)
    have n14 : N3 14 u = 0 := Decidable.byContradiction fun z => st u z n11
    have hj : j = 8 ∨ j = 9 ∨ j = 10 ∨ j = 11 ∨ j = 13 ∨ j = 14 := by omega
    rcases hj with q | q | q | q | q | q
    · rw [q, e8]
      exact Decidable.byContradiction fun z => hu (hT8 u z)
    · rw [q]
      exact (d6 u n14).1
    · rw [q]
      exact (d6 u n14).2
    · rw [q]
      exact n11
    · rw [q]
      exact d3.2.2.2.2.2.2.2.2.2.2.2.2.2.2.2.2.2 u n11
    · rw [q]
      exact n14
  · rw [hit f]
    have e1 : N1 1 = N 1 := b4 1 (by omega)
    have e3 : N1 3 = N 3 := b4 3 (by omega)
    have ek : (fun u v => T u ∧ T v ∧ hg_hk N1 bc sp u v) = fun u v => T u ∧ T v ∧ hg_hk N bc sp u v := by
      funext u v
      unfold hg_hk
      rw [e1, e3]
    rw [ek]
    unfold hg_hh
    rw [e1, e3]
  · by_cases q : N2 8 f ≠ 0
    · exact (d5 f (hst f q)).1
    · have n14 : N3 14 f = 0 := Decidable.byContradiction fun z => q (sth f z)
      exact ⟨fun z => absurd (d6 f n14).1 z, fun ⟨v, z, _⟩ => absurd z.1 q⟩
end HGSP
section HGD
variable {l : Launch} {D : va_G} {F : Nat → Prop} {Nn : State → Heap → Prop} {ad : Nat → Nat → Nat} {ok : Nat → Nat → Prop} {cF cI cZ cJ cA cB : ClassId} {G : Nat → Nat} {a : Nat → Nat → Option Nat} {dr : Nat → Int32} {N : Nat → Nat → Nat} {bc : Nat → Int32} {sp : Nat → Nat → Int32} {μ : Nat → Nat → va_E} {T : Nat → Prop} {w : Nat → Nat → va_E}
set_option maxRecDepth 100000 in
set_option maxHeartbeats 4000000 in
/-- a spread -/
theorem c_spread (hO : hg_ok ok) (hT : ∀ f, T f → ok 8 f ∧ ok 9 f) (hMv : tg_Mv F Nn) (hB : ∀ j u, N j u < 1000000) (hBG : ∀ k, G k < 1000000) (hov : ∀ c, c < 400 → a 0 c = none ∨ ∃ f, T f ∧ a 0 c = some (ad 8 f)) (hself : ∀ f, T f → f < 400 ∧ a 0 f = some (ad 8 f) ∧ N 0 f = f) (hz : ∀ u, ¬ T u → ∀ j, 8 ≤ j → j < 15 → j ≠ 12 → N j u = 0) (hNN : ∀ u, T u → N 1 u ≤ N 3 u ∧ N 3 u < 20) : tg_Met l yH_spread wsH_spread ({ frames := 6, cells := 0, slots := 0, locals := 290 }) D vwCl (hg_tys cI cF cZ cJ cA cB) F Nn ad ok (hg_w ad cF cI G a dr N bc sp μ) [.ref (ad 0 0)] (tg_po ad ok fun r w1 => ∃ G' a' N', r = some (.int (nI (G' 2))) ∧ w1 = hg_w ad cF cI G' a' (hg_z dr 20) N' bc sp μ ∧ hg_SP T bc sp dr G a N G' a' N') := by
  refine tg_start (cc := cH_spread) (maxL := 1) (ret := some .int) (by decide) rfl (Nat.le_of_ble_eq_true rfl) ?_
  intro p e R s m args below meth c Q hx hb hml hr hlocks hown hname hts hK hN hR hQ
  have hown : s.vm.findClass "HangGraph" = some m.cls := hown
  have hts : ∀ w ∈ lw_g, w.before args s = true := fun w z => hts w (List.mem_cons_of_mem _ z)
  have hl4 : ∀ u, T u → u < 400 := fun u hu => (hself u hu).1
  refine tg_aload_n hx hb dH_spread_0 rfl rfl ?_
  refine tg_get (T := TH) (N := 4) hx hb hts inH hown hK (hO.1 0 (by decide)) rfl rfl 2 (by decide) (hts _ wf_H_22) (fun _ z => z) rfl dH_spread_1 ?_
  refine tg_aload_n hx hb dH_spread_4 rfl rfl ?_
  refine tg_get (T := TH) (N := 4) hx hb hts inH hown hK (hO.1 0 (by decide)) rfl rfl 0 (by decide) (hts _ wf_H_11) (fun _ z => z) rfl dH_spread_5 ?_
  refine tg_callV (C := "HangGraph$Sweep") (As := [.ref (ad 1 0)]) (rest := []) ⟨hx, hb, hml, hown, hts⟩ hK hN hMv (hO.1 3 (by decide)) rfl rfl rfl (c_begin hO hT hMv hB hBG hov hself hz) (cwV 1 hts (lg_V wm_H_71 wi_S_begin we_S_begin wn_S wc_S_begin) rfl rfl rfl ⟨rfl, by decide, by decide, rfl⟩ ⟨by rw [hR]; exact Nat.le_of_ble_eq_true rfl, by rw [hR]; exact Nat.le_of_ble_eq_true rfl⟩) rfl (Nat.le_of_ble_eq_true rfl) ⟨by rw [hR]; exact Nat.le_of_ble_eq_true rfl, by rw [hR]; exact Nat.le_of_ble_eq_true rfl⟩ rfl dH_spread_8 (tg_kk rfl rfl ?_)
  intro r w1 ⟨hr0, G1, a1, N1, lv, hw1, hb1⟩
  subst hr0
  subst hw1
  refine tg_st (st' := []) rfl ?_
  have hb1' := hb1
  obtain ⟨b1, b2, b3, b4, b5, b6, b7, b8, b9, b10⟩ := hb1'
  refine tg_aload_n hx hb dH_spread_11 rfl rfl ?_
  refine tg_get (T := TH) (N := 4) hx hb hts inH hown hK (hO.1 0 (by decide)) rfl rfl 2 (by decide) (hts _ wf_H_22) (fun _ z => z) rfl dH_spread_12 ?_
  refine tg_aload_n hx hb dH_spread_15 rfl rfl ?_
  refine tg_get (T := TH) (N := 4) hx hb hts inH hown hK (hO.1 0 (by decide)) rfl rfl 1 (by decide) (hts _ wf_H_15) (fun _ z => z) rfl dH_spread_16 ?_
  refine tg_callV (C := "HangGraph$Sweep") (As := [.ref (ad 2 0)]) (rest := []) ⟨hx, hb, hml, hown, hts⟩ hK hN hMv (hO.1 3 (by decide)) rfl rfl rfl (c_findHit hO hT hMv b6 b7 lv (fun _ => 0) (hb1.fv hl4 hNN) (hb1.z (by omega) (by omega) (by omega) hl4)) (cwV 1 hts (lg_V wm_H_75 wi_S_findHit we_S_findHit wn_S wc_S_findHit) rfl rfl rfl ⟨rfl, by decide, by decide, rfl⟩ ⟨by rw [hR]; exact Nat.le_of_ble_eq_true rfl, by rw [hR]; exact Nat.le_of_ble_eq_true rfl⟩) rfl (Nat.le_of_ble_eq_true rfl) ⟨by rw [hR]; exact Nat.le_of_ble_eq_true rfl, by rw [hR]; exact Nat.le_of_ble_eq_true rfl⟩ rfl dH_spread_19 (tg_kk rfl rfl ?_)
  intro r w1 ⟨hr0, a2, G2, N2, hs, hw1, hk2, hit2⟩
  subst hr0
  subst hw1
  refine tg_st (st' := []) rfl ?_
  have hk2' := hk2
  obtain ⟨hF, k2, k3, k4, k5, k6, k7, k8, k9⟩ := hk2'
  refine tg_aload_n hx hb dH_spread_22 rfl rfl ?_
  refine tg_get (T := TH) (N := 4) hx hb hts inH hown hK (hO.1 0 (by decide)) rfl rfl 2 (by decide) (hts _ wf_H_22) (fun _ z => z) rfl dH_spread_23 ?_
  refine tg_callV (C := "HangGraph$Sweep") (As := []) (rest := []) ⟨hx, hb, hml, hown, hts⟩ hK hN hMv (hO.1 3 (by decide)) rfl rfl rfl (c_rankHit hO hT hMv k5 k6 hs (fun _ => 0) (fun _ => 0) (hg_E N2 N bc sp) (hg_SV_of hb1 hk2 hl4) (hg_DV_of hb1 hk2 hl4) ((k3 3 (by omega)).trans b2.2.2.1)) (cwV 0 hts (lg_V wm_H_79 wi_S_rankHit we_S_rankHit wn_S wc_S_rankHit) rfl rfl rfl ⟨rfl, by decide, by decide, rfl⟩ ⟨by rw [hR]; exact Nat.le_of_ble_eq_true rfl, by rw [hR]; exact Nat.le_of_ble_eq_true rfl⟩) rfl (Nat.le_of_ble_eq_true rfl) ⟨by rw [hR]; exact Nat.le_of_ble_eq_true rfl, by rw [hR]; exact Nat.le_of_ble_eq_true rfl⟩ rfl dH_spread_26 (tg_kk rfl rfl ?_)
  intro r w1 ⟨hr0, a3, G3, N3, pa, op, hw1, hk3, h30, hs9⟩
  subst hr0
  subst hw1
  refine tg_st (st' := []) rfl ?_
  have hsp := hg_SP_of (dr := dr) hb1 hk2 hl4 hit2 hk3 hs9
  refine tg_aload_n hx hb dH_spread_29 rfl rfl ?_
  refine tg_get (T := TH) (N := 4) hx hb hts inH hown hK (hO.1 0 (by decide)) rfl rfl 1 (by decide) (hts _ wf_H_15) (fun _ z => z) rfl dH_spread_30 ?_
  refine tg_iconst (v := nI 0) hx hb dH_spread_33 (by decide +kernel) ?_
  refine tg_callS (As := [.ref (ad 2 0), .int (nI (0))]) (rest := []) ⟨hx, hb, hml, hown, hts⟩ hK hN hMv (c_fill hO) (va_cwS 2 hts (lg_S wm_H_82 wt_A_fill wn_A wc_A_fill) rfl rfl rfl ⟨by decide, by decide, rfl⟩ ⟨by rw [hR]; exact Nat.le_of_ble_eq_true rfl, by rw [hR]; exact Nat.le_of_ble_eq_true rfl⟩) rfl (Nat.le_of_ble_eq_true rfl) ⟨by rw [hR]; exact Nat.le_of_ble_eq_true rfl, by rw [hR]; exact Nat.le_of_ble_eq_true rfl⟩ rfl dH_spread_34 (tg_kn rfl rfl ?_)
  refine tg_aload_n hx hb dH_spread_37 rfl rfl ?_
  refine tg_get (T := TH) (N := 4) hx hb hts inH hown hK (hO.1 0 (by decide)) rfl rfl 2 (by decide) (hts _ wf_H_22) (fun _ z => z) rfl dH_spread_38 ?_
  refine tg_get (T := TS) (N := 9) hx hb hts inS hown hK (hO.1 3 (by decide)) rfl rfl 3 (by decide) (hts _ wf_H_88) (fun _ z => z) rfl dH_spread_41 ?_
  exact tg_iret hx hb hlocks hr hQ ⟨rfl, rfl, G3, a3, N3, rfl, rfl, hsp⟩ dH_spread_44
end HGD
end
section
/-! the constructors -/
theorem tg_uu {α : Type} (f : Nat → Nat → α) (k i : Nat) (x y : α) : tg_up (tg_up f k i x) k i y = tg_up f k i y := by
  funext a b
  by_cases h : a = k ∧ b = i
  · obtain ⟨rfl, rfl⟩ := h
    rw [tg_up_self, tg_up_self]
  · rw [tg_up_ne _ _ h, tg_up_ne _ _ h, tg_up_ne _ _ h]
theorem tg_cm {α : Type} (f : Nat → Nat → α) {k i k' i' : Nat} (x y : α) (h : ¬ (k = k' ∧ i = i')) : tg_up (tg_up f k i x) k' i' y = tg_up (tg_up f k' i' y) k i x := by
  funext a b
  by_cases h1 : a = k ∧ b = i
  · obtain ⟨rfl, rfl⟩ := h1
    rw [tg_up_self, tg_up_ne _ _ h, tg_up_self]
  · rw [tg_up_ne _ _ h1]
    by_cases h2 : a = k' ∧ b = i'
    · obtain ⟨rfl, rfl⟩ := h2
      rw [tg_up_self, tg_up_self]
    · rw [tg_up_ne _ _ h2, tg_up_ne _ _ h2, tg_up_ne _ _ h1]
theorem wc_oi : (Cond.code Lib.objectInit ⟨#[0xb1]⟩ 1 none : Cond) ∈ lw_g := wc_java_lang_Object_init_0
section TGO
variable {p : Program} {l : Launch} {e : Env} {R : Room} {s : State} {m : MethodId} {args : Array Value} {below : List Frame} {meth : Method} {c : Code} {cells slots : Nat} {Q : State → Prop}
variable {cc : ByteArray} {pc nL : Nat} {st : List Value} {D : va_G} {cl : List vw_C} {F : Nat → Prop} {ad : Nat → Nat → Nat} {ok : Nat → Nat → Prop} {w : Nat → Nat → va_E} {L : List (Nat × Value)}
theorem tg_oinit (hx : p.tables.exec = Jvm.exec) (hb : c.code = cc) (hml : c.maxLocals = nL) {own : String} {index q : Nat} (hown : s.vm.findClass own = some m.cls) (hlink : (Cond.methodLink own index Lib.objectInit).before args s = true) (hinst : (Cond.instanceMethod Lib.objectInit).before args s = true) (hcode : (Cond.code Lib.objectInit ⟨#[0xb1]⟩ 1 none).before args s = true) (hdg : decode cc pc = .ok (.invokespecial index, 3)) (hfr : 1 ≤ R.frames) (hlo : (st.map fun v => v.category).sum + 12 ≤ R.locals) (kk : tg_W p l e R s m args below meth c Q nL D cl F ad ok w L cells slots (pc + 3) st) : tg_W p l e R s m args below meth c Q nL D cl F ad ok w L cells slots pc (.ref q :: st) := by
  intro H locs ls hZ h
  refine W.objInit hx hb hown hlink hinst hcode rfl (h.1.trans hml.symm) rfl hdg hfr ?_ (kk H locs ls hZ h)
  show 2 * 0 + _ + 12 ≤ _
  rw [Nat.mul_zero, Nat.zero_add]
  exact hlo
end TGO
section HGK
variable {l : Launch} {D : va_G} {F : Nat → Prop} {Nn : State → Heap → Prop} {ad : Nat → Nat → Nat} {ok : Nat → Nat → Prop} {cF cI cZ cJ cA cB : ClassId} {G : Nat → Nat} {a : Nat → Nat → Option Nat} {dr : Nat → Int32} {N : Nat → Nat → Nat} {bc : Nat → Int32} {sp : Nat → Nat → Int32} {μ : Nat → Nat → va_E} {T : Nat → Prop} {w : Nat → Nat → va_E}
set_option maxRecDepth 100000 in
set_option maxHeartbeats 4000000 in
/-- a formula is made -/
theorem c_Finit (f : Nat) (hk : ok 8 f) (x y b0 r0 : Nat) (hyr : y ≤ r0) (hr0 : r0 < 20) : tg_Met l yF_init wsF_init ({ frames := 1, cells := 1, slots := 20, locals := 40 }) D vwCl (hg_tys cI cF cZ cJ cA cB) F (hg_N F) ad ok (tg_up w 8 f (.inr (1, [.int 0, .int 0, .int 0, .int 0, .int 0, .int 0, .null, .int 0, .int 0, .int 0, .int 0, .int 0, .int 0, .int 0, .int 0]))) [.ref (ad 8 f), .int (nI (x)), .int (nI (y)), .int (nI (b0)), .int (nI (r0))] (fun r1 ad1 ok1 w1 => r1 = none ∧ ∃ q, ad1 = tg_up ad 9 f q ∧ ok1 = (fun a b => ok a b ∨ (a = 9 ∧ b = f)) ∧ w1 = tg_up (tg_up w 9 f (.inl (cI, 20, .inl fun _ => nI 0))) 8 f (.inr (1, [.int (nI (20 * x + y)), .int (nI x), .int (nI y), .int (nI b0), .int (nI r0), .int (hg_cb y r0), .ref q, .int 0, .int 0, .int 0, .int 0, .int 0, .int 0, .int 0, .int 0]))) := by
  refine tg_start (cc := cF_init) (maxL := 5) (ret := none) (by decide) rfl (Nat.le_of_ble_eq_true rfl) ?_
  intro p e R s m args below meth c Q hx hb hml hr hlocks hown hname hts hK hN hR hQ
  have hown : s.vm.findClass "HangGraph$Formula" = some m.cls := hown
  have hts : ∀ w ∈ lw_g, w.before args s = true := fun w z => hts w (List.mem_cons_of_mem _ z)
  have hMv := hg_Mv F
  have hNest := hN.1
  refine tg_aload_n hx hb dF_init_0 rfl rfl ?_
  refine tg_oinit hx hb hml hown (hts _ wm_F_3) (hts _ wi_java_lang_Object_init_0) (hts _ wc_oi) dF_init_1 (by rw [hR]; exact Nat.le_of_ble_eq_true rfl) (by rw [hR]; exact Nat.le_of_ble_eq_true rfl) ?_
  refine tg_aload_n hx hb dF_init_4 rfl rfl ?_
  refine tg_iload_n hx hb dF_init_5 rfl rfl ?_
  refine tg_iload_n hx hb dF_init_6 rfl rfl ?_
  refine tg_callSN (As := [.int (nI (x)), .int (nI (y))]) (rest := [.ref (ad 8 f)]) ⟨hx, hb, hml, hown, hts⟩ hK hN hMv (c_cellAt x y) ⟨va_cnB 2 hts (lg_N wc_H_cellAt) rfl rfl rfl (hNest (.methodLinkNest "HangGraph$Formula" 9 yH_cellAt "HangGraph") (by decide)) (hts _ wn_H) ⟨by decide, by decide, rfl⟩ ⟨by rw [hR]; exact Nat.le_of_ble_eq_true rfl, by rw [hR]; exact Nat.le_of_ble_eq_true rfl⟩, hts _ wt_H_cellAt, trivial⟩ rfl (Nat.le_of_ble_eq_true rfl) ⟨by rw [hR]; exact Nat.le_of_ble_eq_true rfl, by rw [hR]; exact Nat.le_of_ble_eq_true rfl⟩ rfl dF_init_7 (tg_kv rfl rfl ?_)
  refine tg_putF (k := 8) (i := f) (T := TF) (N := 15) (ty := .int) hx hb hts inF tyF tyF_ok nmF hown hK hk (tg_up_self _ _ _ _) rfl 0 (by decide) (hts _ wf_F_13) (fun _ z => z) rfl hname rfl (by decide +kernel) rfl rfl (Nat.le_of_ble_eq_true rfl) dF_init_10 ?_
  refine tg_w (tg_uu _ _ _ _ _) ?_
  refine tg_aload_n hx hb dF_init_13 rfl rfl ?_
  refine tg_iload_n hx hb dF_init_14 rfl rfl ?_
  refine tg_putF (k := 8) (i := f) (T := TF) (N := 15) (ty := .int) hx hb hts inF tyF tyF_ok nmF hown hK hk (tg_up_self _ _ _ _) rfl 1 (by decide) (hts _ wf_F_19) (fun _ z => z) rfl hname rfl (by decide +kernel) rfl rfl (Nat.le_of_ble_eq_true rfl) dF_init_15 ?_
  refine tg_w (tg_uu _ _ _ _ _) ?_
  refine tg_aload_n hx hb dF_init_18 rfl rfl ?_
  refine tg_iload_n hx hb dF_init_19 rfl rfl ?_
  refine tg_putF (k := 8) (i := f) (T := TF) (N := 15) (ty := .int) hx hb hts inF tyF tyF_ok nmF hown hK hk (tg_up_self _ _ _ _) rfl 2 (by decide) (hts _ wf_F_22) (fun _ z => z) rfl hname rfl (by decide +kernel) rfl rfl (Nat.le_of_ble_eq_true rfl) dF_init_20 ?_
  refine tg_w (tg_uu _ _ _ _ _) ?_
  refine tg_aload_n hx hb dF_init_23 rfl rfl ?_
  refine tg_iload_n hx hb dF_init_24 rfl rfl ?_
  refine tg_putF (k := 8) (i := f) (T := TF) (N := 15) (ty := .int) hx hb hts inF tyF tyF_ok nmF hown hK hk (tg_up_self _ _ _ _) rfl 3 (by decide) (hts _ wf_F_25) (fun _ z => z) rfl hname rfl (by decide +kernel) rfl rfl (Nat.le_of_ble_eq_true rfl) dF_init_25 ?_
  refine tg_w (tg_uu _ _ _ _ _) ?_
  refine tg_aload_n hx hb dF_init_28 rfl rfl ?_
  refine tg_iload hx hb dF_init_29 rfl ?_
  refine tg_putF (k := 8) (i := f) (T := TF) (N := 15) (ty := .int) hx hb hts inF tyF tyF_ok nmF hown hK hk (tg_up_self _ _ _ _) rfl 4 (by decide) (hts _ wf_F_28) (fun _ z => z) rfl hname rfl (by decide +kernel) rfl rfl (Nat.le_of_ble_eq_true rfl) dF_init_31 ?_
  refine tg_w (tg_uu _ _ _ _ _) ?_
  refine tg_aload_n hx hb dF_init_34 rfl rfl ?_
  refine tg_iload_n hx hb dF_init_35 rfl rfl ?_
  refine tg_iload hx hb dF_init_36 rfl ?_
  refine tg_callSN (As := [.int (nI (y)), .int (nI (r0))]) (rest := [.ref (ad 8 f)]) ⟨hx, hb, hml, hown, hts⟩ hK hN hMv (c_columnBits y r0 hyr hr0) ⟨va_cnB 2 hts (lg_N wc_H_columnBits) rfl rfl rfl (hNest (.methodLinkNest "HangGraph$Formula" 31 yH_columnBits "HangGraph") (by decide)) (hts _ wn_H) ⟨by decide, by decide, rfl⟩ ⟨by rw [hR]; exact Nat.le_of_ble_eq_true rfl, by rw [hR]; exact Nat.le_of_ble_eq_true rfl⟩, hts _ wt_H_columnBits, trivial⟩ rfl (Nat.le_of_ble_eq_true rfl) ⟨by rw [hR]; exact Nat.le_of_ble_eq_true rfl, by rw [hR]; exact Nat.le_of_ble_eq_true rfl⟩ rfl dF_init_38 (tg_kv rfl rfl ?_)
  refine tg_putF (k := 8) (i := f) (T := TF) (N := 15) (ty := .int) hx hb hts inF tyF tyF_ok nmF hown hK hk (tg_up_self _ _ _ _) rfl 5 (by decide) (hts _ wf_F_34) (fun _ z => z) rfl hname rfl (by decide +kernel) rfl rfl (Nat.le_of_ble_eq_true rfl) dF_init_41 ?_
  refine tg_w (tg_uu _ _ _ _ _) ?_
  refine tg_aload_n hx hb dF_init_44 rfl rfl ?_
  refine tg_bipush (v := nI 20) hx hb dF_init_45 (by decide +kernel) ?_
  refine tg_newa hx hb 9 f (atype := .int) (hts _ wa_int) rfl (cA := cI) (hK.2 0 _ rfl).2 (n := nI 20) (N' := 20) (a0 := (20, .inl fun _ => nI 0)) (fun cA => by rw [vp_cell_i, nI_0]; rfl) (by decide +kernel) (by decide +kernel) (by decide) (by rw [hR]; exact Nat.le_of_ble_eq_true rfl) (by rw [hR]; exact Nat.le_of_ble_eq_true rfl) dF_init_47 (fun q9 => ?_)
  obtain ⟨ad9, h9⟩ : ∃ z, z = tg_up ad 9 f q9 := ⟨_, rfl⟩
  rw [← h9]
  have r9 : ad9 8 f = ad 8 f := by rw [h9, tg_up_ne _ _ (fun z => absurd z.1 (by decide))]
  refine tg_st (st' := [.ref q9, .ref (ad9 8 f)]) (by rw [r9]) ?_
  refine tg_w (tg_cm _ _ _ (fun z => absurd z.1 (by decide))) ?_
  refine tg_putF (k := 8) (i := f) (T := TF) (N := 15) (ty := .array .int) hx hb hts inF tyF tyF_ok nmF hown hK (Or.inl hk) (tg_up_self _ _ _ _) rfl 6 (by decide) (hts _ wf_F_37) (fun _ z => z) rfl hname rfl (by decide +kernel) rfl rfl (Nat.le_of_ble_eq_true rfl) dF_init_49 ?_
  refine tg_w (tg_uu _ _ _ _ _) ?_
  exact tg_vret hx hb hlocks hr hQ ⟨rfl, q9, h9, rfl, rfl⟩ dF_init_52
set_option maxRecDepth 100000 in
set_option maxHeartbeats 4000000 in
/-- a sweep is made -/
theorem c_Sinit (hk : ok 3 0) : tg_Met l yS_init wsS_init ({ frames := 1, cells := 4, slots := 1600, locals := 40 }) D vwCl (hg_tys cI cF cZ cJ cA cB) F (hg_N F) ad ok (tg_up w 3 0 (.inr (2, [.null, .int 0, .null, .int 0, .null, .int 0, .null, .int 0, .int 0]))) [.ref (ad 3 0)] (fun r1 ad1 ok1 w1 => r1 = none ∧ ∃ q4 q5 q6 q7, ad1 = tg_up (tg_up (tg_up (tg_up ad 4 0 q4) 5 0 q5) 6 0 q6) 7 0 q7 ∧ ok1 = (fun a b => (((ok a b ∨ (a = 4 ∧ b = 0)) ∨ (a = 5 ∧ b = 0)) ∨ (a = 6 ∧ b = 0)) ∨ (a = 7 ∧ b = 0)) ∧ w1 = tg_up (tg_up (tg_up (tg_up (tg_up w 4 0 (.inl (cF, 400, .inr (.inr (.inr (.inr fun _ => none)))))) 5 0 (.inl (cF, 400, .inr (.inr (.inr (.inr fun _ => none)))))) 6 0 (.inl (cF, 400, .inr (.inr (.inr (.inr fun _ => none)))))) 7 0 (.inl (cF, 400, .inr (.inr (.inr (.inr fun _ => none)))))) 3 0 (.inr (2, [.ref q4, .int 0, .ref q5, .int 0, .ref q6, .int 0, .ref q7, .int 0, .int 0]))) := by
  refine tg_start (cc := cS_init) (maxL := 1) (ret := none) (by decide) rfl (Nat.le_of_ble_eq_true rfl) ?_
  intro p e R s m args below meth c Q hx hb hml hr hlocks hown hname hts hK hN hR hQ
  have hown : s.vm.findClass "HangGraph$Sweep" = some m.cls := hown
  have hts : ∀ w ∈ lw_g, w.before args s = true := fun w z => hts w (List.mem_cons_of_mem _ z)
  have hMv := hg_Mv F
  refine tg_aload_n hx hb dS_init_0 rfl rfl ?_
  refine tg_oinit hx hb hml hown (hts _ wm_S_3) (hts _ wi_java_lang_Object_init_0) (hts _ wc_oi) dS_init_1 (by rw [hR]; exact Nat.le_of_ble_eq_true rfl) (by rw [hR]; exact Nat.le_of_ble_eq_true rfl) ?_
  refine tg_aload_n hx hb dS_init_4 rfl rfl ?_
  refine tg_sipush (v := nI 400) hx hb dS_init_5 (by decide +kernel) ?_
  refine tg_anew hx hb 4 0 (C := "HangGraph$Formula") (t0 := 1) hown (hts _ wk_S_9) (va_AO.use hN.2.1.1) hK rfl (n := nI 400) (N' := 400) (by decide +kernel) (by decide +kernel) (by decide) (by rw [hR]; exact Nat.le_of_ble_eq_true rfl) (by rw [hR]; exact Nat.le_of_ble_eq_true rfl) dS_init_8 (fun q4 => ?_)
  obtain ⟨ad4, h4⟩ : ∃ z, z = tg_up ad 4 0 q4 := ⟨_, rfl⟩
  rw [← h4]
  have r4 : ad4 3 0 = ad 3 0 := by rw [h4, tg_up_ne _ _ (fun z => absurd z.1 (by decide))]
  refine tg_st (st' := [.ref q4, .ref (ad4 3 0)]) (by rw [r4]) ?_
  refine tg_w (tg_cm _ _ _ (fun z => absurd z.1 (by decide))) ?_
  refine tg_putF (k := 3) (i := 0) (T := TS) (N := 9) (ty := .array (.object "HangGraph$Formula")) hx hb hts inS tyS tyS_ok nmS hown hK (Or.inl hk) (tg_up_self _ _ _ _) rfl 0 (by decide) (hts _ wf_S_11) (fun _ z => z) rfl hname rfl (by decide +kernel) rfl rfl (Nat.le_of_ble_eq_true rfl) dS_init_11 ?_
  refine tg_w (tg_uu _ _ _ _ _) ?_
  refine tg_aload_n hx hb dS_init_14 rfl rfl ?_
  refine tg_sipush (v := nI 400) hx hb dS_init_15 (by decide +kernel) ?_
  refine tg_anew hx hb 5 0 (C := "HangGraph$Formula") (t0 := 1) hown (hts _ wk_S_9) (va_AO.use hN.2.1.1) hK rfl (n := nI 400) (N' := 400) (by decide +kernel) (by decide +kernel) (by decide) (by rw [hR]; exact Nat.le_of_ble_eq_true rfl) (by rw [hR]; exact Nat.le_of_ble_eq_true rfl) dS_init_18 (fun q5 => ?_)
  obtain ⟨ad5, h5⟩ : ∃ z, z = tg_up ad4 5 0 q5 := ⟨_, rfl⟩
  rw [← h5]
  have r5 : ad5 3 0 = ad 3 0 := by rw [h5, tg_up_ne _ _ (fun z => absurd z.1 (by decide)), r4]
  refine tg_st (st' := [.ref q5, .ref (ad5 3 0)]) (by rw [r5]) ?_
  refine tg_w (tg_cm _ _ _ (fun z => absurd z.1 (by decide))) ?_
  refine tg_putF (k := 3) (i := 0) (T := TS) (N := 9) (ty := .array (.object "HangGraph$Formula")) hx hb hts inS tyS tyS_ok nmS hown hK (Or.inl (Or.inl hk)) (tg_up_self _ _ _ _) rfl 2 (by decide) (hts _ wf_S_17) (fun _ z => z) rfl hname rfl (by decide +kernel) rfl rfl (Nat.le_of_ble_eq_true rfl) dS_init_21 ?_
  refine tg_w (tg_uu _ _ _ _ _) ?_
  refine tg_aload_n hx hb dS_init_24 rfl rfl ?_
  refine tg_sipush (v := nI 400) hx hb dS_init_25 (by decide +kernel) ?_
  refine tg_anew hx hb 6 0 (C := "HangGraph$Formula") (t0 := 1) hown (hts _ wk_S_9) (va_AO.use hN.2.1.1) hK rfl (n := nI 400) (N' := 400) (by decide +kernel) (by decide +kernel) (by decide) (by rw [hR]; exact Nat.le_of_ble_eq_true rfl) (by rw [hR]; exact Nat.le_of_ble_eq_true rfl) dS_init_28 (fun q6 => ?_)
  obtain ⟨ad6, h6⟩ : ∃ z, z = tg_up ad5 6 0 q6 := ⟨_, rfl⟩
  rw [← h6]
  have r6 : ad6 3 0 = ad 3 0 := by rw [h6, tg_up_ne _ _ (fun z => absurd z.1 (by decide)), r5]
  refine tg_st (st' := [.ref q6, .ref (ad6 3 0)]) (by rw [r6]) ?_
  refine tg_w (tg_cm _ _ _ (fun z => absurd z.1 (by decide))) ?_
  refine tg_putF (k := 3) (i := 0) (T := TS) (N := 9) (ty := .array (.object "HangGraph$Formula")) hx hb hts inS tyS tyS_ok nmS hown hK (Or.inl (Or.inl (Or.inl hk))) (tg_up_self _ _ _ _) rfl 4 (by decide) (hts _ wf_S_20) (fun _ z => z) rfl hname rfl (by decide +kernel) rfl rfl (Nat.le_of_ble_eq_true rfl) dS_init_31 ?_
  refine tg_w (tg_uu _ _ _ _ _) ?_
  refine tg_aload_n hx hb dS_init_34 rfl rfl ?_
  refine tg_sipush (v := nI 400) hx hb dS_init_35 (by decide +kernel) ?_
  refine tg_anew hx hb 7 0 (C := "HangGraph$Formula") (t0 := 1) hown (hts _ wk_S_9) (va_AO.use hN.2.1.1) hK rfl (n := nI 400) (N' := 400) (by decide +kernel) (by decide +kernel) (by decide) (by rw [hR]; exact Nat.le_of_ble_eq_true rfl) (by rw [hR]; exact Nat.le_of_ble_eq_true rfl) dS_init_38 (fun q7 => ?_)
  obtain ⟨ad7, h7⟩ : ∃ z, z = tg_up ad6 7 0 q7 := ⟨_, rfl⟩
  rw [← h7]
  have r7 : ad7 3 0 = ad 3 0 := by rw [h7, tg_up_ne _ _ (fun z => absurd z.1 (by decide)), r6]
  refine tg_st (st' := [.ref q7, .ref (ad7 3 0)]) (by rw [r7]) ?_
  refine tg_w (tg_cm _ _ _ (fun z => absurd z.1 (by decide))) ?_
  refine tg_putF (k := 3) (i := 0) (T := TS) (N := 9) (ty := .array (.object "HangGraph$Formula")) hx hb hts inS tyS tyS_ok nmS hown hK (Or.inl (Or.inl (Or.inl (Or.inl hk)))) (tg_up_self _ _ _ _) rfl 6 (by decide) (hts _ wf_S_23) (fun _ z => z) rfl hname rfl (by decide +kernel) rfl rfl (Nat.le_of_ble_eq_true rfl) dS_init_41 ?_
  refine tg_w (tg_uu _ _ _ _ _) ?_
  exact tg_vret hx hb hlocks hr hQ ⟨rfl, q4, q5, q6, q7, by rw [h7, h6, h5, h4], rfl, rfl⟩ dS_init_44
theorem hg_dfF : ∀ j, j < 15 → defaultValue (tyF j) = vp_V ([.int 0, .int 0, .int 0, .int 0, .int 0, .int 0, .null, .int 0, .int 0, .int 0, .int 0, .int 0, .int 0, .int 0, .int 0] : List Value) j := by
  intro j hj
  have h : j = 0 ∨ j = 1 ∨ j = 2 ∨ j = 3 ∨ j = 4 ∨ j = 5 ∨ j = 6 ∨ j = 7 ∨ j = 8 ∨ j = 9 ∨ j = 10 ∨ j = 11 ∨ j = 12 ∨ j = 13 ∨ j = 14 := by omega
  rcases h with z | z | z | z | z | z | z | z | z | z | z | z | z | z | z <;> subst z <;> rfl
theorem hg_dfS : ∀ j, j < 9 → defaultValue (tyS j) = vp_V ([.null, .int 0, .null, .int 0, .null, .int 0, .null, .int 0, .int 0] : List Value) j := by
  intro j hj
  have h : j = 0 ∨ j = 1 ∨ j = 2 ∨ j = 3 ∨ j = 4 ∨ j = 5 ∨ j = 6 ∨ j = 7 ∨ j = 8 := by omega
  rcases h with z | z | z | z | z | z | z | z | z <;> subst z <;> rfl
theorem hg_dfH : ∀ j, j < 4 → defaultValue (tyH j) = vp_V ([.null, .null, .null, .int 0] : List Value) j := by
  intro j hj
  have h : j = 0 ∨ j = 1 ∨ j = 2 ∨ j = 3 := by omega
  rcases h with z | z | z | z <;> subst z <;> rfl
theorem hg_w_mu {k i : Nat} (h : 10 ≤ k) : hg_w ad cF cI G a dr N bc sp μ k i = μ k i := by
  unfold hg_w
  split <;> first | rfl | (exfalso; omega)
set_option maxRecDepth 100000 in
set_option maxHeartbeats 4000000 in
/-- a graph is made -/
theorem c_Hinit (hk : ok 0 0) (hw0 : ∀ k i, 10 ≤ k → w k i = μ k i) : tg_Met l yH_init wsH_init ({ frames := 2, cells := 7, slots := 2029, locals := 90 }) D vwCl (hg_tys cI cF cZ cJ cA cB) F (hg_N F) ad ok (tg_up w 0 0 (.inr (0, [.null, .null, .null, .int 0]))) [.ref (ad 0 0)] (fun r1 ad1 ok1 w1 => r1 = none ∧ (∀ k i, 8 ≤ k ∨ k = 0 → ad1 k i = ad k i) ∧ (∀ k i, ok1 k i ↔ ok k i ∨ (1 ≤ k ∧ k < 8 ∧ i = 0)) ∧ ∀ k i, (k < 8 ∧ i = 0) ∨ 10 ≤ k → w1 k i = hg_w ad1 cF cI (fun _ => 0) (fun _ _ => none) (fun _ => nI 0) N bc sp μ k i) := by
  refine tg_start (cc := cH_init) (maxL := 1) (ret := none) (by decide) rfl (Nat.le_of_ble_eq_true rfl) ?_
  intro p e R s m args below meth c Q hx hb hml hr hlocks hown hname hts hK hN hR hQ
  have hown : s.vm.findClass "HangGraph" = some m.cls := hown
  have hts : ∀ w ∈ lw_g, w.before args s = true := fun w z => hts w (List.mem_cons_of_mem _ z)
  have hMv := hg_Mv F
  refine tg_aload_n hx hb dH_init_0 rfl rfl ?_
  refine tg_oinit hx hb hml hown (hts _ wm_H_3) (hts _ wi_java_lang_Object_init_0) (hts _ wc_oi) dH_init_1 (by rw [hR]; exact Nat.le_of_ble_eq_true rfl) (by rw [hR]; exact Nat.le_of_ble_eq_true rfl) ?_
  refine tg_aload_n hx hb dH_init_4 rfl rfl ?_
  refine tg_sipush (v := nI 400) hx hb dH_init_5 (by decide +kernel) ?_
  refine tg_anew hx hb 1 0 (C := "HangGraph$Formula") (t0 := 1) hown (hts _ wk_H_9) (va_AO.use hN.2.1.1) hK rfl (n := nI 400) (N' := 400) (by decide +kernel) (by decide +kernel) (by decide) (by rw [hR]; exact Nat.le_of_ble_eq_true rfl) (by rw [hR]; exact Nat.le_of_ble_eq_true rfl) dH_init_8 (fun q1 => ?_)
  obtain ⟨ad1, h1⟩ : ∃ z, z = tg_up ad 1 0 q1 := ⟨_, rfl⟩
  rw [← h1]
  have r1 : ad1 0 0 = ad 0 0 := by rw [h1, tg_up_ne _ _ (fun z => absurd z.1 (by decide))]
  refine tg_st (st' := [.ref q1, .ref (ad1 0 0)]) (by rw [r1]) ?_
  refine tg_w (tg_cm _ _ _ (fun z => absurd z.1 (by decide))) ?_
  refine tg_putF (k := 0) (i := 0) (T := TH) (N := 4) (ty := .array (.object "HangGraph$Formula")) hx hb hts inH tyH tyH_ok nmH hown hK (Or.inl hk) (tg_up_self _ _ _ _) rfl 0 (by decide) (hts _ wf_H_11) (fun _ z => z) rfl hname rfl (by decide +kernel) rfl rfl (Nat.le_of_ble_eq_true rfl) dH_init_11 ?_
  refine tg_w (tg_uu _ _ _ _ _) ?_
  refine tg_aload_n hx hb dH_init_14 rfl rfl ?_
  refine tg_bipush (v := nI 20) hx hb dH_init_15 (by decide +kernel) ?_
  refine tg_newa hx hb 2 0 (atype := .int) (hts _ wa_int) rfl (cA := cI) (hK.2 0 _ rfl).2 (n := nI 20) (N' := 20) (a0 := (20, .inl fun _ => nI 0)) (fun cA => by rw [vp_cell_i, nI_0]; rfl) (by decide +kernel) (by decide +kernel) (by decide) (by rw [hR]; exact Nat.le_of_ble_eq_true rfl) (by rw [hR]; exact Nat.le_of_ble_eq_true rfl) dH_init_17 (fun q2 => ?_)
  obtain ⟨ad2, h2⟩ : ∃ z, z = tg_up ad1 2 0 q2 := ⟨_, rfl⟩
  rw [← h2]
  have r2 : ad2 0 0 = ad 0 0 := by rw [h2, tg_up_ne _ _ (fun z => absurd z.1 (by decide)), r1]
  refine tg_st (st' := [.ref q2, .ref (ad2 0 0)]) (by rw [r2]) ?_
  refine tg_w (tg_cm _ _ _ (fun z => absurd z.1 (by decide))) ?_
  refine tg_putF (k := 0) (i := 0) (T := TH) (N := 4) (ty := .array .int) hx hb hts inH tyH tyH_ok nmH hown hK (Or.inl (Or.inl hk)) (tg_up_self _ _ _ _) rfl 1 (by decide) (hts _ wf_H_15) (fun _ z => z) rfl hname rfl (by decide +kernel) rfl rfl (Nat.le_of_ble_eq_true rfl) dH_init_19 ?_
  refine tg_w (tg_uu _ _ _ _ _) ?_
  refine tg_aload_n hx hb dH_init_22 rfl rfl ?_
  refine tg_new (C := "HangGraph$Sweep") (T := TS) (N := 9) (ci := 2) (fs := [.null, .int 0, .null, .int 0, .null, .int 0, .null, .int 0, .int 0]) hx hb 3 0 hts inS tyS tyS_ok hown (hts _ wk_H_19) (hts _ wz_S) (hts _ wn_S) hK rfl hg_dfS (by rw [hR]; exact Nat.le_of_ble_eq_true rfl) (by rw [hR]; exact Nat.le_of_ble_eq_true rfl) dH_init_23 (fun q3 => ?_)
  obtain ⟨ad3, h3⟩ : ∃ z, z = tg_up ad2 3 0 q3 := ⟨_, rfl⟩
  rw [← h3]
  have r3 : ad3 0 0 = ad 0 0 := by rw [h3, tg_up_ne _ _ (fun z => absurd z.1 (by decide)), r2]
  have e3 : q3 = ad3 3 0 := by rw [h3, tg_up_self]
  refine tg_st (st' := [.ref (ad3 3 0), .ref (ad 0 0)]) (by rw [e3]) ?_
  refine tg_dup hx hb dH_init_26 rfl ?_
  refine tg_callI (As := []) (rest := [.ref (ad3 3 0), .ref (ad 0 0)]) ⟨hx, hb, hml, hown, hts⟩ hK hN hMv (c_Sinit (Or.inr ⟨rfl, rfl⟩)) (cwI 0 hts (lg_N wc_S_init) rfl rfl rfl (hts _ wn_S) (hts _ wm_H_21) (hts _ wi_S_init) rfl ⟨by decide, by decide, rfl⟩ ⟨by rw [hR]; exact Nat.le_of_ble_eq_true rfl, by rw [hR]; exact Nat.le_of_ble_eq_true rfl⟩) rfl (Nat.le_of_ble_eq_true rfl) ⟨by rw [hR]; exact Nat.le_of_ble_eq_true rfl, by rw [hR]; exact Nat.le_of_ble_eq_true rfl⟩ rfl dH_init_27 ?_
  intro r1 ad8 ok8 w8 ⟨hr8, q4, q5, q6, q7, ha8, ho8, hw8⟩
  subst hr8
  subst ho8
  subst hw8
  have r8 : ad8 0 0 = ad 0 0 := by rw [ha8, tg_up_ne _ _ (fun z => absurd z.1 (by decide)), tg_up_ne _ _ (fun z => absurd z.1 (by decide)), tg_up_ne _ _ (fun z => absurd z.1 (by decide)), tg_up_ne _ _ (fun z => absurd z.1 (by decide)), r3]
  refine tg_st (st' := [.ref (ad3 3 0), .ref (ad8 0 0)]) (by rw [r8]; rfl) ?_
  refine tg_putF (k := 0) (i := 0) (T := TH) (N := 4) (ty := .object "HangGraph$Sweep") hx hb hts inH tyH tyH_ok nmH hown hK (Or.inl (Or.inl (Or.inl (Or.inl (Or.inl (Or.inl (Or.inl hk))))))) (ci := 0) (fs := [.ref q1, .ref q2, .null, .int 0]) (by simp [tg_up]) rfl 2 (by decide) (hts _ wf_H_22) (fun _ z => z) rfl hname rfl (by decide +kernel) rfl rfl (Nat.le_of_ble_eq_true rfl) dH_init_30 ?_
  refine tg_aload_n hx hb dH_init_33 rfl rfl ?_
  refine tg_iconst (v := nI 0) hx hb dH_init_34 (by decide +kernel) ?_
  refine tg_st (st' := [.int (nI 0), .ref (ad8 0 0)]) (by rw [r8]) ?_
  refine tg_put (k := 0) (i := 0) (T := TH) (N := 4) (ty := .int) hx hb hts inH tyH tyH_ok nmH hown hK (Or.inl (Or.inl (Or.inl (Or.inl (Or.inl (Or.inl (Or.inl hk))))))) (tg_up_self _ _ _ _) rfl 3 (by decide) (hts _ wf_H_26) (fun _ z => z) rfl (by decide +kernel) rfl rfl (Nat.le_of_ble_eq_true rfl) dH_init_35 ?_
  refine tg_w (tg_uu _ _ _ _ _) ?_
  subst h1
  subst h2
  subst h3
  subst ha8
  refine tg_vret hx hb hlocks hr hQ ⟨rfl, fun k i hki => ?_, fun k i => ?_, fun k i hki => ?_⟩ dH_init_38
  · simp only [tg_up]
    repeat rw [if_neg (by omega)]
  · dsimp only
    constructor
    · intro z
      rcases z with ((((((z | z) | z) | z) | z) | z) | z) | z <;> first | exact Or.inl z | exact Or.inr (by omega)
    · intro z
      rcases z with z | z
      · exact Or.inl (Or.inl (Or.inl (Or.inl (Or.inl (Or.inl (Or.inl z))))))
      · have h : k = 1 ∨ k = 2 ∨ k = 3 ∨ k = 4 ∨ k = 5 ∨ k = 6 ∨ k = 7 := by omega
        rcases h with h | h | h | h | h | h | h <;> simp [h, z.2.2]
  · rcases hki with ⟨z, z2⟩ | z
    · subst z2
      have h : k = 0 ∨ k = 1 ∨ k = 2 ∨ k = 3 ∨ k = 4 ∨ k = 5 ∨ k = 6 ∨ k = 7 := by omega
      rcases h with h | h | h | h | h | h | h | h <;> subst h <;> simp [tg_up, hg_w, nI_0]
    · rw [hg_w_mu z, ← hw0 k i z]
      simp only [tg_up]
      repeat rw [if_neg (by omega)]
end HGK
end
section
/-! put's answer -/
/-- a new formula's numbers -/
def hg_nw (N : Nat → Nat → Nat) (f x y b r : Nat) : Nat → Nat → Nat := fun j u => if u = f then (match j with | 0 => 20 * x + y | 1 => x | 2 => y | 3 => b | 4 => r | _ => 0) else N j u
theorem hg_nw_o {N : Nat → Nat → Nat} {f x y b r j u : Nat} (h : u ≠ f) : hg_nw N f x y b r j u = N j u := if_neg h
theorem hg_nw_s {N : Nat → Nat → Nat} {f x y b r j : Nat} : hg_nw N f x y b r j f = (match j with | 0 => 20 * x + y | 1 => x | 2 => y | 3 => b | 4 => r | _ => 0) := if_pos rfl
section HGP
variable {l : Launch} {D : va_G} {F : Nat → Prop} {Nn : State → Heap → Prop} {ad : Nat → Nat → Nat} {ok : Nat → Nat → Prop} {cF cI cZ cJ cA cB : ClassId} {G : Nat → Nat} {a : Nat → Nat → Option Nat} {dr : Nat → Int32} {N : Nat → Nat → Nat} {bc : Nat → Int32} {sp : Nat → Nat → Int32} {μ : Nat → Nat → va_E} {T : Nat → Prop} {w : Nat → Nat → va_E}
variable {p : Program} {e : Env} {R : Room} {s : State} {m : MethodId} {args : Array Value} {below : List Frame} {meth : Method} {c : Code} {Q : State → Prop} {cells slots : Nat} {post : Option Value → (Nat → Nat → Nat) → (Nat → Nat → Prop) → (Nat → Nat → va_E) → Prop}
set_option maxRecDepth 100000 in
set_option maxHeartbeats 4000000 in
/-- put from where the formula is made -/
theorem c_putTail (hO : hg_ok ok) (hT : ∀ f, T f → ok 8 f ∧ ok 9 f) (hMv : tg_Mv F Nn) (f x y h v b0 r0 : Nat) (hf : T f) (hN1 : N 1 f ≤ N 3 f) (hN3 : N 3 f < 20) (hN2 : N 2 f ≤ N 4 f) (hN4 : N 4 f < 20) (hx : p.tables.exec = Jvm.exec) (hb : c.code = cH_put) (hml : c.maxLocals = 8) (hr : meth.sig.returnType = some .int) (hlocks : meth.locks = false) (hown : s.vm.findClass "HangGraph" = some m.cls) (hts : ∀ w ∈ lw_g, w.before args s = true) (hK : va_K D vwCl (hg_tys cI cF cZ cJ cA cB) s) (hN : Nn s s.heap) (hR : R = (headSpec wsH_put ({ frames := 7, cells := 2, slots := 35, locals := 140 })).room) (hcs : cells ≤ R.cells ∧ slots ≤ R.slots) (hQ : Q = MQ below (tg_Q D vwCl F post) args s cells slots F) (hpost : post (some (.int (nI (G 0 + 1)))) ad ok (hg_w ad cF cI (va_up G 0 (G 0 + 1)) (va_up a 0 (hg_cp (a 0) (N 1 f) (N 2 f) (N 4 f) (N 3 f + 1) (N 2 f) (some (ad 8 f)))) dr N bc sp μ)) : tg_W p l e R s m args below meth c Q 8 D vwCl F ad ok (hg_w ad cF cI G a dr N bc sp μ) [(0, .ref (ad 0 0)), (1, .int (nI (x))), (2, .int (nI (y))), (3, .int (nI (h))), (4, .int (nI (v))), (5, .int (nI (b0))), (6, .int (nI (r0)))] cells slots 54 [.ref (ad 8 f)] := by
  refine tg_astore (L' := [(0, .ref (ad 0 0)), (1, .int (nI (x))), (2, .int (nI (y))), (3, .int (nI (h))), (4, .int (nI (v))), (5, .int (nI (b0))), (6, .int (nI (r0))), (7, .ref (ad 8 f))]) hx hb dH_put_54 (by decide) rfl rfl ?_
  refine tg_aload_n hx hb dH_put_56 rfl rfl ?_
  refine tg_aload hx hb dH_put_57 rfl ?_
  refine tg_aload hx hb dH_put_59 rfl ?_
  refine tg_callV (C := "HangGraph") (As := [.ref (ad 8 f), .ref (ad 8 f)]) (rest := []) ⟨hx, hb, hml, hown, hts⟩ hK hN hMv (hO.1 0 (by decide)) rfl rfl rfl (c_cover hO hT hMv f hf hN1 hN3 hN2 hN4) (cwV 2 hts (lg_V wm_H_43 wi_H_cover we_H_cover wn_H wc_H_cover) rfl rfl rfl ⟨rfl, by decide, by decide, rfl⟩ ⟨by rw [hR]; exact Nat.le_of_ble_eq_true rfl, by rw [hR]; exact Nat.le_of_ble_eq_true rfl⟩) rfl (Nat.le_of_ble_eq_true rfl) hcs rfl dH_put_61 (tg_kn rfl rfl ?_)
  refine tg_aload_n hx hb dH_put_64 rfl rfl ?_
  refine tg_dup hx hb dH_put_65 rfl ?_
  refine tg_get (T := TH) (N := 4) hx hb hts inH hown hK (hO.1 0 (by decide)) rfl rfl 3 (by decide) (hts _ wf_H_26) (fun _ z => z) rfl dH_put_66 ?_
  refine tg_iconst (v := nI 1) hx hb dH_put_69 (by decide +kernel) ?_
  refine tg_iadd hx hb dH_put_70 ?_
  refine tg_top (y := nI ((G 0) + (1))) (nI_add _ _) ?_
  refine tg_put (T := TH) (N := 4) (ty := .int) hx hb hts inH tyH tyH_ok nmH hown hK (hO.1 0 (by decide)) rfl rfl 3 (by decide) (hts _ wf_H_26) (fun _ z => z) rfl (by decide +kernel) rfl rfl (Nat.le_of_ble_eq_true rfl) dH_put_71 ?_
  refine tg_wp (hg_w_G0 hO ((G 0) + (1))) ?_
  refine tg_aload_n hx hb dH_put_74 rfl rfl ?_
  refine tg_get (T := TH) (N := 4) hx hb hts inH hown hK (hO.1 0 (by decide)) rfl rfl 3 (by decide) (hts _ wf_H_26) (fun _ z => z) rfl dH_put_75 ?_
  refine tg_top (y := nI ((G 0) + (1))) (by simp [va_up]) ?_
  exact tg_iret hx hb hlocks hr hQ hpost dH_put_78
theorem hg_ok.push (h : hg_ok ok) {f : Nat} : hg_ok (fun a b => (ok a b ∨ (a = 8 ∧ b = f)) ∨ (a = 9 ∧ b = f)) := ⟨fun k hk => Or.inl (Or.inl (h.1 k hk)), fun k i hki hk => by
  rcases hki with (z | z) | z
  · exact h.2 k i z hk
  · omega
  · omega⟩
theorem hg_w_nw {ad9 : Nat → Nat → Nat} {f x y b r k i : Nat} {bx : Int32} {sx : Nat → Int32} (fo : ∀ k i, ¬ (k = 8 ∧ i = f) → ¬ (k = 9 ∧ i = f) → ad9 k i = ad k i) (z1 : ¬ (k = 8 ∧ i = f)) (z2 : ¬ (k = 9 ∧ i = f)) (hki : (k = 8 ∨ k = 9) → i ≠ f) : hg_w ad cF cI G a dr N bc sp μ k i = hg_w ad9 cF cI G a dr (hg_nw N f x y b r) (va_up bc f bx) (va_up sp f sx) μ k i := by
  have h1 : ∀ k, k < 8 → ad9 k 0 = ad k 0 := fun k hk => fo k 0 (by omega) (by omega)
  unfold hg_w
  split
  · rw [h1 1 (by decide), h1 2 (by decide), h1 3 (by decide)]
  · rfl
  · rfl
  · rw [h1 4 (by decide), h1 5 (by decide), h1 6 (by decide), h1 7 (by decide)]
  · rfl
  · rfl
  · rfl
  · rfl
  · have hi := hki (Or.inl rfl)
    rw [fo 9 i (by omega) (by omega), va_up_ne _ _ hi]
    simp only [hg_nw_o hi]
  · have hi := hki (Or.inr rfl)
    rw [va_up_ne _ _ hi]
  · rfl
set_option maxRecDepth 100000 in
set_option maxHeartbeats 4000000 in
/-- a formula is put -/
theorem c_put (hO : hg_ok ok) (hT : ∀ f, T f → ok 8 f ∧ ok 9 f) (x y : Nat) (hx9 : x < 20) (hy9 : y < 20) (h v : Nat) (hh1 : 1 ≤ h) (hh2 : h ≤ 20 - x) (hv1 : 1 ≤ v) (hv2 : v ≤ 20 - y) (hfree : ∀ i j, x ≤ i → i ≤ (x + h - 1) → y ≤ j → j ≤ (y + v - 1) → a 0 (20 * i + j) = none) (f : Nat) (hO9 : ∀ k i, ok k i → (k = 8 ∨ k = 9) → i ≠ f) : tg_Met l yH_put wsH_put ({ frames := 7, cells := 2, slots := 35, locals := 140 }) D vwCl (hg_tys cI cF cZ cJ cA cB) F (hg_N F) ad ok (hg_w ad cF cI G a dr N bc sp μ) [.ref (ad 0 0), .int (nI (x)), .int (nI (y)), .int (nI (h)), .int (nI (v))] (fun r1 ad1 ok1 w1 => r1 = some (.int (nI (G 0 + 1))) ∧ ∃ ad9, ad1 = ad9 ∧ ok1 = (fun a b => (ok a b ∨ (a = 8 ∧ b = f)) ∨ (a = 9 ∧ b = f)) ∧ (∀ k i, ¬ (k = 8 ∧ i = f) → ¬ (k = 9 ∧ i = f) → ad9 k i = ad k i) ∧ w1 = hg_w ad1 cF cI (va_up G 0 (G 0 + 1)) (va_up a 0 (hg_cp (a 0) x y (y + v - 1) ((x + h - 1) + 1) y (some (ad1 8 f)))) dr (hg_nw N f x y (x + h - 1) (y + v - 1)) (va_up bc f (hg_cb y (y + v - 1))) (va_up sp f (fun _ => nI 0)) μ) := by
  refine tg_start (cc := cH_put) (maxL := 8) (ret := some .int) (by decide) rfl (Nat.le_of_ble_eq_true rfl) ?_
  intro p e R s m args below meth c Q hx hb hml hr hlocks hown hname hts hK hN hR hQ
  have hown : s.vm.findClass "HangGraph" = some m.cls := hown
  have hts : ∀ w ∈ lw_g, w.before args s = true := fun w z => hts w (List.mem_cons_of_mem _ z)
  have hMv := hg_Mv F
  refine tg_iload_n hx hb dH_put_0 rfl rfl ?_
  refine tg_iload_n hx hb dH_put_1 rfl rfl ?_
  refine tg_callS (As := [.int (nI (x)), .int (nI (y))]) (rest := []) ⟨hx, hb, hml, hown, hts⟩ hK hN hMv (c_requireCell x y hx9 hy9) (va_cwS 2 hts (lg_S wm_H_30 wt_H_requireCell wn_H wc_H_requireCell) rfl rfl rfl ⟨by decide, by decide, rfl⟩ ⟨by rw [hR]; exact Nat.le_of_ble_eq_true rfl, by rw [hR]; exact Nat.le_of_ble_eq_true rfl⟩) rfl (Nat.le_of_ble_eq_true rfl) ⟨by rw [hR]; exact Nat.le_of_ble_eq_true rfl, by rw [hR]; exact Nat.le_of_ble_eq_true rfl⟩ rfl dH_put_2 (tg_kn rfl rfl ?_)
  refine tg_iload_n hx hb dH_put_5 rfl rfl ?_
  refine tg_iload_n hx hb dH_put_6 rfl rfl ?_
  refine tg_callS (As := [.int (nI (x)), .int (nI (h))]) (rest := []) ⟨hx, hb, hml, hown, hts⟩ hK hN hMv (c_requireFits x h hx9 hh1 hh2) (va_cwS 2 hts (lg_S wm_H_34 wt_H_requireFits wn_H wc_H_requireFits) rfl rfl rfl ⟨by decide, by decide, rfl⟩ ⟨by rw [hR]; exact Nat.le_of_ble_eq_true rfl, by rw [hR]; exact Nat.le_of_ble_eq_true rfl⟩) rfl (Nat.le_of_ble_eq_true rfl) ⟨by rw [hR]; exact Nat.le_of_ble_eq_true rfl, by rw [hR]; exact Nat.le_of_ble_eq_true rfl⟩ rfl dH_put_7 (tg_kn rfl rfl ?_)
  refine tg_iload_n hx hb dH_put_10 rfl rfl ?_
  refine tg_iload hx hb dH_put_11 rfl ?_
  refine tg_callS (As := [.int (nI (y)), .int (nI (v))]) (rest := []) ⟨hx, hb, hml, hown, hts⟩ hK hN hMv (c_requireFits y v hy9 hv1 hv2) (va_cwS 2 hts (lg_S wm_H_34 wt_H_requireFits wn_H wc_H_requireFits) rfl rfl rfl ⟨by decide, by decide, rfl⟩ ⟨by rw [hR]; exact Nat.le_of_ble_eq_true rfl, by rw [hR]; exact Nat.le_of_ble_eq_true rfl⟩) rfl (Nat.le_of_ble_eq_true rfl) ⟨by rw [hR]; exact Nat.le_of_ble_eq_true rfl, by rw [hR]; exact Nat.le_of_ble_eq_true rfl⟩ rfl dH_put_13 (tg_kn rfl rfl ?_)
  refine tg_iload_n hx hb dH_put_16 rfl rfl ?_
  refine tg_iload_n hx hb dH_put_17 rfl rfl ?_
  refine tg_iadd hx hb dH_put_18 ?_
  refine tg_top (y := nI ((x) + (h))) (nI_add _ _) ?_
  refine tg_iconst (v := nI 1) hx hb dH_put_19 (by decide +kernel) ?_
  refine tg_isub hx hb dH_put_20 ?_
  refine tg_top (y := nI (((x) + (h)) - (1))) (pk_sub (by omega)) ?_
  refine tg_istore (L' := [(0, .ref (ad 0 0)), (1, .int (nI (x))), (2, .int (nI (y))), (3, .int (nI (h))), (4, .int (nI (v))), (5, .int (nI (((x) + (h)) - (1))))]) hx hb dH_put_21 (by decide) rfl rfl ?_
  refine tg_iload_n hx hb dH_put_23 rfl rfl ?_
  refine tg_iload hx hb dH_put_24 rfl ?_
  refine tg_iadd hx hb dH_put_26 ?_
  refine tg_top (y := nI ((y) + (v))) (nI_add _ _) ?_
  refine tg_iconst (v := nI 1) hx hb dH_put_27 (by decide +kernel) ?_
  refine tg_isub hx hb dH_put_28 ?_
  refine tg_top (y := nI (((y) + (v)) - (1))) (pk_sub (by omega)) ?_
  refine tg_istore (L' := [(0, .ref (ad 0 0)), (1, .int (nI (x))), (2, .int (nI (y))), (3, .int (nI (h))), (4, .int (nI (v))), (5, .int (nI (((x) + (h)) - (1)))), (6, .int (nI (((y) + (v)) - (1))))]) hx hb dH_put_29 (by decide) rfl rfl ?_
  refine tg_aload_n hx hb dH_put_31 rfl rfl ?_
  refine tg_iload_n hx hb dH_put_32 rfl rfl ?_
  refine tg_iload_n hx hb dH_put_33 rfl rfl ?_
  refine tg_iload hx hb dH_put_34 rfl ?_
  refine tg_iload hx hb dH_put_36 rfl ?_
  refine tg_callV (C := "HangGraph") (As := [.int (nI (x)), .int (nI (y)), .int (nI (((x) + (h)) - (1))), .int (nI (((y) + (v)) - (1)))]) (rest := []) ⟨hx, hb, hml, hown, hts⟩ hK hN hMv (hO.1 0 (by decide)) rfl rfl rfl (c_requireFree hO hMv x y (x + h - 1) (y + v - 1) (by omega) (by omega) (by omega) (by omega) hfree) (cwV 4 hts (lg_V wm_H_37 wi_H_requireFree we_H_requireFree wn_H wc_H_requireFree) rfl rfl rfl ⟨rfl, by decide, by decide, rfl⟩ ⟨by rw [hR]; exact Nat.le_of_ble_eq_true rfl, by rw [hR]; exact Nat.le_of_ble_eq_true rfl⟩) rfl (Nat.le_of_ble_eq_true rfl) ⟨by rw [hR]; exact Nat.le_of_ble_eq_true rfl, by rw [hR]; exact Nat.le_of_ble_eq_true rfl⟩ rfl dH_put_38 (tg_kn rfl rfl ?_)
  refine tg_new (C := "HangGraph$Formula") (T := TF) (N := 15) (ci := 1) (fs := [.int 0, .int 0, .int 0, .int 0, .int 0, .int 0, .null, .int 0, .int 0, .int 0, .int 0, .int 0, .int 0, .int 0, .int 0]) hx hb 8 f hts inF tyF tyF_ok hown (hts _ wk_H_9) (hts _ wz_F) (hts _ wn_F) hK rfl hg_dfF (by rw [hR]; exact Nat.le_of_ble_eq_true rfl) (by rw [hR]; exact Nat.le_of_ble_eq_true rfl) dH_put_41 (fun q8 => ?_)
  obtain ⟨ad8, h8⟩ : ∃ z, z = tg_up ad 8 f q8 := ⟨_, rfl⟩
  rw [← h8]
  have e8 : q8 = ad8 8 f := by rw [h8, tg_up_self]
  refine tg_st (st' := [.ref (ad8 8 f)]) (by rw [e8]) ?_
  refine tg_dup hx hb dH_put_44 rfl ?_
  refine tg_iload_n hx hb dH_put_45 rfl rfl ?_
  refine tg_iload_n hx hb dH_put_46 rfl rfl ?_
  refine tg_iload hx hb dH_put_47 rfl ?_
  refine tg_iload hx hb dH_put_49 rfl ?_
  refine tg_callI (As := [.int (nI (x)), .int (nI (y)), .int (nI (((x) + (h)) - (1))), .int (nI (((y) + (v)) - (1)))]) (rest := [.ref (ad8 8 f)]) ⟨hx, hb, hml, hown, hts⟩ hK hN hMv (c_Finit f (Or.inr ⟨rfl, rfl⟩) x y (x + h - 1) (y + v - 1) (by omega) (by omega)) (cwI 4 hts (lg_N wc_F_init) rfl rfl rfl (hts _ wn_F) (hts _ wm_H_41) (hts _ wi_F_init) rfl ⟨by decide, by decide, rfl⟩ ⟨by rw [hR]; exact Nat.le_of_ble_eq_true rfl, by rw [hR]; exact Nat.le_of_ble_eq_true rfl⟩) rfl (Nat.le_of_ble_eq_true rfl) ⟨by rw [hR]; exact Nat.le_of_ble_eq_true rfl, by rw [hR]; exact Nat.le_of_ble_eq_true rfl⟩ rfl dH_put_51 ?_
  intro r1 ad9 ok9 w9 ⟨hr9, q9, ha9, ho9, hw9⟩
  subst hr9
  subst ho9
  subst hw9
  have f8 : ad9 8 f = ad8 8 f := by rw [ha9, tg_up_ne _ _ (fun z => absurd z.1 (by decide))]
  have f9 : ad9 9 f = q9 := by rw [ha9, tg_up_self]
  have fo : ∀ k i, ¬ (k = 8 ∧ i = f) → ¬ (k = 9 ∧ i = f) → ad9 k i = ad k i := fun k i z1 z2 => by rw [ha9, tg_up_ne _ _ z2, h8, tg_up_ne _ _ z1]
  have f0 : ad 0 0 = ad9 0 0 := (fo 0 0 (fun z => absurd z.1 (by decide)) (fun z => absurd z.1 (by decide))).symm
  refine tg_st (st' := [.ref (ad9 8 f)]) (by rw [f8]; rfl) ?_
  refine tg_to (ad' := ad9) (ok' := fun a b => (ok a b ∨ (a = 8 ∧ b = f)) ∨ (a = 9 ∧ b = f)) (w' := hg_w ad9 cF cI G a dr (hg_nw N f x y (x + h - 1) (y + v - 1)) (va_up bc f (hg_cb y (y + v - 1))) (va_up sp f (fun _ => nI 0)) μ) (fun _ _ z => z) (fun _ _ _ => rfl) (fun k i hki => ?_) ?_
  · by_cases z1 : k = 8 ∧ i = f
    · obtain ⟨rfl, rfl⟩ := z1
      simp [tg_up, hg_w, hg_nw, nI_0, f9, va_up]
    · by_cases z2 : k = 9 ∧ i = f
      · obtain ⟨rfl, rfl⟩ := z2
        simp [tg_up, hg_w, va_up]
      · rw [tg_up_ne _ _ z1, tg_up_ne _ _ z2]
        exact hg_w_nw fo z1 z2 (hO9 k i (hki.elim (fun q => q.elim id (fun q => absurd q z1)) (fun q => absurd q z2)))
  rw [f0]
  have g1 : (hg_nw N f x y (x + h - 1) (y + v - 1)) 1 f = x := hg_nw_s
  have g2 : (hg_nw N f x y (x + h - 1) (y + v - 1)) 2 f = y := hg_nw_s
  have g3 : (hg_nw N f x y (x + h - 1) (y + v - 1)) 3 f = (x + h - 1) := hg_nw_s
  have g4 : (hg_nw N f x y (x + h - 1) (y + v - 1)) 4 f = (y + v - 1) := hg_nw_s
  refine c_putTail (T := fun u => T u ∨ u = f) (hO.push) (fun u hu => ?_) hMv f x y h v (x + h - 1) (y + v - 1) (Or.inr rfl) (by rw [g1, g3]; omega) (by rw [g3]; omega) (by rw [g2, g4]; omega) (by rw [g4]; omega) hx hb hml hr hlocks hown hts hK hN hR ⟨(by rw [hR]; exact Nat.le_of_ble_eq_true rfl), (by rw [hR]; exact Nat.le_of_ble_eq_true rfl)⟩ hQ ?_
  · rcases hu with z | z
    · exact ⟨Or.inl (Or.inl (hT u z).1), Or.inl (Or.inl (hT u z).2)⟩
    · exact ⟨Or.inl (Or.inr ⟨rfl, z⟩), Or.inr ⟨rfl, z⟩⟩
  · rw [g1, g2, g3, g4]
    exact ⟨rfl, ad9, rfl, rfl, fo, rfl⟩
end HGP
end
