/-! names, laid by program: the good words of the tables, a method's words, fields, codes, decode rows -/
def lw_g : List Cond := lw_tbl.filter goodWord
theorem lg_mem {w : Cond} {i : Nat} (h : lw_tbl[i]? = some w) (hg : goodWord w = true) : w ∈ lw_g := List.mem_filter.mpr ⟨List.mem_of_getElem? h, hg⟩
theorem lg_ok {w : Cond} (h : w ∈ lw_g) : w ∈ lw_g ∧ ((w.onTables && w.keeps) = true ∨ ∃ ty, w = .arrayClass ty) := ⟨h, good_of_word (List.mem_filter.mp h).2⟩
theorem lg_tbl {w : Cond} (h : w ∈ lw_g) : w ∈ lw_tbl := (List.mem_filter.mp h).1
theorem lg_N {y : MethodName} {b : ByteArray} {n : Nat} {r : Option FieldType} (h5 : Cond.code y b n r ∈ lw_g) : GoodIn lw_g (.code y b n r :: lw_g) := by
  intro w hw
  rcases List.mem_cons.mp hw with e | h
  · rw [e]; exact lg_ok h5
  · exact lg_ok h
theorem lg_V {own C : String} {idx : Nat} {y : MethodName} {b : ByteArray} {n : Nat} {r : Option FieldType} (h1 : Cond.methodLink own idx y ∈ lw_g) (h2 : Cond.instanceMethod y ∈ lw_g) (h3 : Cond.selects C y y ∈ lw_g) (h4 : Cond.initialized C ∈ lw_g) (h5 : Cond.code y b n r ∈ lw_g) : GoodIn lw_g (wsV own idx C y (.code y b n r :: lw_g)) := by
  intro w hw
  unfold wsV at hw
  rcases List.mem_append.mp hw with h | h
  · simp only [List.mem_cons, List.not_mem_nil, or_false] at h
    rcases h with e | e | e | e
    · rw [e]; exact lg_ok h1
    · rw [e]; exact lg_ok h2
    · rw [e]; exact lg_ok h3
    · rw [e]; exact lg_ok h4
  · exact lg_N h5 w h
theorem lg_S {own : String} {idx : Nat} {y : MethodName} {b : ByteArray} {n : Nat} {r : Option FieldType} (h1 : Cond.methodLink own idx y ∈ lw_g) (h2 : Cond.static y ∈ lw_g) (h4 : Cond.initialized y.cls ∈ lw_g) (h5 : Cond.code y b n r ∈ lw_g) : GoodIn lw_g (va_wsS own idx y (.code y b n r :: lw_g)) := by
  intro w hw
  unfold va_wsS at hw
  rcases List.mem_append.mp hw with h | h
  · simp only [List.mem_cons, List.not_mem_nil, or_false] at h
    rcases h with e | e | e
    · rw [e]; exact lg_ok h1
    · rw [e]; exact lg_ok h2
    · rw [e]; exact lg_ok h4
  · exact lg_N h5 w h
abbrev yH_init : MethodName := ⟨"HangGraph", "<init>", "()V"⟩
abbrev cH_init : ByteArray := prog_1_method_1_code
def wsH_init : List Cond := .code yH_init cH_init 1 none :: lw_g
abbrev yS_init : MethodName := ⟨"HangGraph$Sweep", "<init>", "()V"⟩
abbrev cS_init : ByteArray := prog_3_method_1_code
def wsS_init : List Cond := .code yS_init cS_init 1 none :: lw_g
abbrev yH_spread : MethodName := ⟨"HangGraph", "spread", "()I"⟩
abbrev cH_spread : ByteArray := prog_1_method_6_code
def wsH_spread : List Cond := .code yH_spread cH_spread 1 (some .int) :: lw_g
abbrev yS_begin : MethodName := ⟨"HangGraph$Sweep", "begin", "([LHangGraph$Formula;)V"⟩
abbrev cS_begin : ByteArray := prog_3_method_2_code
def wsS_begin : List Cond := .code yS_begin cS_begin 4 none :: lw_g
abbrev yF_forget : MethodName := ⟨"HangGraph$Formula", "forget", "()V"⟩
abbrev cF_forget : ByteArray := prog_2_method_6_code
def wsF_forget : List Cond := .code yF_forget cF_forget 1 none :: lw_g
abbrev yS_findHit : MethodName := ⟨"HangGraph$Sweep", "findHit", "([I)V"⟩
abbrev cS_findHit : ByteArray := prog_3_method_3_code
def wsS_findHit : List Cond := .code yS_findHit cS_findHit 4 none :: lw_g
abbrev yF_holdsOneOf : MethodName := ⟨"HangGraph$Formula", "holdsOneOf", "([I)Z"⟩
abbrev cF_holdsOneOf : ByteArray := prog_2_method_5_code
def wsF_holdsOneOf : List Cond := .code yF_holdsOneOf cF_holdsOneOf 3 (some .boolean) :: lw_g
abbrev yF_hangsOnOneOf : MethodName := ⟨"HangGraph$Formula", "hangsOnOneOf", "([I)Z"⟩
abbrev cF_hangsOnOneOf : ByteArray := prog_2_method_4_code
def wsF_hangsOnOneOf : List Cond := .code yF_hangsOnOneOf cF_hangsOnOneOf 3 (some .boolean) :: lw_g
abbrev yS_addHit : MethodName := ⟨"HangGraph$Sweep", "addHit", "(LHangGraph$Formula;)V"⟩
abbrev cS_addHit : ByteArray := prog_3_method_5_code
def wsS_addHit : List Cond := .code yS_addHit cS_addHit 2 none :: lw_g
abbrev yS_hitAllThatHangOn : MethodName := ⟨"HangGraph$Sweep", "hitAllThatHangOn", "(LHangGraph$Formula;)V"⟩
abbrev cS_hitAllThatHangOn : ByteArray := prog_3_method_4_code
def wsS_hitAllThatHangOn : List Cond := .code yS_hitAllThatHangOn cS_hitAllThatHangOn 4 none :: lw_g
abbrev yF_hangsOn : MethodName := ⟨"HangGraph$Formula", "hangsOn", "(LHangGraph$Formula;)Z"⟩
abbrev cF_hangsOn : ByteArray := prog_2_method_3_code
def wsF_hangsOn : List Cond := .code yF_hangsOn cF_hangsOn 3 (some .boolean) :: lw_g
abbrev yS_rankHit : MethodName := ⟨"HangGraph$Sweep", "rankHit", "()V"⟩
abbrev cS_rankHit : ByteArray := prog_3_method_6_code
def wsS_rankHit : List Cond := .code yS_rankHit cS_rankHit 2 none :: lw_g
abbrev yS_walkFrom : MethodName := ⟨"HangGraph$Sweep", "walkFrom", "(LHangGraph$Formula;)V"⟩
abbrev cS_walkFrom : ByteArray := prog_3_method_7_code
def wsS_walkFrom : List Cond := .code yS_walkFrom cS_walkFrom 5 none :: lw_g
abbrev yS_enter : MethodName := ⟨"HangGraph$Sweep", "enter", "(LHangGraph$Formula;)V"⟩
abbrev cS_enter : ByteArray := prog_3_method_8_code
def wsS_enter : List Cond := .code yS_enter cS_enter 2 none :: lw_g
abbrev yS_nextBelow : MethodName := ⟨"HangGraph$Sweep", "nextBelow", "(LHangGraph$Formula;)LHangGraph$Formula;"⟩
abbrev cS_nextBelow : ByteArray := prog_3_method_9_code
def wsS_nextBelow : List Cond := .code yS_nextBelow cS_nextBelow 4 (some (.object "HangGraph$Formula")) :: lw_g
abbrev yS_leave : MethodName := ⟨"HangGraph$Sweep", "leave", "(LHangGraph$Formula;)V"⟩
abbrev cS_leave : ByteArray := prog_3_method_10_code
def wsS_leave : List Cond := .code yS_leave cS_leave 3 none :: lw_g
abbrev yS_closeGroup : MethodName := ⟨"HangGraph$Sweep", "closeGroup", "(LHangGraph$Formula;)V"⟩
abbrev cS_closeGroup : ByteArray := prog_3_method_11_code
def wsS_closeGroup : List Cond := .code yS_closeGroup cS_closeGroup 3 none :: lw_g
abbrev yS_greatestRankBelow : MethodName := ⟨"HangGraph$Sweep", "greatestRankBelow", "(LHangGraph$Formula;)I"⟩
abbrev cS_greatestRankBelow : ByteArray := prog_3_method_12_code
def wsS_greatestRankBelow : List Cond := .code yS_greatestRankBelow cS_greatestRankBelow 4 (some .int) :: lw_g
abbrev yA_fill : MethodName := ⟨"java/util/Arrays", "fill", "([II)V"⟩
abbrev cA_fill : ByteArray := prog_14_method_103_code
def wsA_fill : List Cond := .code yA_fill cA_fill 4 none :: lw_g
abbrev yL_put : MethodName := ⟨"HangGraphLaw", "put", "(LHangGraph;IIII[J)I"⟩
abbrev cL_put : ByteArray := method_3_code
abbrev yH_put : MethodName := ⟨"HangGraph", "put", "(IIII)I"⟩
abbrev cH_put : ByteArray := prog_1_method_2_code
def wsH_put : List Cond := .code yH_put cH_put 8 (some .int) :: lw_g
abbrev yH_requireCell : MethodName := ⟨"HangGraph", "requireCell", "(II)V"⟩
abbrev cH_requireCell : ByteArray := prog_1_method_11_code
def wsH_requireCell : List Cond := .code yH_requireCell cH_requireCell 2 none :: lw_g
abbrev yH_requireFits : MethodName := ⟨"HangGraph", "requireFits", "(II)V"⟩
abbrev cH_requireFits : ByteArray := prog_1_method_12_code
def wsH_requireFits : List Cond := .code yH_requireFits cH_requireFits 2 none :: lw_g
abbrev yH_requireFree : MethodName := ⟨"HangGraph", "requireFree", "(IIII)V"⟩
abbrev cH_requireFree : ByteArray := prog_1_method_14_code
def wsH_requireFree : List Cond := .code yH_requireFree cH_requireFree 7 none :: lw_g
abbrev yH_cellAt : MethodName := ⟨"HangGraph", "cellAt", "(II)I"⟩
abbrev cH_cellAt : ByteArray := prog_1_method_9_code
def wsH_cellAt : List Cond := .code yH_cellAt cH_cellAt 2 (some .int) :: lw_g
abbrev yF_init : MethodName := ⟨"HangGraph$Formula", "<init>", "(IIII)V"⟩
abbrev cF_init : ByteArray := prog_2_method_1_code
def wsF_init : List Cond := .code yF_init cF_init 5 none :: lw_g
abbrev yH_columnBits : MethodName := ⟨"HangGraph", "columnBits", "(II)I"⟩
abbrev cH_columnBits : ByteArray := prog_1_method_10_code
def wsH_columnBits : List Cond := .code yH_columnBits cH_columnBits 2 (some .int) :: lw_g
abbrev yH_cover : MethodName := ⟨"HangGraph", "cover", "(LHangGraph$Formula;LHangGraph$Formula;)V"⟩
abbrev cH_cover : ByteArray := prog_1_method_16_code
def wsH_cover : List Cond := .code yH_cover cH_cover 5 none :: lw_g
abbrev yL_out : MethodName := ⟨"HangGraphLaw", "out", "(LHangGraph;II[J)I"⟩
abbrev cL_out : ByteArray := method_4_code
abbrev yH_out : MethodName := ⟨"HangGraph", "out", "(II)I"⟩
abbrev cH_out : ByteArray := prog_1_method_3_code
def wsH_out : List Cond := .code yH_out cH_out 4 (some .int) :: lw_g
abbrev yH_formulaNamed : MethodName := ⟨"HangGraph", "formulaNamed", "(II)LHangGraph$Formula;"⟩
abbrev cH_formulaNamed : ByteArray := prog_1_method_15_code
def wsH_formulaNamed : List Cond := .code yH_formulaNamed cH_formulaNamed 5 (some (.object "HangGraph$Formula")) :: lw_g
abbrev yL_speak : MethodName := ⟨"HangGraphLaw", "speak", "(LHangGraph;IIIIII[J)I"⟩
abbrev cL_speak : ByteArray := method_5_code
abbrev yH_speak : MethodName := ⟨"HangGraph", "speak", "(IIIIII)I"⟩
abbrev cH_speak : ByteArray := prog_1_method_4_code
def wsH_speak : List Cond := .code yH_speak cH_speak 8 (some .int) :: lw_g
abbrev yH_requireSpan : MethodName := ⟨"HangGraph", "requireSpan", "(II)V"⟩
abbrev cH_requireSpan : ByteArray := prog_1_method_13_code
def wsH_requireSpan : List Cond := .code yH_requireSpan cH_requireSpan 2 none :: lw_g
abbrev yF_addRectangle : MethodName := ⟨"HangGraph$Formula", "addRectangle", "(IIII)V"⟩
abbrev cF_addRectangle : ByteArray := prog_2_method_2_code
def wsF_addRectangle : List Cond := .code yF_addRectangle cF_addRectangle 7 none :: lw_g
abbrev yL_touch : MethodName := ⟨"HangGraphLaw", "touch", "(LHangGraph;II)I"⟩
abbrev cL_touch : ByteArray := method_6_code
abbrev yH_touch : MethodName := ⟨"HangGraph", "touch", "(II)V"⟩
abbrev cH_touch : ByteArray := prog_1_method_5_code
def wsH_touch : List Cond := .code yH_touch cH_touch 3 none :: lw_g
abbrev yL_told : MethodName := ⟨"HangGraphLaw", "told", "(LHangGraph;III[J)I"⟩
abbrev cL_told : ByteArray := method_7_code
abbrev yH_told : MethodName := ⟨"HangGraph", "told", "(III)I"⟩
abbrev cH_told : ByteArray := prog_1_method_7_code
def wsH_told : List Cond := .code yH_told cH_told 5 (some .int) :: lw_g
abbrev yL_owner : MethodName := ⟨"HangGraphLaw", "owner", "(LHangGraph;II[J)I"⟩
abbrev cL_owner : ByteArray := method_8_code
abbrev yH_owner : MethodName := ⟨"HangGraph", "owner", "(II)I"⟩
abbrev cH_owner : ByteArray := prog_1_method_8_code
def wsH_owner : List Cond := .code yH_owner cH_owner 4 (some .int) :: lw_g
abbrev yM_init : MethodName := ⟨"HangGraphModel", "<init>", "()V"⟩
abbrev cM_init : ByteArray := prog_5_method_1_code
def wsM_init : List Cond := .code yM_init cM_init 1 none :: lw_g
abbrev yM_thrown : MethodName := ⟨"HangGraphModel", "thrown", "()I"⟩
abbrev cM_thrown : ByteArray := prog_5_method_2_code
def wsM_thrown : List Cond := .code yM_thrown cM_thrown 1 (some .int) :: lw_g
abbrev yM_put : MethodName := ⟨"HangGraphModel", "put", "(IIII)I"⟩
abbrev cM_put : ByteArray := prog_5_method_8_code
def wsM_put : List Cond := .code yM_put cM_put 7 (some .int) :: lw_g
abbrev yM_out4 : MethodName := ⟨"HangGraphModel", "out", "(IIII)Z"⟩
abbrev cM_out4 : ByteArray := prog_5_method_4_code
def wsM_out4 : List Cond := .code yM_out4 cM_out4 5 (some .boolean) :: lw_g
abbrev yM_fail : MethodName := ⟨"HangGraphModel", "fail", "(I)I"⟩
abbrev cM_fail : ByteArray := prog_5_method_3_code
def wsM_fail : List Cond := .code yM_fail cM_fail 2 (some .int) :: lw_g
abbrev yM_owner1 : MethodName := ⟨"HangGraphModel", "owner", "(I)I"⟩
abbrev cM_owner1 : ByteArray := prog_5_method_5_code
def wsM_owner1 : List Cond := .code yM_owner1 cM_owner1 5 (some .int) :: lw_g
abbrev yM_forget : MethodName := ⟨"HangGraphModel", "forget", "(I)V"⟩
abbrev cM_forget : ByteArray := prog_5_method_7_code
def wsM_forget : List Cond := .code yM_forget cM_forget 2 none :: lw_g
abbrev yM_count : MethodName := ⟨"HangGraphModel", "count", "()I"⟩
abbrev cM_count : ByteArray := prog_5_method_6_code
def wsM_count : List Cond := .code yM_count cM_count 3 (some .int) :: lw_g
abbrev yM_out2 : MethodName := ⟨"HangGraphModel", "out", "(II)I"⟩
abbrev cM_out2 : ByteArray := prog_5_method_9_code
def wsM_out2 : List Cond := .code yM_out2 cM_out2 3 (some .int) :: lw_g
abbrev yM_speak : MethodName := ⟨"HangGraphModel", "speak", "(IIIIII)I"⟩
abbrev cM_speak : ByteArray := prog_5_method_10_code
def wsM_speak : List Cond := .code yM_speak cM_speak 8 (some .int) :: lw_g
abbrev yM_touch : MethodName := ⟨"HangGraphModel", "touch", "(II)V"⟩
abbrev cM_touch : ByteArray := prog_5_method_11_code
def wsM_touch : List Cond := .code yM_touch cM_touch 3 none :: lw_g
abbrev yM_spread : MethodName := ⟨"HangGraphModel", "spread", "()I"⟩
abbrev cM_spread : ByteArray := prog_5_method_15_code
def wsM_spread : List Cond := .code yM_spread cM_spread 6 (some .int) :: lw_g
abbrev yM_survey : MethodName := ⟨"HangGraphModel", "survey", "()V"⟩
abbrev cM_survey : ByteArray := prog_5_method_13_code
def wsM_survey : List Cond := .code yM_survey cM_survey 4 none :: lw_g
abbrev yM_speaks : MethodName := ⟨"HangGraphModel", "speaks", "(II)Z"⟩
abbrev cM_speaks : ByteArray := prog_5_method_12_code
def wsM_speaks : List Cond := .code yM_speaks cM_speaks 5 (some .boolean) :: lw_g
abbrev yM_comesBack : MethodName := ⟨"HangGraphModel", "comesBack", "(I)Z"⟩
abbrev cM_comesBack : ByteArray := prog_5_method_14_code
def wsM_comesBack : List Cond := .code yM_comesBack cM_comesBack 5 (some .boolean) :: lw_g
abbrev yM_told : MethodName := ⟨"HangGraphModel", "told", "(III)I"⟩
abbrev cM_told : ByteArray := prog_5_method_16_code
def wsM_told : List Cond := .code yM_told cM_told 5 (some .int) :: lw_g
abbrev yM_owner2 : MethodName := ⟨"HangGraphModel", "owner", "(II)I"⟩
abbrev cM_owner2 : ByteArray := prog_5_method_17_code
def wsM_owner2 : List Cond := .code yM_owner2 cM_owner2 3 (some .int) :: lw_g
theorem we_S_addHit : (.selects "HangGraph$Sweep" yS_addHit yS_addHit : Cond) ∈ lw_g := lg_mem (i := 0) (by decide +kernel) (by decide +kernel)
theorem we_S_hitAllThatHangOn : (.selects "HangGraph$Sweep" yS_hitAllThatHangOn yS_hitAllThatHangOn : Cond) ∈ lw_g := lg_mem (i := 1) (by decide +kernel) (by decide +kernel)
theorem we_S_walkFrom : (.selects "HangGraph$Sweep" yS_walkFrom yS_walkFrom : Cond) ∈ lw_g := lg_mem (i := 2) (by decide +kernel) (by decide +kernel)
theorem we_S_enter : (.selects "HangGraph$Sweep" yS_enter yS_enter : Cond) ∈ lw_g := lg_mem (i := 3) (by decide +kernel) (by decide +kernel)
theorem we_S_nextBelow : (.selects "HangGraph$Sweep" yS_nextBelow yS_nextBelow : Cond) ∈ lw_g := lg_mem (i := 4) (by decide +kernel) (by decide +kernel)
theorem we_S_leave : (.selects "HangGraph$Sweep" yS_leave yS_leave : Cond) ∈ lw_g := lg_mem (i := 5) (by decide +kernel) (by decide +kernel)
theorem we_S_closeGroup : (.selects "HangGraph$Sweep" yS_closeGroup yS_closeGroup : Cond) ∈ lw_g := lg_mem (i := 6) (by decide +kernel) (by decide +kernel)
theorem we_S_greatestRankBelow : (.selects "HangGraph$Sweep" yS_greatestRankBelow yS_greatestRankBelow : Cond) ∈ lw_g := lg_mem (i := 7) (by decide +kernel) (by decide +kernel)
theorem we_java_lang_Throwable_fillInStackTrace : (.selects "java/lang/Throwable" ⟨"java/lang/Throwable", "fillInStackTrace", "(I)Ljava/lang/Throwable;"⟩ ⟨"java/lang/Throwable", "fillInStackTrace", "(I)Ljava/lang/Throwable;"⟩ : Cond) ∈ lw_g := lg_mem (i := 8) (by decide +kernel) (by decide +kernel)
theorem we_H_requireFree : (.selects "HangGraph" yH_requireFree yH_requireFree : Cond) ∈ lw_g := lg_mem (i := 9) (by decide +kernel) (by decide +kernel)
theorem we_H_cover : (.selects "HangGraph" yH_cover yH_cover : Cond) ∈ lw_g := lg_mem (i := 10) (by decide +kernel) (by decide +kernel)
theorem we_H_formulaNamed : (.selects "HangGraph" yH_formulaNamed yH_formulaNamed : Cond) ∈ lw_g := lg_mem (i := 11) (by decide +kernel) (by decide +kernel)
theorem we_M_out4 : (.selects "HangGraphModel" yM_out4 yM_out4 : Cond) ∈ lw_g := lg_mem (i := 12) (by decide +kernel) (by decide +kernel)
theorem we_M_fail : (.selects "HangGraphModel" yM_fail yM_fail : Cond) ∈ lw_g := lg_mem (i := 13) (by decide +kernel) (by decide +kernel)
theorem we_M_owner1 : (.selects "HangGraphModel" yM_owner1 yM_owner1 : Cond) ∈ lw_g := lg_mem (i := 14) (by decide +kernel) (by decide +kernel)
theorem we_M_forget : (.selects "HangGraphModel" yM_forget yM_forget : Cond) ∈ lw_g := lg_mem (i := 15) (by decide +kernel) (by decide +kernel)
theorem we_M_count : (.selects "HangGraphModel" yM_count yM_count : Cond) ∈ lw_g := lg_mem (i := 16) (by decide +kernel) (by decide +kernel)
theorem we_M_survey : (.selects "HangGraphModel" yM_survey yM_survey : Cond) ∈ lw_g := lg_mem (i := 17) (by decide +kernel) (by decide +kernel)
theorem we_M_speaks : (.selects "HangGraphModel" yM_speaks yM_speaks : Cond) ∈ lw_g := lg_mem (i := 18) (by decide +kernel) (by decide +kernel)
theorem we_M_comesBack : (.selects "HangGraphModel" yM_comesBack yM_comesBack : Cond) ∈ lw_g := lg_mem (i := 19) (by decide +kernel) (by decide +kernel)
theorem wn_L : (.initialized "HangGraphLaw" : Cond) ∈ lw_g := lg_mem (i := 20) (by decide +kernel) (by decide +kernel)
theorem wn_H : (.initialized "HangGraph" : Cond) ∈ lw_g := lg_mem (i := 21) (by decide +kernel) (by decide +kernel)
theorem wn_S : (.initialized "HangGraph$Sweep" : Cond) ∈ lw_g := lg_mem (i := 22) (by decide +kernel) (by decide +kernel)
theorem wn_M : (.initialized "HangGraphModel" : Cond) ∈ lw_g := lg_mem (i := 23) (by decide +kernel) (by decide +kernel)
theorem wn_java_lang_Throwable : (.initialized "java/lang/Throwable" : Cond) ∈ lw_g := lg_mem (i := 24) (by decide +kernel) (by decide +kernel)
theorem wn_java_lang_Exception : (.initialized "java/lang/Exception" : Cond) ∈ lw_g := lg_mem (i := 25) (by decide +kernel) (by decide +kernel)
theorem wn_java_lang_RuntimeException : (.initialized "java/lang/RuntimeException" : Cond) ∈ lw_g := lg_mem (i := 26) (by decide +kernel) (by decide +kernel)
theorem wn_java_lang_IllegalArgumentException : (.initialized "java/lang/IllegalArgumentException" : Cond) ∈ lw_g := lg_mem (i := 27) (by decide +kernel) (by decide +kernel)
theorem wn_java_lang_IllegalStateException : (.initialized "java/lang/IllegalStateException" : Cond) ∈ lw_g := lg_mem (i := 28) (by decide +kernel) (by decide +kernel)
theorem wn_F : (.initialized "HangGraph$Formula" : Cond) ∈ lw_g := lg_mem (i := 29) (by decide +kernel) (by decide +kernel)
theorem wn_java_util_NoSuchElementException : (.initialized "java/util/NoSuchElementException" : Cond) ∈ lw_g := lg_mem (i := 30) (by decide +kernel) (by decide +kernel)
theorem wn_java_lang_IndexOutOfBoundsException : (.initialized "java/lang/IndexOutOfBoundsException" : Cond) ∈ lw_g := lg_mem (i := 31) (by decide +kernel) (by decide +kernel)
theorem wn_java_lang_Math : (.initialized "java/lang/Math" : Cond) ∈ lw_g := lg_mem (i := 32) (by decide +kernel) (by decide +kernel)
theorem wn_A : (.initialized "java/util/Arrays" : Cond) ∈ lw_g := lg_mem (i := 33) (by decide +kernel) (by decide +kernel)
theorem wk_L_8 : (.classLink "HangGraphLaw" 8 "HangGraph" : Cond) ∈ lw_g := lg_mem (i := 34) (by decide +kernel) (by decide +kernel)
theorem wz_H : (.instantiable "HangGraph" 4 : Cond) ∈ lw_g := lg_mem (i := 35) (by decide +kernel) (by decide +kernel)
theorem wm_L_40 : (.methodLink "HangGraphLaw" 40 yH_init : Cond) ∈ lw_g := lg_mem (i := 36) (by decide +kernel) (by decide +kernel)
theorem wi_H_init : (.instanceMethod yH_init : Cond) ∈ lw_g := lg_mem (i := 37) (by decide +kernel) (by decide +kernel)
theorem wc_H_init : (.code yH_init cH_init 1 none : Cond) ∈ lw_g := lg_mem (i := 38) (by decide +kernel) (by decide +kernel)
theorem wm_H_3 : (.methodLink "HangGraph" 3 ⟨"java/lang/Object", "<init>", "()V"⟩ : Cond) ∈ lw_g := lg_mem (i := 39) (by decide +kernel) (by decide +kernel)
theorem wi_java_lang_Object_init_0 : (.instanceMethod ⟨"java/lang/Object", "<init>", "()V"⟩ : Cond) ∈ lw_g := lg_mem (i := 40) (by decide +kernel) (by decide +kernel)
theorem wc_java_lang_Object_init_0 : ((Jvm.Cond.code ({ cls := "java/lang/Object", name := "<init>", desc := "()V" } : Jvm.MethodName) object_method_1_code (1 : Nat) (Option.none : Option Jvm.ClassFile.FieldType)) : Cond) ∈ lw_g := lg_mem (i := 41) (by decide +kernel) (by decide +kernel)
theorem wk_H_9 : (.classLink "HangGraph" 9 "HangGraph$Formula" : Cond) ∈ lw_g := lg_mem (i := 42) (by decide +kernel) (by decide +kernel)
theorem wq_object_HangGraph_Formula : ((Jvm.Cond.arrayOver (Jvm.ClassFile.FieldType.object "HangGraph$Formula")) : Cond) ∈ lw_tbl := List.mem_of_getElem? (i := 43) (by decide +kernel)
theorem wk_H_19 : (.classLink "HangGraph" 19 "HangGraph$Sweep" : Cond) ∈ lw_g := lg_mem (i := 44) (by decide +kernel) (by decide +kernel)
theorem wz_S : (.instantiable "HangGraph$Sweep" 9 : Cond) ∈ lw_g := lg_mem (i := 45) (by decide +kernel) (by decide +kernel)
theorem wm_H_21 : (.methodLink "HangGraph" 21 yS_init : Cond) ∈ lw_g := lg_mem (i := 46) (by decide +kernel) (by decide +kernel)
theorem wi_S_init : (.instanceMethod yS_init : Cond) ∈ lw_g := lg_mem (i := 47) (by decide +kernel) (by decide +kernel)
theorem wc_S_init : (.code yS_init cS_init 1 none : Cond) ∈ lw_g := lg_mem (i := 48) (by decide +kernel) (by decide +kernel)
theorem wm_S_3 : (.methodLink "HangGraph$Sweep" 3 ⟨"java/lang/Object", "<init>", "()V"⟩ : Cond) ∈ lw_g := lg_mem (i := 49) (by decide +kernel) (by decide +kernel)
theorem wk_S_9 : (.classLink "HangGraph$Sweep" 9 "HangGraph$Formula" : Cond) ∈ lw_g := lg_mem (i := 50) (by decide +kernel) (by decide +kernel)
theorem wf_S_11 : (.fieldLink "HangGraph$Sweep" 11 "HangGraph$Sweep" "live" "[LHangGraph$Formula;" : Cond) ∈ lw_g := lg_mem (i := 51) (by decide +kernel) (by decide +kernel)
theorem wf_S_26 : (.fieldLink "HangGraph$Sweep" 26 "HangGraph$Sweep" "liveCount" "I" : Cond) ∈ lw_g := lg_mem (i := 52) (by decide +kernel) (by decide +kernel)
theorem wf_S_17 : (.fieldLink "HangGraph$Sweep" 17 "HangGraph$Sweep" "hits" "[LHangGraph$Formula;" : Cond) ∈ lw_g := lg_mem (i := 53) (by decide +kernel) (by decide +kernel)
theorem wf_S_30 : (.fieldLink "HangGraph$Sweep" 30 "HangGraph$Sweep" "hitCount" "I" : Cond) ∈ lw_g := lg_mem (i := 54) (by decide +kernel) (by decide +kernel)
theorem wf_H_88 : (.fieldLink "HangGraph" 88 "HangGraph$Sweep" "hitCount" "I" : Cond) ∈ lw_g := lg_mem (i := 55) (by decide +kernel) (by decide +kernel)
theorem wf_S_20 : (.fieldLink "HangGraph$Sweep" 20 "HangGraph$Sweep" "path" "[LHangGraph$Formula;" : Cond) ∈ lw_g := lg_mem (i := 56) (by decide +kernel) (by decide +kernel)
theorem wf_S_33 : (.fieldLink "HangGraph$Sweep" 33 "HangGraph$Sweep" "pathLength" "I" : Cond) ∈ lw_g := lg_mem (i := 57) (by decide +kernel) (by decide +kernel)
theorem wf_S_23 : (.fieldLink "HangGraph$Sweep" 23 "HangGraph$Sweep" "open" "[LHangGraph$Formula;" : Cond) ∈ lw_g := lg_mem (i := 58) (by decide +kernel) (by decide +kernel)
theorem wf_S_36 : (.fieldLink "HangGraph$Sweep" 36 "HangGraph$Sweep" "openCount" "I" : Cond) ∈ lw_g := lg_mem (i := 59) (by decide +kernel) (by decide +kernel)
theorem wf_S_39 : (.fieldLink "HangGraph$Sweep" 39 "HangGraph$Sweep" "lastNumber" "I" : Cond) ∈ lw_g := lg_mem (i := 60) (by decide +kernel) (by decide +kernel)
theorem wa_int : ((Jvm.Cond.arrayClass Jvm.ClassFile.FieldType.int) : Cond) ∈ lw_g := lg_mem (i := 80) (by decide +kernel) (by decide +kernel)
theorem wf_H_11 : (.fieldLink "HangGraph" 11 "HangGraph" "over" "[LHangGraph$Formula;" : Cond) ∈ lw_g := lg_mem (i := 81) (by decide +kernel) (by decide +kernel)
theorem wf_H_15 : (.fieldLink "HangGraph" 15 "HangGraph" "dirtyRows" "[I" : Cond) ∈ lw_g := lg_mem (i := 82) (by decide +kernel) (by decide +kernel)
theorem wf_H_22 : (.fieldLink "HangGraph" 22 "HangGraph" "sweep" "LHangGraph$Sweep;" : Cond) ∈ lw_g := lg_mem (i := 83) (by decide +kernel) (by decide +kernel)
theorem wf_H_26 : (.fieldLink "HangGraph" 26 "HangGraph" "formulaCount" "I" : Cond) ∈ lw_g := lg_mem (i := 84) (by decide +kernel) (by decide +kernel)
theorem wm_L_66 : (.methodLink "HangGraphLaw" 66 yH_spread : Cond) ∈ lw_g := lg_mem (i := 94) (by decide +kernel) (by decide +kernel)
theorem wi_H_spread : (.instanceMethod yH_spread : Cond) ∈ lw_g := lg_mem (i := 95) (by decide +kernel) (by decide +kernel)
theorem we_H_spread : (.selects "HangGraph" yH_spread yH_spread : Cond) ∈ lw_g := lg_mem (i := 96) (by decide +kernel) (by decide +kernel)
theorem wc_H_spread : (.code yH_spread cH_spread 1 (some .int) : Cond) ∈ lw_g := lg_mem (i := 97) (by decide +kernel) (by decide +kernel)
theorem wm_H_71 : (.methodLink "HangGraph" 71 yS_begin : Cond) ∈ lw_g := lg_mem (i := 98) (by decide +kernel) (by decide +kernel)
theorem wi_S_begin : (.instanceMethod yS_begin : Cond) ∈ lw_g := lg_mem (i := 99) (by decide +kernel) (by decide +kernel)
theorem we_S_begin : (.selects "HangGraph$Sweep" yS_begin yS_begin : Cond) ∈ lw_g := lg_mem (i := 100) (by decide +kernel) (by decide +kernel)
theorem wc_S_begin : (.code yS_begin cS_begin 4 none : Cond) ∈ lw_g := lg_mem (i := 101) (by decide +kernel) (by decide +kernel)
theorem wm_S_45 : (.methodLink "HangGraph$Sweep" 45 yF_forget : Cond) ∈ lw_g := lg_mem (i := 102) (by decide +kernel) (by decide +kernel)
theorem wi_F_forget : (.instanceMethod yF_forget : Cond) ∈ lw_g := lg_mem (i := 103) (by decide +kernel) (by decide +kernel)
theorem we_F_forget : (.selects "HangGraph$Formula" yF_forget yF_forget : Cond) ∈ lw_g := lg_mem (i := 104) (by decide +kernel) (by decide +kernel)
theorem wc_F_forget : (.code yF_forget cF_forget 1 none : Cond) ∈ lw_g := lg_mem (i := 105) (by decide +kernel) (by decide +kernel)
theorem wm_H_75 : (.methodLink "HangGraph" 75 yS_findHit : Cond) ∈ lw_g := lg_mem (i := 106) (by decide +kernel) (by decide +kernel)
theorem wi_S_findHit : (.instanceMethod yS_findHit : Cond) ∈ lw_g := lg_mem (i := 107) (by decide +kernel) (by decide +kernel)
theorem we_S_findHit : (.selects "HangGraph$Sweep" yS_findHit yS_findHit : Cond) ∈ lw_g := lg_mem (i := 108) (by decide +kernel) (by decide +kernel)
theorem wc_S_findHit : (.code yS_findHit cS_findHit 4 none : Cond) ∈ lw_g := lg_mem (i := 109) (by decide +kernel) (by decide +kernel)
theorem wm_S_48 : (.methodLink "HangGraph$Sweep" 48 yF_holdsOneOf : Cond) ∈ lw_g := lg_mem (i := 110) (by decide +kernel) (by decide +kernel)
theorem wi_F_holdsOneOf : (.instanceMethod yF_holdsOneOf : Cond) ∈ lw_g := lg_mem (i := 111) (by decide +kernel) (by decide +kernel)
theorem we_F_holdsOneOf : (.selects "HangGraph$Formula" yF_holdsOneOf yF_holdsOneOf : Cond) ∈ lw_g := lg_mem (i := 112) (by decide +kernel) (by decide +kernel)
theorem wc_F_holdsOneOf : (.code yF_holdsOneOf cF_holdsOneOf 3 (some .boolean) : Cond) ∈ lw_g := lg_mem (i := 113) (by decide +kernel) (by decide +kernel)
theorem wm_S_52 : (.methodLink "HangGraph$Sweep" 52 yF_hangsOnOneOf : Cond) ∈ lw_g := lg_mem (i := 114) (by decide +kernel) (by decide +kernel)
theorem wi_F_hangsOnOneOf : (.instanceMethod yF_hangsOnOneOf : Cond) ∈ lw_g := lg_mem (i := 115) (by decide +kernel) (by decide +kernel)
theorem we_F_hangsOnOneOf : (.selects "HangGraph$Formula" yF_hangsOnOneOf yF_hangsOnOneOf : Cond) ∈ lw_g := lg_mem (i := 116) (by decide +kernel) (by decide +kernel)
theorem wc_F_hangsOnOneOf : (.code yF_hangsOnOneOf cF_hangsOnOneOf 3 (some .boolean) : Cond) ∈ lw_g := lg_mem (i := 117) (by decide +kernel) (by decide +kernel)
theorem wm_S_55 : (.methodLink "HangGraph$Sweep" 55 yS_addHit : Cond) ∈ lw_g := lg_mem (i := 118) (by decide +kernel) (by decide +kernel)
theorem wi_S_addHit : (.instanceMethod yS_addHit : Cond) ∈ lw_g := lg_mem (i := 120) (by decide +kernel) (by decide +kernel)
theorem wc_S_addHit : (.code yS_addHit cS_addHit 2 none : Cond) ∈ lw_g := lg_mem (i := 121) (by decide +kernel) (by decide +kernel)
theorem wm_S_59 : (.methodLink "HangGraph$Sweep" 59 yS_hitAllThatHangOn : Cond) ∈ lw_g := lg_mem (i := 122) (by decide +kernel) (by decide +kernel)
theorem wi_S_hitAllThatHangOn : (.instanceMethod yS_hitAllThatHangOn : Cond) ∈ lw_g := lg_mem (i := 124) (by decide +kernel) (by decide +kernel)
theorem wc_S_hitAllThatHangOn : (.code yS_hitAllThatHangOn cS_hitAllThatHangOn 4 none : Cond) ∈ lw_g := lg_mem (i := 125) (by decide +kernel) (by decide +kernel)
theorem wm_S_66 : (.methodLink "HangGraph$Sweep" 66 yF_hangsOn : Cond) ∈ lw_g := lg_mem (i := 126) (by decide +kernel) (by decide +kernel)
theorem wi_F_hangsOn : (.instanceMethod yF_hangsOn : Cond) ∈ lw_g := lg_mem (i := 127) (by decide +kernel) (by decide +kernel)
theorem we_F_hangsOn : (.selects "HangGraph$Formula" yF_hangsOn yF_hangsOn : Cond) ∈ lw_g := lg_mem (i := 128) (by decide +kernel) (by decide +kernel)
theorem wc_F_hangsOn : (.code yF_hangsOn cF_hangsOn 3 (some .boolean) : Cond) ∈ lw_g := lg_mem (i := 129) (by decide +kernel) (by decide +kernel)
theorem wm_H_79 : (.methodLink "HangGraph" 79 yS_rankHit : Cond) ∈ lw_g := lg_mem (i := 130) (by decide +kernel) (by decide +kernel)
theorem wi_S_rankHit : (.instanceMethod yS_rankHit : Cond) ∈ lw_g := lg_mem (i := 131) (by decide +kernel) (by decide +kernel)
theorem we_S_rankHit : (.selects "HangGraph$Sweep" yS_rankHit yS_rankHit : Cond) ∈ lw_g := lg_mem (i := 132) (by decide +kernel) (by decide +kernel)
theorem wc_S_rankHit : (.code yS_rankHit cS_rankHit 2 none : Cond) ∈ lw_g := lg_mem (i := 133) (by decide +kernel) (by decide +kernel)
theorem wm_S_73 : (.methodLink "HangGraph$Sweep" 73 yS_walkFrom : Cond) ∈ lw_g := lg_mem (i := 134) (by decide +kernel) (by decide +kernel)
theorem wi_S_walkFrom : (.instanceMethod yS_walkFrom : Cond) ∈ lw_g := lg_mem (i := 136) (by decide +kernel) (by decide +kernel)
theorem wc_S_walkFrom : (.code yS_walkFrom cS_walkFrom 5 none : Cond) ∈ lw_g := lg_mem (i := 137) (by decide +kernel) (by decide +kernel)
theorem wm_S_76 : (.methodLink "HangGraph$Sweep" 76 yS_enter : Cond) ∈ lw_g := lg_mem (i := 138) (by decide +kernel) (by decide +kernel)
theorem wi_S_enter : (.instanceMethod yS_enter : Cond) ∈ lw_g := lg_mem (i := 140) (by decide +kernel) (by decide +kernel)
theorem wc_S_enter : (.code yS_enter cS_enter 2 none : Cond) ∈ lw_g := lg_mem (i := 141) (by decide +kernel) (by decide +kernel)
theorem wm_S_79 : (.methodLink "HangGraph$Sweep" 79 yS_nextBelow : Cond) ∈ lw_g := lg_mem (i := 142) (by decide +kernel) (by decide +kernel)
theorem wi_S_nextBelow : (.instanceMethod yS_nextBelow : Cond) ∈ lw_g := lg_mem (i := 144) (by decide +kernel) (by decide +kernel)
theorem wc_S_nextBelow : (.code yS_nextBelow cS_nextBelow 4 (some (.object "HangGraph$Formula")) : Cond) ∈ lw_g := lg_mem (i := 145) (by decide +kernel) (by decide +kernel)
theorem wm_S_95 : (.methodLink "HangGraph$Sweep" 95 ⟨"java/lang/Math", "min", "(II)I"⟩ : Cond) ∈ lw_g := lg_mem (i := 146) (by decide +kernel) (by decide +kernel)
theorem wt_java_lang_Math_min : (.static ⟨"java/lang/Math", "min", "(II)I"⟩ : Cond) ∈ lw_g := lg_mem (i := 147) (by decide +kernel) (by decide +kernel)
theorem wc_java_lang_Math_min : ((Jvm.Cond.code ({ cls := "java/lang/Math", name := "min", desc := "(II)I" } : Jvm.MethodName) prog_10_method_69_code (2 : Nat) (Option.some Jvm.ClassFile.FieldType.int)) : Cond) ∈ lw_g := lg_mem (i := 148) (by decide +kernel) (by decide +kernel)
theorem wm_S_83 : (.methodLink "HangGraph$Sweep" 83 yS_leave : Cond) ∈ lw_g := lg_mem (i := 149) (by decide +kernel) (by decide +kernel)
theorem wi_S_leave : (.instanceMethod yS_leave : Cond) ∈ lw_g := lg_mem (i := 151) (by decide +kernel) (by decide +kernel)
theorem wc_S_leave : (.code yS_leave cS_leave 3 none : Cond) ∈ lw_g := lg_mem (i := 152) (by decide +kernel) (by decide +kernel)
theorem wm_S_101 : (.methodLink "HangGraph$Sweep" 101 yS_closeGroup : Cond) ∈ lw_g := lg_mem (i := 153) (by decide +kernel) (by decide +kernel)
theorem wi_S_closeGroup : (.instanceMethod yS_closeGroup : Cond) ∈ lw_g := lg_mem (i := 155) (by decide +kernel) (by decide +kernel)
theorem wc_S_closeGroup : (.code yS_closeGroup cS_closeGroup 3 none : Cond) ∈ lw_g := lg_mem (i := 156) (by decide +kernel) (by decide +kernel)
theorem wm_S_104 : (.methodLink "HangGraph$Sweep" 104 yS_greatestRankBelow : Cond) ∈ lw_g := lg_mem (i := 157) (by decide +kernel) (by decide +kernel)
theorem wi_S_greatestRankBelow : (.instanceMethod yS_greatestRankBelow : Cond) ∈ lw_g := lg_mem (i := 159) (by decide +kernel) (by decide +kernel)
theorem wc_S_greatestRankBelow : (.code yS_greatestRankBelow cS_greatestRankBelow 4 (some .int) : Cond) ∈ lw_g := lg_mem (i := 160) (by decide +kernel) (by decide +kernel)
theorem wm_S_114 : (.methodLink "HangGraph$Sweep" 114 ⟨"java/lang/Math", "max", "(II)I"⟩ : Cond) ∈ lw_g := lg_mem (i := 161) (by decide +kernel) (by decide +kernel)
theorem wt_java_lang_Math_max : (.static ⟨"java/lang/Math", "max", "(II)I"⟩ : Cond) ∈ lw_g := lg_mem (i := 162) (by decide +kernel) (by decide +kernel)
theorem wc_java_lang_Math_max : ((Jvm.Cond.code ({ cls := "java/lang/Math", name := "max", desc := "(II)I" } : Jvm.MethodName) prog_10_method_65_code (2 : Nat) (Option.some Jvm.ClassFile.FieldType.int)) : Cond) ∈ lw_g := lg_mem (i := 163) (by decide +kernel) (by decide +kernel)
theorem wm_H_82 : (.methodLink "HangGraph" 82 yA_fill : Cond) ∈ lw_g := lg_mem (i := 164) (by decide +kernel) (by decide +kernel)
theorem wt_A_fill : (.static yA_fill : Cond) ∈ lw_g := lg_mem (i := 165) (by decide +kernel) (by decide +kernel)
theorem wc_A_fill : (.code yA_fill cA_fill 4 none : Cond) ∈ lw_g := lg_mem (i := 166) (by decide +kernel) (by decide +kernel)
theorem wm_L_44 : (.methodLink "HangGraphLaw" 44 yL_put : Cond) ∈ lw_g := lg_mem (i := 167) (by decide +kernel) (by decide +kernel)
theorem wt_L_put : (.static yL_put : Cond) ∈ lw_g := lg_mem (i := 168) (by decide +kernel) (by decide +kernel)
theorem wk_L_13 : (.classLink "HangGraphLaw" 13 "java/lang/IllegalArgumentException" : Cond) ∈ lw_g := lg_mem (i := 170) (by decide +kernel) (by decide +kernel)
theorem wk_L_15 : (.classLink "HangGraphLaw" 15 "java/lang/IllegalStateException" : Cond) ∈ lw_g := lg_mem (i := 171) (by decide +kernel) (by decide +kernel)
theorem wm_L_7 : (.methodLink "HangGraphLaw" 7 yH_put : Cond) ∈ lw_g := lg_mem (i := 172) (by decide +kernel) (by decide +kernel)
theorem wi_H_put : (.instanceMethod yH_put : Cond) ∈ lw_g := lg_mem (i := 173) (by decide +kernel) (by decide +kernel)
theorem we_H_put : (.selects "HangGraph" yH_put yH_put : Cond) ∈ lw_g := lg_mem (i := 174) (by decide +kernel) (by decide +kernel)
theorem wc_H_put : (.code yH_put cH_put 8 (some .int) : Cond) ∈ lw_g := lg_mem (i := 175) (by decide +kernel) (by decide +kernel)
theorem wm_H_30 : (.methodLink "HangGraph" 30 yH_requireCell : Cond) ∈ lw_g := lg_mem (i := 176) (by decide +kernel) (by decide +kernel)
theorem wt_H_requireCell : (.static yH_requireCell : Cond) ∈ lw_g := lg_mem (i := 177) (by decide +kernel) (by decide +kernel)
theorem wc_H_requireCell : (.code yH_requireCell cH_requireCell 2 none : Cond) ∈ lw_g := lg_mem (i := 178) (by decide +kernel) (by decide +kernel)
theorem wk_H_91 : (.classLink "HangGraph" 91 "java/lang/IllegalArgumentException" : Cond) ∈ lw_g := lg_mem (i := 179) (by decide +kernel) (by decide +kernel)
theorem wz_java_lang_IllegalArgumentException : (.instantiable "java/lang/IllegalArgumentException" 6 : Cond) ∈ lw_g := lg_mem (i := 180) (by decide +kernel) (by decide +kernel)
theorem wq_cast_java_lang_IllegalArgumentException : ((Jvm.Cond.castable "java/lang/IllegalArgumentException" "java/lang/IllegalArgumentException") : Cond) ∈ lw_tbl := List.mem_of_getElem? (i := 181) (by decide +kernel)
theorem wq_decl_java_lang_RuntimeException_init_0 : ((Jvm.Cond.declares ({ cls := "java/lang/RuntimeException", name := "<init>", desc := "()V" } : Jvm.MethodName)) : Cond) ∈ lw_tbl := List.mem_of_getElem? (i := 182) (by decide +kernel)
theorem wq_decl_java_lang_RuntimeException_init_s : ((Jvm.Cond.declares ({ cls := "java/lang/RuntimeException", name := "<init>", desc := "(Ljava/lang/String;)V" } : Jvm.MethodName)) : Cond) ∈ lw_tbl := List.mem_of_getElem? (i := 183) (by decide +kernel)
theorem wq_decl_java_lang_Exception_init_0 : ((Jvm.Cond.declares ({ cls := "java/lang/Exception", name := "<init>", desc := "()V" } : Jvm.MethodName)) : Cond) ∈ lw_tbl := List.mem_of_getElem? (i := 184) (by decide +kernel)
theorem wq_decl_java_lang_Exception_init_s : ((Jvm.Cond.declares ({ cls := "java/lang/Exception", name := "<init>", desc := "(Ljava/lang/String;)V" } : Jvm.MethodName)) : Cond) ∈ lw_tbl := List.mem_of_getElem? (i := 185) (by decide +kernel)
theorem wq_decl_java_lang_Throwable_init_0 : ((Jvm.Cond.declares ({ cls := "java/lang/Throwable", name := "<init>", desc := "()V" } : Jvm.MethodName)) : Cond) ∈ lw_tbl := List.mem_of_getElem? (i := 186) (by decide +kernel)
theorem wq_decl_java_lang_Throwable_init_s : ((Jvm.Cond.declares ({ cls := "java/lang/Throwable", name := "<init>", desc := "(Ljava/lang/String;)V" } : Jvm.MethodName)) : Cond) ∈ lw_tbl := List.mem_of_getElem? (i := 187) (by decide +kernel)
theorem wi_java_lang_Throwable_init_0 : (.instanceMethod ⟨"java/lang/Throwable", "<init>", "()V"⟩ : Cond) ∈ lw_g := lg_mem (i := 202) (by decide +kernel) (by decide +kernel)
theorem wi_java_lang_Throwable_fillInStackTrace : (.instanceMethod ⟨"java/lang/Throwable", "fillInStackTrace", "()Ljava/lang/Throwable;"⟩ : Cond) ∈ lw_g := lg_mem (i := 210) (by decide +kernel) (by decide +kernel)
theorem wz_java_lang_Throwable : (.instantiable "java/lang/Throwable" 6 : Cond) ∈ lw_g := lg_mem (i := 219) (by decide +kernel) (by decide +kernel)
theorem wq_str_112 : ((Jvm.Cond.stringRef "HangGraph" (112 : Nat) "no such cell") : Cond) ∈ lw_tbl := List.mem_of_getElem? (i := 221) (by decide +kernel)
theorem wm_H_95 : (.methodLink "HangGraph" 95 ⟨"java/lang/IllegalArgumentException", "<init>", "(Ljava/lang/String;)V"⟩ : Cond) ∈ lw_g := lg_mem (i := 222) (by decide +kernel) (by decide +kernel)
theorem wi_java_lang_IllegalArgumentException_init_s : (.instanceMethod ⟨"java/lang/IllegalArgumentException", "<init>", "(Ljava/lang/String;)V"⟩ : Cond) ∈ lw_g := lg_mem (i := 223) (by decide +kernel) (by decide +kernel)
theorem wi_java_lang_RuntimeException_init_s : (.instanceMethod ⟨"java/lang/RuntimeException", "<init>", "(Ljava/lang/String;)V"⟩ : Cond) ∈ lw_g := lg_mem (i := 226) (by decide +kernel) (by decide +kernel)
theorem wi_java_lang_Exception_init_s : (.instanceMethod ⟨"java/lang/Exception", "<init>", "(Ljava/lang/String;)V"⟩ : Cond) ∈ lw_g := lg_mem (i := 229) (by decide +kernel) (by decide +kernel)
theorem wi_java_lang_Throwable_init_s : (.instanceMethod ⟨"java/lang/Throwable", "<init>", "(Ljava/lang/String;)V"⟩ : Cond) ∈ lw_g := lg_mem (i := 232) (by decide +kernel) (by decide +kernel)
theorem wa_byte : ((Jvm.Cond.arrayClass Jvm.ClassFile.FieldType.byte) : Cond) ∈ lw_g := lg_mem (i := 247) (by decide +kernel) (by decide +kernel)
theorem wm_H_34 : (.methodLink "HangGraph" 34 yH_requireFits : Cond) ∈ lw_g := lg_mem (i := 248) (by decide +kernel) (by decide +kernel)
theorem wt_H_requireFits : (.static yH_requireFits : Cond) ∈ lw_g := lg_mem (i := 249) (by decide +kernel) (by decide +kernel)
theorem wc_H_requireFits : (.code yH_requireFits cH_requireFits 2 none : Cond) ∈ lw_g := lg_mem (i := 250) (by decide +kernel) (by decide +kernel)
theorem wq_str_114 : ((Jvm.Cond.stringRef "HangGraph" (114 : Nat) "the block is empty or beyond the grid") : Cond) ∈ lw_tbl := List.mem_of_getElem? (i := 251) (by decide +kernel)
theorem wm_H_37 : (.methodLink "HangGraph" 37 yH_requireFree : Cond) ∈ lw_g := lg_mem (i := 252) (by decide +kernel) (by decide +kernel)
theorem wi_H_requireFree : (.instanceMethod yH_requireFree : Cond) ∈ lw_g := lg_mem (i := 254) (by decide +kernel) (by decide +kernel)
theorem wc_H_requireFree : (.code yH_requireFree cH_requireFree 7 none : Cond) ∈ lw_g := lg_mem (i := 255) (by decide +kernel) (by decide +kernel)
theorem wm_H_106 : (.methodLink "HangGraph" 106 yH_cellAt : Cond) ∈ lw_g := lg_mem (i := 256) (by decide +kernel) (by decide +kernel)
theorem wt_H_cellAt : (.static yH_cellAt : Cond) ∈ lw_g := lg_mem (i := 257) (by decide +kernel) (by decide +kernel)
theorem wc_H_cellAt : (.code yH_cellAt cH_cellAt 2 (some .int) : Cond) ∈ lw_g := lg_mem (i := 258) (by decide +kernel) (by decide +kernel)
theorem wk_H_118 : (.classLink "HangGraph" 118 "java/lang/IllegalStateException" : Cond) ∈ lw_g := lg_mem (i := 259) (by decide +kernel) (by decide +kernel)
theorem wz_java_lang_IllegalStateException : (.instantiable "java/lang/IllegalStateException" 6 : Cond) ∈ lw_g := lg_mem (i := 260) (by decide +kernel) (by decide +kernel)
theorem wq_cast_java_lang_IllegalStateException : ((Jvm.Cond.castable "java/lang/IllegalStateException" "java/lang/IllegalStateException") : Cond) ∈ lw_tbl := List.mem_of_getElem? (i := 261) (by decide +kernel)
theorem wq_str_120 : ((Jvm.Cond.stringRef "HangGraph" (120 : Nat) "blocks would overlap") : Cond) ∈ lw_tbl := List.mem_of_getElem? (i := 268) (by decide +kernel)
theorem wm_H_122 : (.methodLink "HangGraph" 122 ⟨"java/lang/IllegalStateException", "<init>", "(Ljava/lang/String;)V"⟩ : Cond) ∈ lw_g := lg_mem (i := 269) (by decide +kernel) (by decide +kernel)
theorem wi_java_lang_IllegalStateException_init_s : (.instanceMethod ⟨"java/lang/IllegalStateException", "<init>", "(Ljava/lang/String;)V"⟩ : Cond) ∈ lw_g := lg_mem (i := 270) (by decide +kernel) (by decide +kernel)
theorem wz_F : (.instantiable "HangGraph$Formula" 15 : Cond) ∈ lw_g := lg_mem (i := 275) (by decide +kernel) (by decide +kernel)
theorem wm_H_41 : (.methodLink "HangGraph" 41 yF_init : Cond) ∈ lw_g := lg_mem (i := 276) (by decide +kernel) (by decide +kernel)
theorem wi_F_init : (.instanceMethod yF_init : Cond) ∈ lw_g := lg_mem (i := 277) (by decide +kernel) (by decide +kernel)
theorem wc_F_init : (.code yF_init cF_init 5 none : Cond) ∈ lw_g := lg_mem (i := 278) (by decide +kernel) (by decide +kernel)
theorem wm_F_3 : (.methodLink "HangGraph$Formula" 3 ⟨"java/lang/Object", "<init>", "()V"⟩ : Cond) ∈ lw_g := lg_mem (i := 279) (by decide +kernel) (by decide +kernel)
theorem wq_F_9 : (.methodLinkNest "HangGraph$Formula" 9 yH_cellAt "HangGraph" : Cond) ∈ lw_tbl := List.mem_of_getElem? (i := 280) (by decide +kernel)
theorem wq_F_31 : (.methodLinkNest "HangGraph$Formula" 31 yH_columnBits "HangGraph" : Cond) ∈ lw_tbl := List.mem_of_getElem? (i := 281) (by decide +kernel)
theorem wt_H_columnBits : (.static yH_columnBits : Cond) ∈ lw_g := lg_mem (i := 282) (by decide +kernel) (by decide +kernel)
theorem wc_H_columnBits : (.code yH_columnBits cH_columnBits 2 (some .int) : Cond) ∈ lw_g := lg_mem (i := 283) (by decide +kernel) (by decide +kernel)
theorem wf_F_13 : (.fieldLink "HangGraph$Formula" 13 "HangGraph$Formula" "first" "I" : Cond) ∈ lw_g := lg_mem (i := 284) (by decide +kernel) (by decide +kernel)
theorem wf_S_42 : (.fieldLink "HangGraph$Sweep" 42 "HangGraph$Formula" "first" "I" : Cond) ∈ lw_g := lg_mem (i := 285) (by decide +kernel) (by decide +kernel)
theorem wf_H_109 : (.fieldLink "HangGraph" 109 "HangGraph$Formula" "first" "I" : Cond) ∈ lw_g := lg_mem (i := 286) (by decide +kernel) (by decide +kernel)
theorem wf_F_19 : (.fieldLink "HangGraph$Formula" 19 "HangGraph$Formula" "top" "I" : Cond) ∈ lw_g := lg_mem (i := 287) (by decide +kernel) (by decide +kernel)
theorem wf_H_128 : (.fieldLink "HangGraph" 128 "HangGraph$Formula" "top" "I" : Cond) ∈ lw_g := lg_mem (i := 288) (by decide +kernel) (by decide +kernel)
theorem wf_F_22 : (.fieldLink "HangGraph$Formula" 22 "HangGraph$Formula" "left" "I" : Cond) ∈ lw_g := lg_mem (i := 289) (by decide +kernel) (by decide +kernel)
theorem wf_H_134 : (.fieldLink "HangGraph" 134 "HangGraph$Formula" "left" "I" : Cond) ∈ lw_g := lg_mem (i := 290) (by decide +kernel) (by decide +kernel)
theorem wf_F_25 : (.fieldLink "HangGraph$Formula" 25 "HangGraph$Formula" "bottom" "I" : Cond) ∈ lw_g := lg_mem (i := 291) (by decide +kernel) (by decide +kernel)
theorem wf_H_131 : (.fieldLink "HangGraph" 131 "HangGraph$Formula" "bottom" "I" : Cond) ∈ lw_g := lg_mem (i := 292) (by decide +kernel) (by decide +kernel)
theorem wf_F_28 : (.fieldLink "HangGraph$Formula" 28 "HangGraph$Formula" "right" "I" : Cond) ∈ lw_g := lg_mem (i := 293) (by decide +kernel) (by decide +kernel)
theorem wf_H_137 : (.fieldLink "HangGraph" 137 "HangGraph$Formula" "right" "I" : Cond) ∈ lw_g := lg_mem (i := 294) (by decide +kernel) (by decide +kernel)
theorem wf_F_34 : (.fieldLink "HangGraph$Formula" 34 "HangGraph$Formula" "blockColumns" "I" : Cond) ∈ lw_g := lg_mem (i := 295) (by decide +kernel) (by decide +kernel)
theorem wf_F_37 : (.fieldLink "HangGraph$Formula" 37 "HangGraph$Formula" "spokenRows" "[I" : Cond) ∈ lw_g := lg_mem (i := 296) (by decide +kernel) (by decide +kernel)
theorem wf_F_41 : (.fieldLink "HangGraph$Formula" 41 "HangGraph$Formula" "rectangleCount" "I" : Cond) ∈ lw_g := lg_mem (i := 297) (by decide +kernel) (by decide +kernel)
theorem wf_H_54 : (.fieldLink "HangGraph" 54 "HangGraph$Formula" "rectangleCount" "I" : Cond) ∈ lw_g := lg_mem (i := 298) (by decide +kernel) (by decide +kernel)
theorem wf_S_62 : (.fieldLink "HangGraph$Sweep" 62 "HangGraph$Formula" "hit" "Z" : Cond) ∈ lw_g := lg_mem (i := 299) (by decide +kernel) (by decide +kernel)
theorem wf_F_44 : (.fieldLink "HangGraph$Formula" 44 "HangGraph$Formula" "hit" "Z" : Cond) ∈ lw_g := lg_mem (i := 300) (by decide +kernel) (by decide +kernel)
theorem wf_H_96 : (.fieldLink "HangGraph" 96 "HangGraph$Formula" "hit" "Z" : Cond) ∈ lw_g := lg_mem (i := 301) (by decide +kernel) (by decide +kernel)
theorem wf_F_48 : (.fieldLink "HangGraph$Formula" 48 "HangGraph$Formula" "round" "Z" : Cond) ∈ lw_g := lg_mem (i := 302) (by decide +kernel) (by decide +kernel)
theorem wf_H_100 : (.fieldLink "HangGraph" 100 "HangGraph$Formula" "round" "Z" : Cond) ∈ lw_g := lg_mem (i := 303) (by decide +kernel) (by decide +kernel)
theorem wf_S_111 : (.fieldLink "HangGraph$Sweep" 111 "HangGraph$Formula" "round" "Z" : Cond) ∈ lw_g := lg_mem (i := 304) (by decide +kernel) (by decide +kernel)
theorem wf_F_51 : (.fieldLink "HangGraph$Formula" 51 "HangGraph$Formula" "rank" "I" : Cond) ∈ lw_g := lg_mem (i := 305) (by decide +kernel) (by decide +kernel)
theorem wf_H_103 : (.fieldLink "HangGraph" 103 "HangGraph$Formula" "rank" "I" : Cond) ∈ lw_g := lg_mem (i := 306) (by decide +kernel) (by decide +kernel)
theorem wf_S_108 : (.fieldLink "HangGraph$Sweep" 108 "HangGraph$Formula" "rank" "I" : Cond) ∈ lw_g := lg_mem (i := 307) (by decide +kernel) (by decide +kernel)
theorem wf_F_54 : (.fieldLink "HangGraph$Formula" 54 "HangGraph$Formula" "number" "I" : Cond) ∈ lw_g := lg_mem (i := 308) (by decide +kernel) (by decide +kernel)
theorem wf_S_86 : (.fieldLink "HangGraph$Sweep" 86 "HangGraph$Formula" "number" "I" : Cond) ∈ lw_g := lg_mem (i := 309) (by decide +kernel) (by decide +kernel)
theorem wf_F_57 : (.fieldLink "HangGraph$Formula" 57 "HangGraph$Formula" "lowest" "I" : Cond) ∈ lw_g := lg_mem (i := 310) (by decide +kernel) (by decide +kernel)
theorem wf_S_89 : (.fieldLink "HangGraph$Sweep" 89 "HangGraph$Formula" "lowest" "I" : Cond) ∈ lw_g := lg_mem (i := 311) (by decide +kernel) (by decide +kernel)
theorem wf_F_60 : (.fieldLink "HangGraph$Formula" 60 "HangGraph$Formula" "looked" "I" : Cond) ∈ lw_g := lg_mem (i := 312) (by decide +kernel) (by decide +kernel)
theorem wf_S_92 : (.fieldLink "HangGraph$Sweep" 92 "HangGraph$Formula" "looked" "I" : Cond) ∈ lw_g := lg_mem (i := 313) (by decide +kernel) (by decide +kernel)
theorem wf_S_70 : (.fieldLink "HangGraph$Sweep" 70 "HangGraph$Formula" "settled" "Z" : Cond) ∈ lw_g := lg_mem (i := 314) (by decide +kernel) (by decide +kernel)
theorem wf_F_63 : (.fieldLink "HangGraph$Formula" 63 "HangGraph$Formula" "settled" "Z" : Cond) ∈ lw_g := lg_mem (i := 315) (by decide +kernel) (by decide +kernel)
theorem wm_H_43 : (.methodLink "HangGraph" 43 yH_cover : Cond) ∈ lw_g := lg_mem (i := 347) (by decide +kernel) (by decide +kernel)
theorem wi_H_cover : (.instanceMethod yH_cover : Cond) ∈ lw_g := lg_mem (i := 349) (by decide +kernel) (by decide +kernel)
theorem wc_H_cover : (.code yH_cover cH_cover 5 none : Cond) ∈ lw_g := lg_mem (i := 350) (by decide +kernel) (by decide +kernel)
theorem wm_L_54 : (.methodLink "HangGraphLaw" 54 yL_out : Cond) ∈ lw_g := lg_mem (i := 351) (by decide +kernel) (by decide +kernel)
theorem wt_L_out : (.static yL_out : Cond) ∈ lw_g := lg_mem (i := 352) (by decide +kernel) (by decide +kernel)
theorem wk_L_21 : (.classLink "HangGraphLaw" 21 "java/util/NoSuchElementException" : Cond) ∈ lw_g := lg_mem (i := 354) (by decide +kernel) (by decide +kernel)
theorem wm_L_17 : (.methodLink "HangGraphLaw" 17 yH_out : Cond) ∈ lw_g := lg_mem (i := 355) (by decide +kernel) (by decide +kernel)
theorem wi_H_out : (.instanceMethod yH_out : Cond) ∈ lw_g := lg_mem (i := 356) (by decide +kernel) (by decide +kernel)
theorem we_H_out : (.selects "HangGraph" yH_out yH_out : Cond) ∈ lw_g := lg_mem (i := 357) (by decide +kernel) (by decide +kernel)
theorem wc_H_out : (.code yH_out cH_out 4 (some .int) : Cond) ∈ lw_g := lg_mem (i := 358) (by decide +kernel) (by decide +kernel)
theorem wm_H_47 : (.methodLink "HangGraph" 47 yH_formulaNamed : Cond) ∈ lw_g := lg_mem (i := 359) (by decide +kernel) (by decide +kernel)
theorem wi_H_formulaNamed : (.instanceMethod yH_formulaNamed : Cond) ∈ lw_g := lg_mem (i := 361) (by decide +kernel) (by decide +kernel)
theorem wc_H_formulaNamed : (.code yH_formulaNamed cH_formulaNamed 5 (some (.object "HangGraph$Formula")) : Cond) ∈ lw_g := lg_mem (i := 362) (by decide +kernel) (by decide +kernel)
theorem wk_H_123 : (.classLink "HangGraph" 123 "java/util/NoSuchElementException" : Cond) ∈ lw_g := lg_mem (i := 363) (by decide +kernel) (by decide +kernel)
theorem wz_java_util_NoSuchElementException : (.instantiable "java/util/NoSuchElementException" 6 : Cond) ∈ lw_g := lg_mem (i := 364) (by decide +kernel) (by decide +kernel)
theorem wq_cast_java_util_NoSuchElementException : ((Jvm.Cond.castable "java/util/NoSuchElementException" "java/util/NoSuchElementException") : Cond) ∈ lw_tbl := List.mem_of_getElem? (i := 365) (by decide +kernel)
theorem wq_str_125 : ((Jvm.Cond.stringRef "HangGraph" (125 : Nat) "no formula has this first cell") : Cond) ∈ lw_tbl := List.mem_of_getElem? (i := 372) (by decide +kernel)
theorem wm_H_127 : (.methodLink "HangGraph" 127 ⟨"java/util/NoSuchElementException", "<init>", "(Ljava/lang/String;)V"⟩ : Cond) ∈ lw_g := lg_mem (i := 373) (by decide +kernel) (by decide +kernel)
theorem wi_java_util_NoSuchElementException_init_s : (.instanceMethod ⟨"java/util/NoSuchElementException", "<init>", "(Ljava/lang/String;)V"⟩ : Cond) ∈ lw_g := lg_mem (i := 374) (by decide +kernel) (by decide +kernel)
theorem wm_L_58 : (.methodLink "HangGraphLaw" 58 yL_speak : Cond) ∈ lw_g := lg_mem (i := 379) (by decide +kernel) (by decide +kernel)
theorem wt_L_speak : (.static yL_speak : Cond) ∈ lw_g := lg_mem (i := 380) (by decide +kernel) (by decide +kernel)
theorem wk_L_27 : (.classLink "HangGraphLaw" 27 "java/lang/IndexOutOfBoundsException" : Cond) ∈ lw_g := lg_mem (i := 382) (by decide +kernel) (by decide +kernel)
theorem wm_L_23 : (.methodLink "HangGraphLaw" 23 yH_speak : Cond) ∈ lw_g := lg_mem (i := 383) (by decide +kernel) (by decide +kernel)
theorem wi_H_speak : (.instanceMethod yH_speak : Cond) ∈ lw_g := lg_mem (i := 384) (by decide +kernel) (by decide +kernel)
theorem we_H_speak : (.selects "HangGraph" yH_speak yH_speak : Cond) ∈ lw_g := lg_mem (i := 385) (by decide +kernel) (by decide +kernel)
theorem wc_H_speak : (.code yH_speak cH_speak 8 (some .int) : Cond) ∈ lw_g := lg_mem (i := 386) (by decide +kernel) (by decide +kernel)
theorem wm_H_51 : (.methodLink "HangGraph" 51 yH_requireSpan : Cond) ∈ lw_g := lg_mem (i := 387) (by decide +kernel) (by decide +kernel)
theorem wt_H_requireSpan : (.static yH_requireSpan : Cond) ∈ lw_g := lg_mem (i := 388) (by decide +kernel) (by decide +kernel)
theorem wc_H_requireSpan : (.code yH_requireSpan cH_requireSpan 2 none : Cond) ∈ lw_g := lg_mem (i := 389) (by decide +kernel) (by decide +kernel)
theorem wq_str_116 : ((Jvm.Cond.stringRef "HangGraph" (116 : Nat) "the rectangle is empty or beyond the grid") : Cond) ∈ lw_tbl := List.mem_of_getElem? (i := 390) (by decide +kernel)
theorem wk_H_57 : (.classLink "HangGraph" 57 "java/lang/IndexOutOfBoundsException" : Cond) ∈ lw_g := lg_mem (i := 391) (by decide +kernel) (by decide +kernel)
theorem wz_java_lang_IndexOutOfBoundsException : (.instantiable "java/lang/IndexOutOfBoundsException" 6 : Cond) ∈ lw_g := lg_mem (i := 392) (by decide +kernel) (by decide +kernel)
theorem wq_cast_java_lang_IndexOutOfBoundsException : ((Jvm.Cond.castable "java/lang/IndexOutOfBoundsException" "java/lang/IndexOutOfBoundsException") : Cond) ∈ lw_tbl := List.mem_of_getElem? (i := 393) (by decide +kernel)
theorem wq_str_59 : ((Jvm.Cond.stringRef "HangGraph" (59 : Nat) "the formula has 20 rectangles already") : Cond) ∈ lw_tbl := List.mem_of_getElem? (i := 400) (by decide +kernel)
theorem wm_H_61 : (.methodLink "HangGraph" 61 ⟨"java/lang/IndexOutOfBoundsException", "<init>", "(Ljava/lang/String;)V"⟩ : Cond) ∈ lw_g := lg_mem (i := 401) (by decide +kernel) (by decide +kernel)
theorem wi_java_lang_IndexOutOfBoundsException_init_s : (.instanceMethod ⟨"java/lang/IndexOutOfBoundsException", "<init>", "(Ljava/lang/String;)V"⟩ : Cond) ∈ lw_g := lg_mem (i := 402) (by decide +kernel) (by decide +kernel)
theorem wm_H_64 : (.methodLink "HangGraph" 64 yF_addRectangle : Cond) ∈ lw_g := lg_mem (i := 407) (by decide +kernel) (by decide +kernel)
theorem wi_F_addRectangle : (.instanceMethod yF_addRectangle : Cond) ∈ lw_g := lg_mem (i := 408) (by decide +kernel) (by decide +kernel)
theorem we_F_addRectangle : (.selects "HangGraph$Formula" yF_addRectangle yF_addRectangle : Cond) ∈ lw_g := lg_mem (i := 409) (by decide +kernel) (by decide +kernel)
theorem wc_F_addRectangle : (.code yF_addRectangle cF_addRectangle 7 none : Cond) ∈ lw_g := lg_mem (i := 410) (by decide +kernel) (by decide +kernel)
theorem wm_L_62 : (.methodLink "HangGraphLaw" 62 yL_touch : Cond) ∈ lw_g := lg_mem (i := 411) (by decide +kernel) (by decide +kernel)
theorem wt_L_touch : (.static yL_touch : Cond) ∈ lw_g := lg_mem (i := 412) (by decide +kernel) (by decide +kernel)
theorem wm_L_29 : (.methodLink "HangGraphLaw" 29 yH_touch : Cond) ∈ lw_g := lg_mem (i := 414) (by decide +kernel) (by decide +kernel)
theorem wi_H_touch : (.instanceMethod yH_touch : Cond) ∈ lw_g := lg_mem (i := 415) (by decide +kernel) (by decide +kernel)
theorem we_H_touch : (.selects "HangGraph" yH_touch yH_touch : Cond) ∈ lw_g := lg_mem (i := 416) (by decide +kernel) (by decide +kernel)
theorem wc_H_touch : (.code yH_touch cH_touch 3 none : Cond) ∈ lw_g := lg_mem (i := 417) (by decide +kernel) (by decide +kernel)
theorem wm_H_67 : (.methodLink "HangGraph" 67 yH_columnBits : Cond) ∈ lw_g := lg_mem (i := 418) (by decide +kernel) (by decide +kernel)
theorem wm_L_70 : (.methodLink "HangGraphLaw" 70 yL_told : Cond) ∈ lw_g := lg_mem (i := 419) (by decide +kernel) (by decide +kernel)
theorem wt_L_told : (.static yL_told : Cond) ∈ lw_g := lg_mem (i := 420) (by decide +kernel) (by decide +kernel)
theorem wm_L_33 : (.methodLink "HangGraphLaw" 33 yH_told : Cond) ∈ lw_g := lg_mem (i := 422) (by decide +kernel) (by decide +kernel)
theorem wi_H_told : (.instanceMethod yH_told : Cond) ∈ lw_g := lg_mem (i := 423) (by decide +kernel) (by decide +kernel)
theorem we_H_told : (.selects "HangGraph" yH_told yH_told : Cond) ∈ lw_g := lg_mem (i := 424) (by decide +kernel) (by decide +kernel)
theorem wc_H_told : (.code yH_told cH_told 5 (some .int) : Cond) ∈ lw_g := lg_mem (i := 425) (by decide +kernel) (by decide +kernel)
theorem wq_str_93 : ((Jvm.Cond.stringRef "HangGraph" (93 : Nat) "what is not 0, 1 or 2") : Cond) ∈ lw_tbl := List.mem_of_getElem? (i := 426) (by decide +kernel)
theorem wm_L_74 : (.methodLink "HangGraphLaw" 74 yL_owner : Cond) ∈ lw_g := lg_mem (i := 427) (by decide +kernel) (by decide +kernel)
theorem wt_L_owner : (.static yL_owner : Cond) ∈ lw_g := lg_mem (i := 428) (by decide +kernel) (by decide +kernel)
theorem wm_L_37 : (.methodLink "HangGraphLaw" 37 yH_owner : Cond) ∈ lw_g := lg_mem (i := 430) (by decide +kernel) (by decide +kernel)
theorem wi_H_owner : (.instanceMethod yH_owner : Cond) ∈ lw_g := lg_mem (i := 431) (by decide +kernel) (by decide +kernel)
theorem we_H_owner : (.selects "HangGraph" yH_owner yH_owner : Cond) ∈ lw_g := lg_mem (i := 432) (by decide +kernel) (by decide +kernel)
theorem wc_H_owner : (.code yH_owner cH_owner 4 (some .int) : Cond) ∈ lw_g := lg_mem (i := 433) (by decide +kernel) (by decide +kernel)
theorem wk_L_41 : (.classLink "HangGraphLaw" 41 "HangGraphModel" : Cond) ∈ lw_g := lg_mem (i := 434) (by decide +kernel) (by decide +kernel)
theorem wz_M : (.instantiable "HangGraphModel" 13 : Cond) ∈ lw_g := lg_mem (i := 435) (by decide +kernel) (by decide +kernel)
theorem wm_L_43 : (.methodLink "HangGraphLaw" 43 yM_init : Cond) ∈ lw_g := lg_mem (i := 436) (by decide +kernel) (by decide +kernel)
theorem wi_M_init : (.instanceMethod yM_init : Cond) ∈ lw_g := lg_mem (i := 437) (by decide +kernel) (by decide +kernel)
theorem wc_M_init : (.code yM_init cM_init 1 none : Cond) ∈ lw_g := lg_mem (i := 438) (by decide +kernel) (by decide +kernel)
theorem wm_M_1 : (.methodLink "HangGraphModel" 1 ⟨"java/lang/Object", "<init>", "()V"⟩ : Cond) ∈ lw_g := lg_mem (i := 439) (by decide +kernel) (by decide +kernel)
theorem wk_M_23 : (.classLink "HangGraphModel" 23 "[[I" : Cond) ∈ lw_g := lg_mem (i := 440) (by decide +kernel) (by decide +kernel)
theorem wq_array_int : ((Jvm.Cond.arrayOver (Jvm.ClassFile.FieldType.array Jvm.ClassFile.FieldType.int)) : Cond) ∈ lw_tbl := List.mem_of_getElem? (i := 441) (by decide +kernel)
theorem wk_M_40 : (.classLink "HangGraphModel" 40 "[[Z" : Cond) ∈ lw_g := lg_mem (i := 442) (by decide +kernel) (by decide +kernel)
theorem wq_array_boolean : ((Jvm.Cond.arrayOver (Jvm.ClassFile.FieldType.array Jvm.ClassFile.FieldType.boolean)) : Cond) ∈ lw_tbl := List.mem_of_getElem? (i := 443) (by decide +kernel)
theorem wf_M_51 : (.fieldLink "HangGraphModel" 51 "HangGraphModel" "failed" "I" : Cond) ∈ lw_g := lg_mem (i := 444) (by decide +kernel) (by decide +kernel)
theorem wf_M_7 : (.fieldLink "HangGraphModel" 7 "HangGraphModel" "there" "[Z" : Cond) ∈ lw_g := lg_mem (i := 445) (by decide +kernel) (by decide +kernel)
theorem wf_M_13 : (.fieldLink "HangGraphModel" 13 "HangGraphModel" "heights" "[I" : Cond) ∈ lw_g := lg_mem (i := 446) (by decide +kernel) (by decide +kernel)
theorem wf_M_17 : (.fieldLink "HangGraphModel" 17 "HangGraphModel" "widths" "[I" : Cond) ∈ lw_g := lg_mem (i := 447) (by decide +kernel) (by decide +kernel)
theorem wf_M_20 : (.fieldLink "HangGraphModel" 20 "HangGraphModel" "counts" "[I" : Cond) ∈ lw_g := lg_mem (i := 448) (by decide +kernel) (by decide +kernel)
theorem wf_M_25 : (.fieldLink "HangGraphModel" 25 "HangGraphModel" "rectangles" "[[I" : Cond) ∈ lw_g := lg_mem (i := 449) (by decide +kernel) (by decide +kernel)
theorem wf_M_28 : (.fieldLink "HangGraphModel" 28 "HangGraphModel" "dirty" "[Z" : Cond) ∈ lw_g := lg_mem (i := 450) (by decide +kernel) (by decide +kernel)
theorem wf_M_31 : (.fieldLink "HangGraphModel" 31 "HangGraphModel" "hit" "[Z" : Cond) ∈ lw_g := lg_mem (i := 451) (by decide +kernel) (by decide +kernel)
theorem wf_M_34 : (.fieldLink "HangGraphModel" 34 "HangGraphModel" "round" "[Z" : Cond) ∈ lw_g := lg_mem (i := 452) (by decide +kernel) (by decide +kernel)
theorem wf_M_37 : (.fieldLink "HangGraphModel" 37 "HangGraphModel" "rank" "[I" : Cond) ∈ lw_g := lg_mem (i := 453) (by decide +kernel) (by decide +kernel)
theorem wf_M_42 : (.fieldLink "HangGraphModel" 42 "HangGraphModel" "hangs" "[[Z" : Cond) ∈ lw_g := lg_mem (i := 454) (by decide +kernel) (by decide +kernel)
theorem wf_M_45 : (.fieldLink "HangGraphModel" 45 "HangGraphModel" "met" "[Z" : Cond) ∈ lw_g := lg_mem (i := 455) (by decide +kernel) (by decide +kernel)
theorem wf_M_48 : (.fieldLink "HangGraphModel" 48 "HangGraphModel" "queue" "[I" : Cond) ∈ lw_g := lg_mem (i := 456) (by decide +kernel) (by decide +kernel)
theorem wa_boolean : ((Jvm.Cond.arrayClass Jvm.ClassFile.FieldType.boolean) : Cond) ∈ lw_g := lg_mem (i := 484) (by decide +kernel) (by decide +kernel)
theorem wm_L_50 : (.methodLink "HangGraphLaw" 50 yM_thrown : Cond) ∈ lw_g := lg_mem (i := 485) (by decide +kernel) (by decide +kernel)
theorem wi_M_thrown : (.instanceMethod yM_thrown : Cond) ∈ lw_g := lg_mem (i := 486) (by decide +kernel) (by decide +kernel)
theorem we_M_thrown : (.selects "HangGraphModel" yM_thrown yM_thrown : Cond) ∈ lw_g := lg_mem (i := 487) (by decide +kernel) (by decide +kernel)
theorem wc_M_thrown : (.code yM_thrown cM_thrown 1 (some .int) : Cond) ∈ lw_g := lg_mem (i := 488) (by decide +kernel) (by decide +kernel)
theorem wm_L_49 : (.methodLink "HangGraphLaw" 49 yM_put : Cond) ∈ lw_g := lg_mem (i := 489) (by decide +kernel) (by decide +kernel)
theorem wi_M_put : (.instanceMethod yM_put : Cond) ∈ lw_g := lg_mem (i := 490) (by decide +kernel) (by decide +kernel)
theorem we_M_put : (.selects "HangGraphModel" yM_put yM_put : Cond) ∈ lw_g := lg_mem (i := 491) (by decide +kernel) (by decide +kernel)
theorem wc_M_put : (.code yM_put cM_put 7 (some .int) : Cond) ∈ lw_g := lg_mem (i := 492) (by decide +kernel) (by decide +kernel)
theorem wm_M_55 : (.methodLink "HangGraphModel" 55 yM_out4 : Cond) ∈ lw_g := lg_mem (i := 493) (by decide +kernel) (by decide +kernel)
theorem wi_M_out4 : (.instanceMethod yM_out4 : Cond) ∈ lw_g := lg_mem (i := 495) (by decide +kernel) (by decide +kernel)
theorem wc_M_out4 : (.code yM_out4 cM_out4 5 (some .boolean) : Cond) ∈ lw_g := lg_mem (i := 496) (by decide +kernel) (by decide +kernel)
theorem wm_M_59 : (.methodLink "HangGraphModel" 59 yM_fail : Cond) ∈ lw_g := lg_mem (i := 497) (by decide +kernel) (by decide +kernel)
theorem wi_M_fail : (.instanceMethod yM_fail : Cond) ∈ lw_g := lg_mem (i := 499) (by decide +kernel) (by decide +kernel)
theorem wc_M_fail : (.code yM_fail cM_fail 2 (some .int) : Cond) ∈ lw_g := lg_mem (i := 500) (by decide +kernel) (by decide +kernel)
theorem wm_M_63 : (.methodLink "HangGraphModel" 63 yM_owner1 : Cond) ∈ lw_g := lg_mem (i := 501) (by decide +kernel) (by decide +kernel)
theorem wi_M_owner1 : (.instanceMethod yM_owner1 : Cond) ∈ lw_g := lg_mem (i := 503) (by decide +kernel) (by decide +kernel)
theorem wc_M_owner1 : (.code yM_owner1 cM_owner1 5 (some .int) : Cond) ∈ lw_g := lg_mem (i := 504) (by decide +kernel) (by decide +kernel)
theorem wm_M_66 : (.methodLink "HangGraphModel" 66 yM_forget : Cond) ∈ lw_g := lg_mem (i := 505) (by decide +kernel) (by decide +kernel)
theorem wi_M_forget : (.instanceMethod yM_forget : Cond) ∈ lw_g := lg_mem (i := 507) (by decide +kernel) (by decide +kernel)
theorem wc_M_forget : (.code yM_forget cM_forget 2 none : Cond) ∈ lw_g := lg_mem (i := 508) (by decide +kernel) (by decide +kernel)
theorem wm_M_70 : (.methodLink "HangGraphModel" 70 yM_count : Cond) ∈ lw_g := lg_mem (i := 509) (by decide +kernel) (by decide +kernel)
theorem wi_M_count : (.instanceMethod yM_count : Cond) ∈ lw_g := lg_mem (i := 511) (by decide +kernel) (by decide +kernel)
theorem wc_M_count : (.code yM_count cM_count 3 (some .int) : Cond) ∈ lw_g := lg_mem (i := 512) (by decide +kernel) (by decide +kernel)
theorem wm_L_57 : (.methodLink "HangGraphLaw" 57 yM_out2 : Cond) ∈ lw_g := lg_mem (i := 513) (by decide +kernel) (by decide +kernel)
theorem wi_M_out2 : (.instanceMethod yM_out2 : Cond) ∈ lw_g := lg_mem (i := 514) (by decide +kernel) (by decide +kernel)
theorem we_M_out2 : (.selects "HangGraphModel" yM_out2 yM_out2 : Cond) ∈ lw_g := lg_mem (i := 515) (by decide +kernel) (by decide +kernel)
theorem wc_M_out2 : (.code yM_out2 cM_out2 3 (some .int) : Cond) ∈ lw_g := lg_mem (i := 516) (by decide +kernel) (by decide +kernel)
theorem wm_L_61 : (.methodLink "HangGraphLaw" 61 yM_speak : Cond) ∈ lw_g := lg_mem (i := 517) (by decide +kernel) (by decide +kernel)
theorem wi_M_speak : (.instanceMethod yM_speak : Cond) ∈ lw_g := lg_mem (i := 518) (by decide +kernel) (by decide +kernel)
theorem we_M_speak : (.selects "HangGraphModel" yM_speak yM_speak : Cond) ∈ lw_g := lg_mem (i := 519) (by decide +kernel) (by decide +kernel)
theorem wc_M_speak : (.code yM_speak cM_speak 8 (some .int) : Cond) ∈ lw_g := lg_mem (i := 520) (by decide +kernel) (by decide +kernel)
theorem wm_L_65 : (.methodLink "HangGraphLaw" 65 yM_touch : Cond) ∈ lw_g := lg_mem (i := 521) (by decide +kernel) (by decide +kernel)
theorem wi_M_touch : (.instanceMethod yM_touch : Cond) ∈ lw_g := lg_mem (i := 522) (by decide +kernel) (by decide +kernel)
theorem we_M_touch : (.selects "HangGraphModel" yM_touch yM_touch : Cond) ∈ lw_g := lg_mem (i := 523) (by decide +kernel) (by decide +kernel)
theorem wc_M_touch : (.code yM_touch cM_touch 3 none : Cond) ∈ lw_g := lg_mem (i := 524) (by decide +kernel) (by decide +kernel)
theorem wm_L_69 : (.methodLink "HangGraphLaw" 69 yM_spread : Cond) ∈ lw_g := lg_mem (i := 525) (by decide +kernel) (by decide +kernel)
theorem wi_M_spread : (.instanceMethod yM_spread : Cond) ∈ lw_g := lg_mem (i := 526) (by decide +kernel) (by decide +kernel)
theorem we_M_spread : (.selects "HangGraphModel" yM_spread yM_spread : Cond) ∈ lw_g := lg_mem (i := 527) (by decide +kernel) (by decide +kernel)
theorem wc_M_spread : (.code yM_spread cM_spread 6 (some .int) : Cond) ∈ lw_g := lg_mem (i := 528) (by decide +kernel) (by decide +kernel)
theorem wm_M_78 : (.methodLink "HangGraphModel" 78 yM_survey : Cond) ∈ lw_g := lg_mem (i := 529) (by decide +kernel) (by decide +kernel)
theorem wi_M_survey : (.instanceMethod yM_survey : Cond) ∈ lw_g := lg_mem (i := 531) (by decide +kernel) (by decide +kernel)
theorem wc_M_survey : (.code yM_survey cM_survey 4 none : Cond) ∈ lw_g := lg_mem (i := 532) (by decide +kernel) (by decide +kernel)
theorem wm_M_74 : (.methodLink "HangGraphModel" 74 yM_speaks : Cond) ∈ lw_g := lg_mem (i := 533) (by decide +kernel) (by decide +kernel)
theorem wi_M_speaks : (.instanceMethod yM_speaks : Cond) ∈ lw_g := lg_mem (i := 535) (by decide +kernel) (by decide +kernel)
theorem wc_M_speaks : (.code yM_speaks cM_speaks 5 (some .boolean) : Cond) ∈ lw_g := lg_mem (i := 536) (by decide +kernel) (by decide +kernel)
theorem wm_M_81 : (.methodLink "HangGraphModel" 81 yM_comesBack : Cond) ∈ lw_g := lg_mem (i := 537) (by decide +kernel) (by decide +kernel)
theorem wi_M_comesBack : (.instanceMethod yM_comesBack : Cond) ∈ lw_g := lg_mem (i := 539) (by decide +kernel) (by decide +kernel)
theorem wc_M_comesBack : (.code yM_comesBack cM_comesBack 5 (some .boolean) : Cond) ∈ lw_g := lg_mem (i := 540) (by decide +kernel) (by decide +kernel)
theorem wm_M_85 : (.methodLink "HangGraphModel" 85 ⟨"java/lang/Math", "max", "(II)I"⟩ : Cond) ∈ lw_g := lg_mem (i := 541) (by decide +kernel) (by decide +kernel)
theorem wm_L_73 : (.methodLink "HangGraphLaw" 73 yM_told : Cond) ∈ lw_g := lg_mem (i := 542) (by decide +kernel) (by decide +kernel)
theorem wi_M_told : (.instanceMethod yM_told : Cond) ∈ lw_g := lg_mem (i := 543) (by decide +kernel) (by decide +kernel)
theorem we_M_told : (.selects "HangGraphModel" yM_told yM_told : Cond) ∈ lw_g := lg_mem (i := 544) (by decide +kernel) (by decide +kernel)
theorem wc_M_told : (.code yM_told cM_told 5 (some .int) : Cond) ∈ lw_g := lg_mem (i := 545) (by decide +kernel) (by decide +kernel)
theorem wm_L_76 : (.methodLink "HangGraphLaw" 76 yM_owner2 : Cond) ∈ lw_g := lg_mem (i := 546) (by decide +kernel) (by decide +kernel)
theorem wi_M_owner2 : (.instanceMethod yM_owner2 : Cond) ∈ lw_g := lg_mem (i := 547) (by decide +kernel) (by decide +kernel)
theorem we_M_owner2 : (.selects "HangGraphModel" yM_owner2 yM_owner2 : Cond) ∈ lw_g := lg_mem (i := 548) (by decide +kernel) (by decide +kernel)
theorem wc_M_owner2 : (.code yM_owner2 cM_owner2 3 (some .int) : Cond) ∈ lw_g := lg_mem (i := 549) (by decide +kernel) (by decide +kernel)
theorem wa_long : ((Jvm.Cond.arrayClass Jvm.ClassFile.FieldType.long) : Cond) ∈ lw_g := lg_mem (i := 550) (by decide +kernel) (by decide +kernel)
def TH : u_T := fun k => match k with
  | 0 => ("HangGraph", "over", "[LHangGraph$Formula;", true)
  | 1 => ("HangGraph", "dirtyRows", "[I", true)
  | 2 => ("HangGraph", "sweep", "LHangGraph$Sweep;", true)
  | _ => ("HangGraph", "formulaCount", "I", false)
def tyH : Nat → FieldType := fun k => match k with
  | 0 => .array (.object "HangGraph$Formula")
  | 1 => .array (.int)
  | 2 => .object "HangGraph$Sweep"
  | _ => .int
theorem nmH : ∀ a, a < 4 → ∀ b, b < 4 → a ≠ b → (TH a).2.1 ≠ (TH b).2.1 := by decide +kernel
theorem tyH_ok : ∀ k, k < 4 → parseFieldDescriptor (TH k).2.2.1 = some (tyH k) := by decide +kernel
theorem inH : ∀ w ∈ u_ws "HangGraph" TH 4, w ∈ lw_g := by decide +kernel
def TF : u_T := fun k => match k with
  | 0 => ("HangGraph$Formula", "first", "I", true)
  | 1 => ("HangGraph$Formula", "top", "I", true)
  | 2 => ("HangGraph$Formula", "left", "I", true)
  | 3 => ("HangGraph$Formula", "bottom", "I", true)
  | 4 => ("HangGraph$Formula", "right", "I", true)
  | 5 => ("HangGraph$Formula", "blockColumns", "I", true)
  | 6 => ("HangGraph$Formula", "spokenRows", "[I", true)
  | 7 => ("HangGraph$Formula", "rectangleCount", "I", false)
  | 8 => ("HangGraph$Formula", "hit", "Z", false)
  | 9 => ("HangGraph$Formula", "round", "Z", false)
  | 10 => ("HangGraph$Formula", "rank", "I", false)
  | 11 => ("HangGraph$Formula", "number", "I", false)
  | 12 => ("HangGraph$Formula", "lowest", "I", false)
  | 13 => ("HangGraph$Formula", "looked", "I", false)
  | _ => ("HangGraph$Formula", "settled", "Z", false)
def tyF : Nat → FieldType := fun k => match k with
  | 0 => .int
  | 1 => .int
  | 2 => .int
  | 3 => .int
  | 4 => .int
  | 5 => .int
  | 6 => .array (.int)
  | 7 => .int
  | 8 => .boolean
  | 9 => .boolean
  | 10 => .int
  | 11 => .int
  | 12 => .int
  | 13 => .int
  | _ => .boolean
theorem nmF : ∀ a, a < 15 → ∀ b, b < 15 → a ≠ b → (TF a).2.1 ≠ (TF b).2.1 := by decide +kernel
theorem tyF_ok : ∀ k, k < 15 → parseFieldDescriptor (TF k).2.2.1 = some (tyF k) := by decide +kernel
theorem inF : ∀ w ∈ u_ws "HangGraph$Formula" TF 15, w ∈ lw_g := by decide +kernel
def TS : u_T := fun k => match k with
  | 0 => ("HangGraph$Sweep", "live", "[LHangGraph$Formula;", true)
  | 1 => ("HangGraph$Sweep", "liveCount", "I", false)
  | 2 => ("HangGraph$Sweep", "hits", "[LHangGraph$Formula;", true)
  | 3 => ("HangGraph$Sweep", "hitCount", "I", false)
  | 4 => ("HangGraph$Sweep", "path", "[LHangGraph$Formula;", true)
  | 5 => ("HangGraph$Sweep", "pathLength", "I", false)
  | 6 => ("HangGraph$Sweep", "open", "[LHangGraph$Formula;", true)
  | 7 => ("HangGraph$Sweep", "openCount", "I", false)
  | _ => ("HangGraph$Sweep", "lastNumber", "I", false)
def tyS : Nat → FieldType := fun k => match k with
  | 0 => .array (.object "HangGraph$Formula")
  | 1 => .int
  | 2 => .array (.object "HangGraph$Formula")
  | 3 => .int
  | 4 => .array (.object "HangGraph$Formula")
  | 5 => .int
  | 6 => .array (.object "HangGraph$Formula")
  | 7 => .int
  | _ => .int
theorem nmS : ∀ a, a < 9 → ∀ b, b < 9 → a ≠ b → (TS a).2.1 ≠ (TS b).2.1 := by decide +kernel
theorem tyS_ok : ∀ k, k < 9 → parseFieldDescriptor (TS k).2.2.1 = some (tyS k) := by decide +kernel
theorem inS : ∀ w ∈ u_ws "HangGraph$Sweep" TS 9, w ∈ lw_g := by decide +kernel
def TM : u_T := fun k => match k with
  | 0 => ("HangGraphModel", "failed", "I", false)
  | 1 => ("HangGraphModel", "there", "[Z", true)
  | 2 => ("HangGraphModel", "heights", "[I", true)
  | 3 => ("HangGraphModel", "widths", "[I", true)
  | 4 => ("HangGraphModel", "counts", "[I", true)
  | 5 => ("HangGraphModel", "rectangles", "[[I", true)
  | 6 => ("HangGraphModel", "dirty", "[Z", true)
  | 7 => ("HangGraphModel", "hit", "[Z", true)
  | 8 => ("HangGraphModel", "round", "[Z", true)
  | 9 => ("HangGraphModel", "rank", "[I", true)
  | 10 => ("HangGraphModel", "hangs", "[[Z", true)
  | 11 => ("HangGraphModel", "met", "[Z", true)
  | _ => ("HangGraphModel", "queue", "[I", true)
def tyM : Nat → FieldType := fun k => match k with
  | 0 => .int
  | 1 => .array (.boolean)
  | 2 => .array (.int)
  | 3 => .array (.int)
  | 4 => .array (.int)
  | 5 => .array (.array (.int))
  | 6 => .array (.boolean)
  | 7 => .array (.boolean)
  | 8 => .array (.boolean)
  | 9 => .array (.int)
  | 10 => .array (.array (.boolean))
  | 11 => .array (.boolean)
  | _ => .array (.int)
theorem nmM : ∀ a, a < 13 → ∀ b, b < 13 → a ≠ b → (TM a).2.1 ≠ (TM b).2.1 := by decide +kernel
theorem tyM_ok : ∀ k, k < 13 → parseFieldDescriptor (TM k).2.2.1 = some (tyM k) := by decide +kernel
theorem inM : ∀ w ∈ u_ws "HangGraphModel" TM 13, w ∈ lw_g := by decide +kernel
abbrev vwCl : List vw_C := [("HangGraph", TH, 4), ("HangGraph$Formula", TF, 15), ("HangGraph$Sweep", TS, 9), ("HangGraphModel", TM, 13)]
