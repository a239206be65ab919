/-! ===== words ===== -/
theorem ez_r1 {w : Cond} (h : w ∈ tables_1_1) (g : ez_gw w = true) : w ∈ ez_T := by
  have h1 : w ∈ tables_1 := by
    unfold tables_1
    exact List.mem_append_left _ h
  exact List.mem_filter.mpr ⟨List.mem_append_right _ h1, g⟩
theorem ez_r2 {w : Cond} (h : w ∈ tables_1_2) (g : ez_gw w = true) : w ∈ ez_T := by
  have h1 : w ∈ tables_1 := by
    unfold tables_1
    exact List.mem_append_right _ (List.mem_append_left _ h)
  exact List.mem_filter.mpr ⟨List.mem_append_right _ h1, g⟩
theorem ez_r3 {w : Cond} (h : w ∈ tables_1_3) (g : ez_gw w = true) : w ∈ ez_T := by
  have h1 : w ∈ tables_1 := by
    unfold tables_1
    exact List.mem_append_right _ (List.mem_append_right _ (List.mem_append_left _ h))
  exact List.mem_filter.mpr ⟨List.mem_append_right _ h1, g⟩
theorem ez_r4 {w : Cond} (h : w ∈ tables_1_4) (g : ez_gw w = true) : w ∈ ez_T := by
  have h1 : w ∈ tables_1 := by
    unfold tables_1
    exact List.mem_append_right _ (List.mem_append_right _ (List.mem_append_right _ (List.mem_append_left _ h)))
  exact List.mem_filter.mpr ⟨List.mem_append_right _ h1, g⟩
theorem ez_r5 {w : Cond} (h : w ∈ tables_1_5) (g : ez_gw w = true) : w ∈ ez_T := by
  have h1 : w ∈ tables_1 := by
    unfold tables_1
    exact List.mem_append_right _ (List.mem_append_right _ (List.mem_append_right _ (List.mem_append_right _ (h))))
  exact List.mem_filter.mpr ⟨List.mem_append_right _ h1, g⟩
theorem ez_r0 {w : Cond} (h : w ∈ k2_sels lw_privs) (g : ez_gw w = true) : w ∈ ez_T := List.mem_filter.mpr ⟨List.mem_append_left _ h, g⟩
theorem t_0 : Cond.selects "EditionEqual" ⟨"EditionEqual", "editionOf", "(I)LEditionEqual$Edition;"⟩ ⟨"EditionEqual", "editionOf", "(I)LEditionEqual$Edition;"⟩ ∈ ez_T := ez_r0 (List.mem_of_getElem? (i := 0) rfl) rfl
theorem t_2 : Cond.selects "EditionEqual" ⟨"EditionEqual", "isNumberOfKind", "(II)Z"⟩ ⟨"EditionEqual", "isNumberOfKind", "(II)Z"⟩ ∈ ez_T := ez_r0 (List.mem_of_getElem? (i := 2) rfl) rfl
theorem t_3 : Cond.selects "EditionEqual" ⟨"EditionEqual", "forgetAnswers", "()V"⟩ ⟨"EditionEqual", "forgetAnswers", "()V"⟩ ∈ ez_T := ez_r0 (List.mem_of_getElem? (i := 3) rfl) rfl
theorem t_4 : Cond.selects "EditionEqual" ⟨"EditionEqual", "checkRow", "(I)V"⟩ ⟨"EditionEqual", "checkRow", "(I)V"⟩ ∈ ez_T := ez_r0 (List.mem_of_getElem? (i := 4) rfl) rfl
theorem t_5 : Cond.selects "EditionEqual$Edition" ⟨"EditionEqual$Edition", "firstUnwired", "()I"⟩ ⟨"EditionEqual$Edition", "firstUnwired", "()I"⟩ ∈ ez_T := ez_r0 (List.mem_of_getElem? (i := 5) rfl) rfl
theorem t_6 : Cond.selects "EditionEqual$Edition" ⟨"EditionEqual$Edition", "firstComingBack", "()I"⟩ ⟨"EditionEqual$Edition", "firstComingBack", "()I"⟩ ∈ ez_T := ez_r0 (List.mem_of_getElem? (i := 6) rfl) rfl
theorem t_7 : Cond.selects "EditionEqual" ⟨"EditionEqual", "behaviourOf", "(I)LEditionEqual$Behaviour;"⟩ ⟨"EditionEqual", "behaviourOf", "(I)LEditionEqual$Behaviour;"⟩ ∈ ez_T := ez_r0 (List.mem_of_getElem? (i := 7) rfl) rfl
theorem t_8 : Cond.selects "EditionEqual" ⟨"EditionEqual", "openRows", "()I"⟩ ⟨"EditionEqual", "openRows", "()I"⟩ ∈ ez_T := ez_r0 (List.mem_of_getElem? (i := 8) rfl) rfl
theorem t_9 : Cond.selects "EditionEqual$Behaviour" ⟨"EditionEqual$Behaviour", "orderBlocks", "()V"⟩ ⟨"EditionEqual$Behaviour", "orderBlocks", "()V"⟩ ∈ ez_T := ez_r0 (List.mem_of_getElem? (i := 9) rfl) rfl
theorem t_10 : Cond.selects "EditionEqual$Behaviour" ⟨"EditionEqual$Behaviour", "fillColumns", "(I)V"⟩ ⟨"EditionEqual$Behaviour", "fillColumns", "(I)V"⟩ ∈ ez_T := ez_r0 (List.mem_of_getElem? (i := 10) rfl) rfl
theorem t_11 : Cond.selects "EditionEqual$Behaviour" ⟨"EditionEqual$Behaviour", "workOutColumn", "(II)I"⟩ ⟨"EditionEqual$Behaviour", "workOutColumn", "(II)I"⟩ ∈ ez_T := ez_r0 (List.mem_of_getElem? (i := 11) rfl) rfl
theorem t_12 : Cond.selects "EditionEqual$Behaviour" ⟨"EditionEqual$Behaviour", "columnAt", "(II)I"⟩ ⟨"EditionEqual$Behaviour", "columnAt", "(II)I"⟩ ∈ ez_T := ez_r0 (List.mem_of_getElem? (i := 12) rfl) rfl
theorem t_13 : Cond.selects "EditionEqual$Behaviour" ⟨"EditionEqual$Behaviour", "fillTicks", "(I)V"⟩ ⟨"EditionEqual$Behaviour", "fillTicks", "(I)V"⟩ ∈ ez_T := ez_r0 (List.mem_of_getElem? (i := 13) rfl) rfl
theorem t_14 : Cond.selects "EditionEqual$Behaviour" ⟨"EditionEqual$Behaviour", "findReached", "(I)V"⟩ ⟨"EditionEqual$Behaviour", "findReached", "(I)V"⟩ ∈ ez_T := ez_r0 (List.mem_of_getElem? (i := 14) rfl) rfl
theorem t_15 : Cond.selects "EditionEqual$Behaviour" ⟨"EditionEqual$Behaviour", "placeOf", "(II)I"⟩ ⟨"EditionEqual$Behaviour", "placeOf", "(II)I"⟩ ∈ ez_T := ez_r0 (List.mem_of_getElem? (i := 15) rfl) rfl
theorem t_16 : Cond.selects "EditionEqual$Behaviour" ⟨"EditionEqual$Behaviour", "partByOuts", "(I)I"⟩ ⟨"EditionEqual$Behaviour", "partByOuts", "(I)I"⟩ ∈ ez_T := ez_r0 (List.mem_of_getElem? (i := 16) rfl) rfl
theorem t_17 : Cond.selects "EditionEqual$Behaviour" ⟨"EditionEqual$Behaviour", "partByKeys", "()I"⟩ ⟨"EditionEqual$Behaviour", "partByKeys", "()I"⟩ ∈ ez_T := ez_r0 (List.mem_of_getElem? (i := 17) rfl) rfl
theorem t_18 : Cond.selects "EditionEqual$Behaviour" ⟨"EditionEqual$Behaviour", "firstLike", "(I)I"⟩ ⟨"EditionEqual$Behaviour", "firstLike", "(I)I"⟩ ∈ ez_T := ez_r0 (List.mem_of_getElem? (i := 18) rfl) rfl
theorem t_19 : Cond.selects "EditionEqual$Behaviour" ⟨"EditionEqual$Behaviour", "partByNextClass", "(I)I"⟩ ⟨"EditionEqual$Behaviour", "partByNextClass", "(I)I"⟩ ∈ ez_T := ez_r0 (List.mem_of_getElem? (i := 19) rfl) rfl
theorem t_20 : Cond.selects "EditionEqual" ⟨"EditionEqual", "searchOfBoth", "()LEditionEqual$PairSearch;"⟩ ⟨"EditionEqual", "searchOfBoth", "()LEditionEqual$PairSearch;"⟩ ∈ ez_T := ez_r0 (List.mem_of_getElem? (i := 20) rfl) rfl
theorem t_21 : Cond.selects "EditionEqual" ⟨"EditionEqual", "checkBothRight", "()V"⟩ ⟨"EditionEqual", "checkBothRight", "()V"⟩ ∈ ez_T := ez_r0 (List.mem_of_getElem? (i := 21) rfl) rfl
theorem t_22 : Cond.selects "EditionEqual$PairSearch" ⟨"EditionEqual$PairSearch", "meet", "(IIII)V"⟩ ⟨"EditionEqual$PairSearch", "meet", "(IIII)V"⟩ ∈ ez_T := ez_r0 (List.mem_of_getElem? (i := 22) rfl) rfl
theorem t_23 : Cond.selects "EditionEqual$PairSearch" ⟨"EditionEqual$PairSearch", "goOnFrom", "(II)V"⟩ ⟨"EditionEqual$PairSearch", "goOnFrom", "(II)V"⟩ ∈ ez_T := ez_r0 (List.mem_of_getElem? (i := 23) rfl) rfl
theorem t_24 : Cond.selects "EditionEqual$PairSearch" ⟨"EditionEqual$PairSearch", "keepShown", "(II)V"⟩ ⟨"EditionEqual$PairSearch", "keepShown", "(II)V"⟩ ∈ ez_T := ez_r0 (List.mem_of_getElem? (i := 24) rfl) rfl
theorem t_25 : Cond.selects "EditionEqual$PairSearch" ⟨"EditionEqual$PairSearch", "placeBefore", "(I)I"⟩ ⟨"EditionEqual$PairSearch", "placeBefore", "(I)I"⟩ ∈ ez_T := ez_r0 (List.mem_of_getElem? (i := 25) rfl) rfl
theorem t_26 : Cond.selects "EditionEqual$Matching" ⟨"EditionEqual$Matching", "matchBoth", "(II)Z"⟩ ⟨"EditionEqual$Matching", "matchBoth", "(II)Z"⟩ ∈ ez_T := ez_r0 (List.mem_of_getElem? (i := 26) rfl) rfl
theorem t_27 : Cond.selects "EditionEqual$Matching" ⟨"EditionEqual$Matching", "areOfOneSort", "(II)Z"⟩ ⟨"EditionEqual$Matching", "areOfOneSort", "(II)Z"⟩ ∈ ez_T := ez_r0 (List.mem_of_getElem? (i := 27) rfl) rfl
theorem t_28 : Cond.selects "EditionEqual$Edition" ⟨"EditionEqual$Edition", "liveBlocks", "()I"⟩ ⟨"EditionEqual$Edition", "liveBlocks", "()I"⟩ ∈ ez_T := ez_r0 (List.mem_of_getElem? (i := 28) rfl) rfl
theorem t_29 : Cond.selects "EditionEqualModel" ⟨"EditionEqualModel", "delays", "(I)I"⟩ ⟨"EditionEqualModel", "delays", "(I)I"⟩ ∈ ez_T := ez_r0 (List.mem_of_getElem? (i := 29) rfl) rfl
theorem t_30 : Cond.selects "EditionEqualModel" ⟨"EditionEqualModel", "goes", "(ZZ)Z"⟩ ⟨"EditionEqualModel", "goes", "(ZZ)Z"⟩ ∈ ez_T := ez_r0 (List.mem_of_getElem? (i := 30) rfl) rfl
theorem t_31 : Cond.selects "EditionEqualModel" ⟨"EditionEqualModel", "isBlock", "(II)Z"⟩ ⟨"EditionEqualModel", "isBlock", "(II)Z"⟩ ∈ ez_T := ez_r0 (List.mem_of_getElem? (i := 31) rfl) rfl
theorem t_32 : Cond.selects "EditionEqualModel" ⟨"EditionEqualModel", "input", "(III)I"⟩ ⟨"EditionEqualModel", "input", "(III)I"⟩ ∈ ez_T := ez_r0 (List.mem_of_getElem? (i := 32) rfl) rfl
theorem t_33 : Cond.selects "EditionEqualModel" ⟨"EditionEqualModel", "isRow", "(I)Z"⟩ ⟨"EditionEqualModel", "isRow", "(I)Z"⟩ ∈ ez_T := ez_r0 (List.mem_of_getElem? (i := 33) rfl) rfl
theorem t_34 : Cond.selects "EditionEqualModel" ⟨"EditionEqualModel", "fault", "(I)I"⟩ ⟨"EditionEqualModel", "fault", "(I)I"⟩ ∈ ez_T := ez_r0 (List.mem_of_getElem? (i := 34) rfl) rfl
theorem t_35 : Cond.selects "EditionEqualModel" ⟨"EditionEqualModel", "isRound", "(II)Z"⟩ ⟨"EditionEqualModel", "isRound", "(II)Z"⟩ ∈ ez_T := ez_r0 (List.mem_of_getElem? (i := 35) rfl) rfl
theorem t_36 : Cond.selects "EditionEqualModel" ⟨"EditionEqualModel", "mark", "(II)Z"⟩ ⟨"EditionEqualModel", "mark", "(II)Z"⟩ ∈ ez_T := ez_r0 (List.mem_of_getElem? (i := 36) rfl) rfl
theorem t_37 : Cond.selects "EditionEqualModel" ⟨"EditionEqualModel", "isRight", "(I)Z"⟩ ⟨"EditionEqualModel", "isRight", "(I)Z"⟩ ∈ ez_T := ez_r0 (List.mem_of_getElem? (i := 37) rfl) rfl
theorem t_38 : Cond.selects "EditionEqualModel" ⟨"EditionEqualModel", "settle", "(III)V"⟩ ⟨"EditionEqualModel", "settle", "(III)V"⟩ ∈ ez_T := ez_r0 (List.mem_of_getElem? (i := 38) rfl) rfl
theorem t_39 : Cond.selects "EditionEqualModel" ⟨"EditionEqualModel", "reckon", "(II)I"⟩ ⟨"EditionEqualModel", "reckon", "(II)I"⟩ ∈ ez_T := ez_r0 (List.mem_of_getElem? (i := 39) rfl) rfl
theorem t_40 : Cond.selects "EditionEqualModel" ⟨"EditionEqualModel", "answer", "(III)I"⟩ ⟨"EditionEqualModel", "answer", "(III)I"⟩ ∈ ez_T := ez_r0 (List.mem_of_getElem? (i := 40) rfl) rfl
theorem t_41 : Cond.selects "EditionEqualModel" ⟨"EditionEqualModel", "explore", "(I)V"⟩ ⟨"EditionEqualModel", "explore", "(I)V"⟩ ∈ ez_T := ez_r0 (List.mem_of_getElem? (i := 41) rfl) rfl
theorem t_42 : Cond.selects "EditionEqualModel" ⟨"EditionEqualModel", "reachedCount", "(I)I"⟩ ⟨"EditionEqualModel", "reachedCount", "(I)I"⟩ ∈ ez_T := ez_r0 (List.mem_of_getElem? (i := 42) rfl) rfl
theorem t_43 : Cond.selects "EditionEqualModel" ⟨"EditionEqualModel", "tells", "(III)Z"⟩ ⟨"EditionEqualModel", "tells", "(III)Z"⟩ ∈ ez_T := ez_r0 (List.mem_of_getElem? (i := 43) rfl) rfl
theorem t_44 : Cond.selects "EditionEqualModel" ⟨"EditionEqualModel", "areRight", "()Z"⟩ ⟨"EditionEqualModel", "areRight", "()Z"⟩ ∈ ez_T := ez_r0 (List.mem_of_getElem? (i := 44) rfl) rfl
theorem t_45 : Cond.selects "EditionEqualModel" ⟨"EditionEqualModel", "goOver", "()V"⟩ ⟨"EditionEqualModel", "goOver", "()V"⟩ ∈ ez_T := ez_r0 (List.mem_of_getElem? (i := 45) rfl) rfl
theorem t_46 : Cond.selects "EditionEqualModel" ⟨"EditionEqualModel", "meet", "(III)V"⟩ ⟨"EditionEqualModel", "meet", "(III)V"⟩ ∈ ez_T := ez_r0 (List.mem_of_getElem? (i := 46) rfl) rfl
theorem t_47 : Cond.selects "EditionEqualModel" ⟨"EditionEqualModel", "shownCount", "()I"⟩ ⟨"EditionEqualModel", "shownCount", "()I"⟩ ∈ ez_T := ez_r0 (List.mem_of_getElem? (i := 47) rfl) rfl
theorem t_48 : Cond.selects "EditionEqualModel" ⟨"EditionEqualModel", "areSame", "()Z"⟩ ⟨"EditionEqualModel", "areSame", "()Z"⟩ ∈ ez_T := ez_r0 (List.mem_of_getElem? (i := 48) rfl) rfl
theorem t_49 : Cond.selects "EditionEqualModel" ⟨"EditionEqualModel", "areSingle", "()Z"⟩ ⟨"EditionEqualModel", "areSingle", "()Z"⟩ ∈ ez_T := ez_r0 (List.mem_of_getElem? (i := 49) rfl) rfl
theorem t_50 : Cond.initialized "EditionEqualLaw" ∈ ez_T := ez_r1 (List.mem_of_getElem? (i := 0) rfl) rfl
theorem t_51 : Cond.initialized "EditionEqual" ∈ ez_T := ez_r1 (List.mem_of_getElem? (i := 1) rfl) rfl
theorem t_52 : Cond.initialized "java/lang/Math" ∈ ez_T := ez_r1 (List.mem_of_getElem? (i := 2) rfl) rfl
theorem t_53 : Cond.initialized "EditionEqual$Edition" ∈ ez_T := ez_r1 (List.mem_of_getElem? (i := 3) rfl) rfl
theorem t_54 : Cond.initialized "java/util/Arrays" ∈ ez_T := ez_r1 (List.mem_of_getElem? (i := 4) rfl) rfl
theorem t_55 : Cond.initialized "EditionEqual$Behaviour" ∈ ez_T := ez_r1 (List.mem_of_getElem? (i := 5) rfl) rfl
theorem t_56 : Cond.initialized "EditionEqual$PairSearch" ∈ ez_T := ez_r1 (List.mem_of_getElem? (i := 6) rfl) rfl
theorem t_57 : Cond.initialized "EditionEqual$Matching" ∈ ez_T := ez_r1 (List.mem_of_getElem? (i := 7) rfl) rfl
theorem t_58 : Cond.initialized "EditionEqualModel" ∈ ez_T := ez_r1 (List.mem_of_getElem? (i := 8) rfl) rfl
theorem t_59 : Cond.initialized "java/lang/Throwable" ∈ ez_T := ez_r1 (List.mem_of_getElem? (i := 9) rfl) rfl
theorem t_60 : Cond.initialized "java/lang/Exception" ∈ ez_T := ez_r1 (List.mem_of_getElem? (i := 10) rfl) rfl
theorem t_61 : Cond.initialized "java/lang/RuntimeException" ∈ ez_T := ez_r1 (List.mem_of_getElem? (i := 11) rfl) rfl
theorem t_62 : Cond.initialized "java/lang/IllegalArgumentException" ∈ ez_T := ez_r1 (List.mem_of_getElem? (i := 12) rfl) rfl
theorem t_63 : Cond.initialized "java/lang/IllegalStateException" ∈ ez_T := ez_r1 (List.mem_of_getElem? (i := 13) rfl) rfl
theorem t_64 : Cond.initialized "java/lang/Integer" ∈ ez_T := ez_r1 (List.mem_of_getElem? (i := 14) rfl) rfl
theorem t_65 : Cond.initialized "java/lang/System" ∈ ez_T := ez_r1 (List.mem_of_getElem? (i := 15) rfl) rfl
theorem t_66 : Cond.classLink "EditionEqualLaw" 8 "EditionEqual" ∈ ez_T := ez_r1 (List.mem_of_getElem? (i := 16) rfl) rfl
theorem t_70 : Cond.code ⟨"EditionEqual", "<init>", "(I)V"⟩ prog_1_method_1_code 2 none ∈ ez_T := ez_r1 (List.mem_of_getElem? (i := 20) rfl) rfl
theorem t_74 : Cond.methodLink "EditionEqual" 9 ⟨"java/lang/Math", "min", "(II)I"⟩ ∈ ez_T := ez_r1 (List.mem_of_getElem? (i := 24) rfl) rfl
theorem t_75 : Cond.static ⟨"java/lang/Math", "min", "(II)I"⟩ ∈ ez_T := ez_r1 (List.mem_of_getElem? (i := 25) rfl) rfl
theorem t_76 : Cond.code ⟨"java/lang/Math", "min", "(II)I"⟩ prog_12_method_69_code 2 (some .int) ∈ ez_T := ez_r1 (List.mem_of_getElem? (i := 26) rfl) rfl
theorem t_77 : Cond.methodLink "EditionEqual" 15 ⟨"java/lang/Math", "max", "(II)I"⟩ ∈ ez_T := ez_r1 (List.mem_of_getElem? (i := 27) rfl) rfl
theorem t_78 : Cond.static ⟨"java/lang/Math", "max", "(II)I"⟩ ∈ ez_T := ez_r1 (List.mem_of_getElem? (i := 28) rfl) rfl
theorem t_79 : Cond.code ⟨"java/lang/Math", "max", "(II)I"⟩ prog_12_method_65_code 2 (some .int) ∈ ez_T := ez_r1 (List.mem_of_getElem? (i := 29) rfl) rfl
theorem t_80 : Cond.classLink "EditionEqual" 25 "EditionEqual$Edition" ∈ ez_T := ez_r1 (List.mem_of_getElem? (i := 30) rfl) rfl
theorem t_82 : Cond.methodLink "EditionEqual" 27 ⟨"EditionEqual$Edition", "<init>", "()V"⟩ ∈ ez_T := ez_r1 (List.mem_of_getElem? (i := 32) rfl) rfl
theorem t_83 : Cond.instanceMethod ⟨"EditionEqual$Edition", "<init>", "()V"⟩ ∈ ez_T := ez_r1 (List.mem_of_getElem? (i := 33) rfl) rfl
theorem t_84 : Cond.code ⟨"EditionEqual$Edition", "<init>", "()V"⟩ prog_3_method_1_code 1 none ∈ ez_T := ez_r1 (List.mem_of_getElem? (i := 34) rfl) rfl
theorem t_86 : Cond.methodLink "EditionEqual$Edition" 43 ⟨"java/util/Arrays", "fill", "([II)V"⟩ ∈ ez_T := ez_r1 (List.mem_of_getElem? (i := 36) rfl) rfl
theorem t_87 : Cond.static ⟨"java/util/Arrays", "fill", "([II)V"⟩ ∈ ez_T := ez_r1 (List.mem_of_getElem? (i := 37) rfl) rfl
theorem t_88 : Cond.code ⟨"java/util/Arrays", "fill", "([II)V"⟩ prog_17_method_103_code 4 none ∈ ez_T := ez_r1 (List.mem_of_getElem? (i := 38) rfl) rfl
theorem t_89 : Cond.fieldLink "EditionEqual$Edition" 9 "EditionEqual$Edition" "kinds" "[I" ∈ ez_T := ez_r1 (List.mem_of_getElem? (i := 39) rfl) rfl
theorem t_90 : Cond.fieldLink "EditionEqual$Edition" 15 "EditionEqual$Edition" "numbers" "[I" ∈ ez_T := ez_r1 (List.mem_of_getElem? (i := 40) rfl) rfl
theorem t_91 : Cond.fieldLink "EditionEqual$Edition" 18 "EditionEqual$Edition" "neededInputs" "[I" ∈ ez_T := ez_r1 (List.mem_of_getElem? (i := 41) rfl) rfl
theorem t_92 : Cond.fieldLink "EditionEqual$Edition" 21 "EditionEqual$Edition" "wires" "[I" ∈ ez_T := ez_r1 (List.mem_of_getElem? (i := 42) rfl) rfl
theorem t_93 : Cond.fieldLink "EditionEqual$Edition" 24 "EditionEqual$Edition" "neededBlocks" "[I" ∈ ez_T := ez_r1 (List.mem_of_getElem? (i := 43) rfl) rfl
theorem t_94 : Cond.fieldLink "EditionEqual$Edition" 27 "EditionEqual$Edition" "outputs" "[I" ∈ ez_T := ez_r1 (List.mem_of_getElem? (i := 44) rfl) rfl
theorem t_95 : Cond.fieldLink "EditionEqual$Edition" 30 "EditionEqual$Edition" "delays" "[I" ∈ ez_T := ez_r1 (List.mem_of_getElem? (i := 45) rfl) rfl
theorem t_96 : Cond.fieldLink "EditionEqual$Edition" 33 "EditionEqual$Edition" "ahead" "[I" ∈ ez_T := ez_r1 (List.mem_of_getElem? (i := 46) rfl) rfl
theorem t_97 : Cond.fieldLink "EditionEqual$Edition" 36 "EditionEqual$Edition" "blockCount" "I" ∈ ez_T := ez_r1 (List.mem_of_getElem? (i := 47) rfl) rfl
theorem t_98 : Cond.fieldLink "EditionEqual$Edition" 40 "EditionEqual$Edition" "delayCount" "I" ∈ ez_T := ez_r1 (List.mem_of_getElem? (i := 48) rfl) rfl
theorem t_99 : Cond.laysFinal "EditionEqual$Edition" "EditionEqual$Edition" "kinds" "[I" ∈ ez_T := ez_r1 (List.mem_of_getElem? (i := 49) rfl) rfl
theorem t_101 : Cond.laysFinal "EditionEqual$Edition" "EditionEqual$Edition" "numbers" "[I" ∈ ez_T := ez_r1 (List.mem_of_getElem? (i := 51) rfl) rfl
theorem t_103 : Cond.laysFinal "EditionEqual$Edition" "EditionEqual$Edition" "neededInputs" "[I" ∈ ez_T := ez_r1 (List.mem_of_getElem? (i := 53) rfl) rfl
theorem t_105 : Cond.laysFinal "EditionEqual$Edition" "EditionEqual$Edition" "wires" "[I" ∈ ez_T := ez_r1 (List.mem_of_getElem? (i := 55) rfl) rfl
theorem t_107 : Cond.laysFinal "EditionEqual$Edition" "EditionEqual$Edition" "neededBlocks" "[I" ∈ ez_T := ez_r1 (List.mem_of_getElem? (i := 57) rfl) rfl
theorem t_109 : Cond.laysFinal "EditionEqual$Edition" "EditionEqual$Edition" "outputs" "[I" ∈ ez_T := ez_r1 (List.mem_of_getElem? (i := 59) rfl) rfl
theorem t_111 : Cond.laysFinal "EditionEqual$Edition" "EditionEqual$Edition" "delays" "[I" ∈ ez_T := ez_r1 (List.mem_of_getElem? (i := 61) rfl) rfl
theorem t_113 : Cond.laysFinal "EditionEqual$Edition" "EditionEqual$Edition" "ahead" "[I" ∈ ez_T := ez_r1 (List.mem_of_getElem? (i := 63) rfl) rfl
theorem t_115 : Cond.lays "EditionEqual$Edition" "EditionEqual$Edition" "blockCount" "I" ∈ ez_T := ez_r1 (List.mem_of_getElem? (i := 65) rfl) rfl
theorem t_117 : Cond.lays "EditionEqual$Edition" "EditionEqual$Edition" "delayCount" "I" ∈ ez_T := ez_r1 (List.mem_of_getElem? (i := 67) rfl) rfl
theorem t_121 : Cond.classLink "EditionEqual" 35 "EditionEqual$Behaviour" ∈ ez_T := ez_r1 (List.mem_of_getElem? (i := 71) rfl) rfl
theorem t_123 : Cond.methodLink "EditionEqual" 37 ⟨"EditionEqual$Behaviour", "<init>", "(LEditionEqual$Edition;)V"⟩ ∈ ez_T := ez_r1 (List.mem_of_getElem? (i := 73) rfl) rfl
theorem t_124 : Cond.instanceMethod ⟨"EditionEqual$Behaviour", "<init>", "(LEditionEqual$Edition;)V"⟩ ∈ ez_T := ez_r1 (List.mem_of_getElem? (i := 74) rfl) rfl
theorem t_125 : Cond.code ⟨"EditionEqual$Behaviour", "<init>", "(LEditionEqual$Edition;)V"⟩ prog_2_method_1_code 2 none ∈ ez_T := ez_r1 (List.mem_of_getElem? (i := 75) rfl) rfl
theorem t_127 : Cond.fieldLink "EditionEqual$Behaviour" 50 "EditionEqual$Behaviour" "edition" "LEditionEqual$Edition;" ∈ ez_T := ez_r1 (List.mem_of_getElem? (i := 77) rfl) rfl
theorem t_128 : Cond.fieldLink "EditionEqual$Behaviour" 9 "EditionEqual$Behaviour" "order" "[I" ∈ ez_T := ez_r1 (List.mem_of_getElem? (i := 78) rfl) rfl
theorem t_129 : Cond.fieldLink "EditionEqual$Behaviour" 15 "EditionEqual$Behaviour" "columns" "[I" ∈ ez_T := ez_r1 (List.mem_of_getElem? (i := 79) rfl) rfl
theorem t_130 : Cond.fieldLink "EditionEqual$Behaviour" 18 "EditionEqual$Behaviour" "outs" "[I" ∈ ez_T := ez_r1 (List.mem_of_getElem? (i := 80) rfl) rfl
theorem t_131 : Cond.fieldLink "EditionEqual$Behaviour" 21 "EditionEqual$Behaviour" "nextStates" "[I" ∈ ez_T := ez_r1 (List.mem_of_getElem? (i := 81) rfl) rfl
theorem t_132 : Cond.fieldLink "EditionEqual$Behaviour" 24 "EditionEqual$Behaviour" "queue" "[I" ∈ ez_T := ez_r1 (List.mem_of_getElem? (i := 82) rfl) rfl
theorem t_133 : Cond.fieldLink "EditionEqual$Behaviour" 27 "EditionEqual$Behaviour" "classes" "[I" ∈ ez_T := ez_r1 (List.mem_of_getElem? (i := 83) rfl) rfl
theorem t_134 : Cond.fieldLink "EditionEqual$Behaviour" 30 "EditionEqual$Behaviour" "keys" "[I" ∈ ez_T := ez_r1 (List.mem_of_getElem? (i := 84) rfl) rfl
theorem t_135 : Cond.fieldLink "EditionEqual$Behaviour" 33 "EditionEqual$Behaviour" "newClasses" "[I" ∈ ez_T := ez_r1 (List.mem_of_getElem? (i := 85) rfl) rfl
theorem t_136 : Cond.fieldLink "EditionEqual$Behaviour" 36 "EditionEqual$Behaviour" "orderedCount" "I" ∈ ez_T := ez_r1 (List.mem_of_getElem? (i := 86) rfl) rfl
theorem t_137 : Cond.fieldLink "EditionEqual$Behaviour" 40 "EditionEqual$Behaviour" "stateCount" "I" ∈ ez_T := ez_r1 (List.mem_of_getElem? (i := 87) rfl) rfl
theorem t_138 : Cond.fieldLink "EditionEqual$Behaviour" 43 "EditionEqual$Behaviour" "reachedStates" "I" ∈ ez_T := ez_r1 (List.mem_of_getElem? (i := 88) rfl) rfl
theorem t_139 : Cond.fieldLink "EditionEqual$Behaviour" 46 "EditionEqual$Behaviour" "known" "Z" ∈ ez_T := ez_r1 (List.mem_of_getElem? (i := 89) rfl) rfl
theorem t_140 : Cond.laysFinal "EditionEqual$Behaviour" "EditionEqual$Behaviour" "edition" "LEditionEqual$Edition;" ∈ ez_T := ez_r1 (List.mem_of_getElem? (i := 90) rfl) rfl
theorem t_142 : Cond.laysFinal "EditionEqual$Behaviour" "EditionEqual$Behaviour" "order" "[I" ∈ ez_T := ez_r1 (List.mem_of_getElem? (i := 92) rfl) rfl
theorem t_144 : Cond.laysFinal "EditionEqual$Behaviour" "EditionEqual$Behaviour" "columns" "[I" ∈ ez_T := ez_r1 (List.mem_of_getElem? (i := 94) rfl) rfl
theorem t_146 : Cond.laysFinal "EditionEqual$Behaviour" "EditionEqual$Behaviour" "outs" "[I" ∈ ez_T := ez_r1 (List.mem_of_getElem? (i := 96) rfl) rfl
theorem t_148 : Cond.laysFinal "EditionEqual$Behaviour" "EditionEqual$Behaviour" "nextStates" "[I" ∈ ez_T := ez_r1 (List.mem_of_getElem? (i := 98) rfl) rfl
theorem t_150 : Cond.laysFinal "EditionEqual$Behaviour" "EditionEqual$Behaviour" "queue" "[I" ∈ ez_T := ez_r1 (List.mem_of_getElem? (i := 100) rfl) rfl
theorem t_152 : Cond.laysFinal "EditionEqual$Behaviour" "EditionEqual$Behaviour" "classes" "[I" ∈ ez_T := ez_r1 (List.mem_of_getElem? (i := 102) rfl) rfl
theorem t_154 : Cond.laysFinal "EditionEqual$Behaviour" "EditionEqual$Behaviour" "keys" "[I" ∈ ez_T := ez_r1 (List.mem_of_getElem? (i := 104) rfl) rfl
theorem t_156 : Cond.laysFinal "EditionEqual$Behaviour" "EditionEqual$Behaviour" "newClasses" "[I" ∈ ez_T := ez_r1 (List.mem_of_getElem? (i := 106) rfl) rfl
theorem t_158 : Cond.lays "EditionEqual$Behaviour" "EditionEqual$Behaviour" "orderedCount" "I" ∈ ez_T := ez_r1 (List.mem_of_getElem? (i := 108) rfl) rfl
theorem t_160 : Cond.lays "EditionEqual$Behaviour" "EditionEqual$Behaviour" "stateCount" "I" ∈ ez_T := ez_r1 (List.mem_of_getElem? (i := 110) rfl) rfl
theorem t_162 : Cond.lays "EditionEqual$Behaviour" "EditionEqual$Behaviour" "reachedStates" "I" ∈ ez_T := ez_r1 (List.mem_of_getElem? (i := 112) rfl) rfl
theorem t_164 : Cond.lays "EditionEqual$Behaviour" "EditionEqual$Behaviour" "known" "Z" ∈ ez_T := ez_r1 (List.mem_of_getElem? (i := 114) rfl) rfl
theorem t_167 : Cond.classLink "EditionEqual" 47 "EditionEqual$PairSearch" ∈ ez_T := ez_r1 (List.mem_of_getElem? (i := 117) rfl) rfl
theorem t_169 : Cond.methodLink "EditionEqual" 49 ⟨"EditionEqual$PairSearch", "<init>", "(LEditionEqual$Behaviour;LEditionEqual$Behaviour;)V"⟩ ∈ ez_T := ez_r1 (List.mem_of_getElem? (i := 119) rfl) rfl
theorem t_170 : Cond.instanceMethod ⟨"EditionEqual$PairSearch", "<init>", "(LEditionEqual$Behaviour;LEditionEqual$Behaviour;)V"⟩ ∈ ez_T := ez_r1 (List.mem_of_getElem? (i := 120) rfl) rfl
theorem t_171 : Cond.code ⟨"EditionEqual$PairSearch", "<init>", "(LEditionEqual$Behaviour;LEditionEqual$Behaviour;)V"⟩ prog_5_method_1_code 3 none ∈ ez_T := ez_r1 (List.mem_of_getElem? (i := 121) rfl) rfl
theorem t_173 : Cond.fieldLink "EditionEqual$PairSearch" 47 "EditionEqual$PairSearch" "first" "LEditionEqual$Behaviour;" ∈ ez_T := ez_r1 (List.mem_of_getElem? (i := 123) rfl) rfl
theorem t_174 : Cond.fieldLink "EditionEqual$PairSearch" 51 "EditionEqual$PairSearch" "second" "LEditionEqual$Behaviour;" ∈ ez_T := ez_r1 (List.mem_of_getElem? (i := 124) rfl) rfl
theorem t_175 : Cond.fieldLink "EditionEqual$PairSearch" 9 "EditionEqual$PairSearch" "met" "[I" ∈ ez_T := ez_r1 (List.mem_of_getElem? (i := 125) rfl) rfl
theorem t_176 : Cond.fieldLink "EditionEqual$PairSearch" 15 "EditionEqual$PairSearch" "queue" "[I" ∈ ez_T := ez_r1 (List.mem_of_getElem? (i := 126) rfl) rfl
theorem t_177 : Cond.fieldLink "EditionEqual$PairSearch" 18 "EditionEqual$PairSearch" "cameFrom" "[I" ∈ ez_T := ez_r1 (List.mem_of_getElem? (i := 127) rfl) rfl
theorem t_178 : Cond.fieldLink "EditionEqual$PairSearch" 21 "EditionEqual$PairSearch" "cameBy" "[I" ∈ ez_T := ez_r1 (List.mem_of_getElem? (i := 128) rfl) rfl
theorem t_179 : Cond.fieldLink "EditionEqual$PairSearch" 24 "EditionEqual$PairSearch" "pairCount" "I" ∈ ez_T := ez_r1 (List.mem_of_getElem? (i := 129) rfl) rfl
theorem t_180 : Cond.fieldLink "EditionEqual$PairSearch" 28 "EditionEqual$PairSearch" "shownCount" "I" ∈ ez_T := ez_r1 (List.mem_of_getElem? (i := 130) rfl) rfl
theorem t_181 : Cond.fieldLink "EditionEqual$PairSearch" 31 "EditionEqual$PairSearch" "shownFrom" "I" ∈ ez_T := ez_r1 (List.mem_of_getElem? (i := 131) rfl) rfl
theorem t_182 : Cond.fieldLink "EditionEqual$PairSearch" 34 "EditionEqual$PairSearch" "shownLast" "I" ∈ ez_T := ez_r1 (List.mem_of_getElem? (i := 132) rfl) rfl
theorem t_183 : Cond.fieldLink "EditionEqual$PairSearch" 37 "EditionEqual$PairSearch" "firstOuts" "I" ∈ ez_T := ez_r1 (List.mem_of_getElem? (i := 133) rfl) rfl
theorem t_184 : Cond.fieldLink "EditionEqual$PairSearch" 40 "EditionEqual$PairSearch" "secondOuts" "I" ∈ ez_T := ez_r1 (List.mem_of_getElem? (i := 134) rfl) rfl
theorem t_185 : Cond.fieldLink "EditionEqual$PairSearch" 43 "EditionEqual$PairSearch" "known" "Z" ∈ ez_T := ez_r1 (List.mem_of_getElem? (i := 135) rfl) rfl
theorem t_186 : Cond.laysFinal "EditionEqual$PairSearch" "EditionEqual$PairSearch" "first" "LEditionEqual$Behaviour;" ∈ ez_T := ez_r1 (List.mem_of_getElem? (i := 136) rfl) rfl
theorem t_188 : Cond.laysFinal "EditionEqual$PairSearch" "EditionEqual$PairSearch" "second" "LEditionEqual$Behaviour;" ∈ ez_T := ez_r1 (List.mem_of_getElem? (i := 138) rfl) rfl
theorem t_190 : Cond.laysFinal "EditionEqual$PairSearch" "EditionEqual$PairSearch" "met" "[I" ∈ ez_T := ez_r1 (List.mem_of_getElem? (i := 140) rfl) rfl
theorem t_192 : Cond.laysFinal "EditionEqual$PairSearch" "EditionEqual$PairSearch" "queue" "[I" ∈ ez_T := ez_r1 (List.mem_of_getElem? (i := 142) rfl) rfl
theorem t_194 : Cond.laysFinal "EditionEqual$PairSearch" "EditionEqual$PairSearch" "cameFrom" "[I" ∈ ez_T := ez_r1 (List.mem_of_getElem? (i := 144) rfl) rfl
theorem t_196 : Cond.laysFinal "EditionEqual$PairSearch" "EditionEqual$PairSearch" "cameBy" "[I" ∈ ez_T := ez_r1 (List.mem_of_getElem? (i := 146) rfl) rfl
theorem t_198 : Cond.lays "EditionEqual$PairSearch" "EditionEqual$PairSearch" "pairCount" "I" ∈ ez_T := ez_r1 (List.mem_of_getElem? (i := 148) rfl) rfl
theorem t_200 : Cond.lays "EditionEqual$PairSearch" "EditionEqual$PairSearch" "shownCount" "I" ∈ ez_T := ez_r1 (List.mem_of_getElem? (i := 150) rfl) rfl
theorem t_202 : Cond.lays "EditionEqual$PairSearch" "EditionEqual$PairSearch" "shownFrom" "I" ∈ ez_T := ez_r1 (List.mem_of_getElem? (i := 152) rfl) rfl
theorem t_204 : Cond.lays "EditionEqual$PairSearch" "EditionEqual$PairSearch" "shownLast" "I" ∈ ez_T := ez_r1 (List.mem_of_getElem? (i := 154) rfl) rfl
theorem t_206 : Cond.lays "EditionEqual$PairSearch" "EditionEqual$PairSearch" "firstOuts" "I" ∈ ez_T := ez_r1 (List.mem_of_getElem? (i := 156) rfl) rfl
theorem t_208 : Cond.lays "EditionEqual$PairSearch" "EditionEqual$PairSearch" "secondOuts" "I" ∈ ez_T := ez_r1 (List.mem_of_getElem? (i := 158) rfl) rfl
theorem t_210 : Cond.lays "EditionEqual$PairSearch" "EditionEqual$PairSearch" "known" "Z" ∈ ez_T := ez_r1 (List.mem_of_getElem? (i := 160) rfl) rfl
theorem t_213 : Cond.classLink "EditionEqual" 56 "EditionEqual$Matching" ∈ ez_T := ez_r1 (List.mem_of_getElem? (i := 163) rfl) rfl
theorem t_215 : Cond.methodLink "EditionEqual" 58 ⟨"EditionEqual$Matching", "<init>", "(LEditionEqual$Edition;LEditionEqual$Edition;)V"⟩ ∈ ez_T := ez_r1 (List.mem_of_getElem? (i := 165) rfl) rfl
theorem t_216 : Cond.instanceMethod ⟨"EditionEqual$Matching", "<init>", "(LEditionEqual$Edition;LEditionEqual$Edition;)V"⟩ ∈ ez_T := ez_r1 (List.mem_of_getElem? (i := 166) rfl) rfl
theorem t_217 : Cond.code ⟨"EditionEqual$Matching", "<init>", "(LEditionEqual$Edition;LEditionEqual$Edition;)V"⟩ prog_4_method_1_code 3 none ∈ ez_T := ez_r1 (List.mem_of_getElem? (i := 167) rfl) rfl
theorem t_219 : Cond.fieldLink "EditionEqual$Matching" 25 "EditionEqual$Matching" "first" "LEditionEqual$Edition;" ∈ ez_T := ez_r1 (List.mem_of_getElem? (i := 169) rfl) rfl
theorem t_220 : Cond.fieldLink "EditionEqual$Matching" 29 "EditionEqual$Matching" "second" "LEditionEqual$Edition;" ∈ ez_T := ez_r1 (List.mem_of_getElem? (i := 170) rfl) rfl
theorem t_221 : Cond.fieldLink "EditionEqual$Matching" 9 "EditionEqual$Matching" "partners" "[I" ∈ ez_T := ez_r1 (List.mem_of_getElem? (i := 171) rfl) rfl
theorem t_222 : Cond.fieldLink "EditionEqual$Matching" 15 "EditionEqual$Matching" "partnersBack" "[I" ∈ ez_T := ez_r1 (List.mem_of_getElem? (i := 172) rfl) rfl
theorem t_223 : Cond.fieldLink "EditionEqual$Matching" 18 "EditionEqual$Matching" "queue" "[I" ∈ ez_T := ez_r1 (List.mem_of_getElem? (i := 173) rfl) rfl
theorem t_224 : Cond.fieldLink "EditionEqual$Matching" 21 "EditionEqual$Matching" "matchCount" "I" ∈ ez_T := ez_r1 (List.mem_of_getElem? (i := 174) rfl) rfl
theorem t_225 : Cond.laysFinal "EditionEqual$Matching" "EditionEqual$Matching" "first" "LEditionEqual$Edition;" ∈ ez_T := ez_r1 (List.mem_of_getElem? (i := 175) rfl) rfl
theorem t_227 : Cond.laysFinal "EditionEqual$Matching" "EditionEqual$Matching" "second" "LEditionEqual$Edition;" ∈ ez_T := ez_r1 (List.mem_of_getElem? (i := 177) rfl) rfl
theorem t_229 : Cond.laysFinal "EditionEqual$Matching" "EditionEqual$Matching" "partners" "[I" ∈ ez_T := ez_r1 (List.mem_of_getElem? (i := 179) rfl) rfl
theorem t_231 : Cond.laysFinal "EditionEqual$Matching" "EditionEqual$Matching" "partnersBack" "[I" ∈ ez_T := ez_r1 (List.mem_of_getElem? (i := 181) rfl) rfl
theorem t_233 : Cond.laysFinal "EditionEqual$Matching" "EditionEqual$Matching" "queue" "[I" ∈ ez_T := ez_r1 (List.mem_of_getElem? (i := 183) rfl) rfl
theorem t_235 : Cond.lays "EditionEqual$Matching" "EditionEqual$Matching" "matchCount" "I" ∈ ez_T := ez_r1 (List.mem_of_getElem? (i := 185) rfl) rfl
theorem t_238 : Cond.fieldLink "EditionEqual" 18 "EditionEqual" "pointCount" "I" ∈ ez_T := ez_r1 (List.mem_of_getElem? (i := 188) rfl) rfl
theorem t_239 : Cond.fieldLink "EditionEqual" 22 "EditionEqual" "rowCount" "I" ∈ ez_T := ez_r1 (List.mem_of_getElem? (i := 189) rfl) rfl
theorem t_240 : Cond.fieldLink "EditionEqual" 28 "EditionEqual" "firstEdition" "LEditionEqual$Edition;" ∈ ez_T := ez_r1 (List.mem_of_getElem? (i := 190) rfl) rfl
theorem t_241 : Cond.fieldLink "EditionEqual" 32 "EditionEqual" "secondEdition" "LEditionEqual$Edition;" ∈ ez_T := ez_r1 (List.mem_of_getElem? (i := 191) rfl) rfl
theorem t_242 : Cond.fieldLink "EditionEqual" 40 "EditionEqual" "firstBehaviour" "LEditionEqual$Behaviour;" ∈ ez_T := ez_r1 (List.mem_of_getElem? (i := 192) rfl) rfl
theorem t_243 : Cond.fieldLink "EditionEqual" 44 "EditionEqual" "secondBehaviour" "LEditionEqual$Behaviour;" ∈ ez_T := ez_r1 (List.mem_of_getElem? (i := 193) rfl) rfl
theorem t_244 : Cond.fieldLink "EditionEqual" 52 "EditionEqual" "search" "LEditionEqual$PairSearch;" ∈ ez_T := ez_r1 (List.mem_of_getElem? (i := 194) rfl) rfl
theorem t_245 : Cond.fieldLink "EditionEqual" 61 "EditionEqual" "matching" "LEditionEqual$Matching;" ∈ ez_T := ez_r1 (List.mem_of_getElem? (i := 195) rfl) rfl
theorem t_246 : Cond.fieldLink "EditionEqual" 65 "EditionEqual" "barredRows" "I" ∈ ez_T := ez_r1 (List.mem_of_getElem? (i := 196) rfl) rfl
theorem t_247 : Cond.laysFinal "EditionEqual" "EditionEqual" "pointCount" "I" ∈ ez_T := ez_r1 (List.mem_of_getElem? (i := 197) rfl) rfl
theorem t_249 : Cond.laysFinal "EditionEqual" "EditionEqual" "rowCount" "I" ∈ ez_T := ez_r1 (List.mem_of_getElem? (i := 199) rfl) rfl
theorem t_251 : Cond.laysFinal "EditionEqual" "EditionEqual" "firstEdition" "LEditionEqual$Edition;" ∈ ez_T := ez_r1 (List.mem_of_getElem? (i := 201) rfl) rfl
theorem t_253 : Cond.laysFinal "EditionEqual" "EditionEqual" "secondEdition" "LEditionEqual$Edition;" ∈ ez_T := ez_r1 (List.mem_of_getElem? (i := 203) rfl) rfl
theorem t_255 : Cond.laysFinal "EditionEqual" "EditionEqual" "firstBehaviour" "LEditionEqual$Behaviour;" ∈ ez_T := ez_r1 (List.mem_of_getElem? (i := 205) rfl) rfl
theorem t_257 : Cond.laysFinal "EditionEqual" "EditionEqual" "secondBehaviour" "LEditionEqual$Behaviour;" ∈ ez_T := ez_r1 (List.mem_of_getElem? (i := 207) rfl) rfl
theorem t_259 : Cond.laysFinal "EditionEqual" "EditionEqual" "search" "LEditionEqual$PairSearch;" ∈ ez_T := ez_r1 (List.mem_of_getElem? (i := 209) rfl) rfl
theorem t_261 : Cond.laysFinal "EditionEqual" "EditionEqual" "matching" "LEditionEqual$Matching;" ∈ ez_T := ez_r1 (List.mem_of_getElem? (i := 211) rfl) rfl
theorem t_263 : Cond.lays "EditionEqual" "EditionEqual" "barredRows" "I" ∈ ez_T := ez_r1 (List.mem_of_getElem? (i := 213) rfl) rfl
theorem t_268 : Cond.code ⟨"EditionEqualLaw", "cell", "([II)I"⟩ method_2_code 2 (some .int) ∈ ez_T := ez_r1 (List.mem_of_getElem? (i := 218) rfl) rfl
theorem t_271 : Cond.codeWith ⟨"EditionEqualLaw", "block", "(LEditionEqual;III[J)I"⟩ method_3_code 6 (some .int) [(0, 12, 15, 13), (0, 12, 19, 15)] ∈ ez_T := ez_r1 (List.mem_of_getElem? (i := 221) rfl) rfl
theorem t_272 : Cond.classLink "EditionEqualLaw" 13 "java/lang/IllegalArgumentException" ∈ ez_T := ez_r1 (List.mem_of_getElem? (i := 222) rfl) rfl
theorem t_273 : Cond.classLink "EditionEqualLaw" 15 "java/lang/IllegalStateException" ∈ ez_T := ez_r1 (List.mem_of_getElem? (i := 223) rfl) rfl
theorem t_274 : Cond.methodLink "EditionEqualLaw" 7 ⟨"EditionEqual", "block", "(III)I"⟩ ∈ ez_T := ez_r1 (List.mem_of_getElem? (i := 224) rfl) rfl
theorem t_275 : Cond.instanceMethod ⟨"EditionEqual", "block", "(III)I"⟩ ∈ ez_T := ez_r1 (List.mem_of_getElem? (i := 225) rfl) rfl
theorem t_276 : Cond.selects "EditionEqual" ⟨"EditionEqual", "block", "(III)I"⟩ ⟨"EditionEqual", "block", "(III)I"⟩ ∈ ez_T := ez_r1 (List.mem_of_getElem? (i := 226) rfl) rfl
theorem t_277 : Cond.code ⟨"EditionEqual", "block", "(III)I"⟩ prog_1_method_2_code 5 (some .int) ∈ ez_T := ez_r1 (List.mem_of_getElem? (i := 227) rfl) rfl
theorem t_278 : Cond.methodLink "EditionEqual" 68 ⟨"EditionEqual", "editionOf", "(I)LEditionEqual$Edition;"⟩ ∈ ez_T := ez_r1 (List.mem_of_getElem? (i := 228) rfl) rfl
theorem t_280 : Cond.instanceMethod ⟨"EditionEqual", "editionOf", "(I)LEditionEqual$Edition;"⟩ ∈ ez_T := ez_r1 (List.mem_of_getElem? (i := 230) rfl) rfl
theorem t_281 : Cond.code ⟨"EditionEqual", "editionOf", "(I)LEditionEqual$Edition;"⟩ prog_1_method_20_code 2 (some (.object "EditionEqual$Edition")) ∈ ez_T := ez_r1 (List.mem_of_getElem? (i := 231) rfl) rfl
theorem t_282 : Cond.methodLink "EditionEqual" 172 ⟨"EditionEqual", "checkEdition", "(I)V"⟩ ∈ ez_T := ez_r1 (List.mem_of_getElem? (i := 232) rfl) rfl
theorem t_283 : Cond.static ⟨"EditionEqual", "checkEdition", "(I)V"⟩ ∈ ez_T := ez_r1 (List.mem_of_getElem? (i := 233) rfl) rfl
theorem t_284 : Cond.code ⟨"EditionEqual", "checkEdition", "(I)V"⟩ prog_1_method_28_code 1 none ∈ ez_T := ez_r1 (List.mem_of_getElem? (i := 234) rfl) rfl
theorem t_285 : Cond.methodLink "EditionEqual" 72 ⟨"EditionEqual", "isWithin", "(II)Z"⟩ ∈ ez_T := ez_r1 (List.mem_of_getElem? (i := 235) rfl) rfl
theorem t_286 : Cond.static ⟨"EditionEqual", "isWithin", "(II)Z"⟩ ∈ ez_T := ez_r1 (List.mem_of_getElem? (i := 236) rfl) rfl
theorem t_287 : Cond.code ⟨"EditionEqual", "isWithin", "(II)Z"⟩ prog_1_method_30_code 2 (some .boolean) ∈ ez_T := ez_r1 (List.mem_of_getElem? (i := 237) rfl) rfl
theorem t_288 : Cond.classLink "EditionEqual" 79 "java/lang/IllegalArgumentException" ∈ ez_T := ez_r1 (List.mem_of_getElem? (i := 238) rfl) rfl
theorem t_355 : Cond.methodLink "EditionEqual" 76 ⟨"EditionEqual", "isNumberOfKind", "(II)Z"⟩ ∈ ez_T := ez_r2 (List.mem_of_getElem? (i := 65) rfl) rfl
theorem t_357 : Cond.instanceMethod ⟨"EditionEqual", "isNumberOfKind", "(II)Z"⟩ ∈ ez_T := ez_r2 (List.mem_of_getElem? (i := 67) rfl) rfl
theorem t_358 : Cond.code ⟨"EditionEqual", "isNumberOfKind", "(II)Z"⟩ prog_1_method_25_code 3 (some .boolean) ∈ ez_T := ez_r2 (List.mem_of_getElem? (i := 68) rfl) rfl
theorem t_360 : Cond.methodLink "EditionEqual" 86 ⟨"EditionEqual$Edition", "hasRoomFor", "(I)Z"⟩ ∈ ez_T := ez_r2 (List.mem_of_getElem? (i := 70) rfl) rfl
theorem t_361 : Cond.instanceMethod ⟨"EditionEqual$Edition", "hasRoomFor", "(I)Z"⟩ ∈ ez_T := ez_r2 (List.mem_of_getElem? (i := 71) rfl) rfl
theorem t_362 : Cond.selects "EditionEqual$Edition" ⟨"EditionEqual$Edition", "hasRoomFor", "(I)Z"⟩ ⟨"EditionEqual$Edition", "hasRoomFor", "(I)Z"⟩ ∈ ez_T := ez_r2 (List.mem_of_getElem? (i := 72) rfl) rfl
theorem t_363 : Cond.code ⟨"EditionEqual$Edition", "hasRoomFor", "(I)Z"⟩ prog_3_method_2_code 2 (some .boolean) ∈ ez_T := ez_r2 (List.mem_of_getElem? (i := 73) rfl) rfl
theorem t_364 : Cond.classLink "EditionEqual" 90 "java/lang/IllegalStateException" ∈ ez_T := ez_r2 (List.mem_of_getElem? (i := 74) rfl) rfl
theorem t_380 : Cond.methodLink "EditionEqual" 95 ⟨"EditionEqual", "forgetAnswers", "()V"⟩ ∈ ez_T := ez_r2 (List.mem_of_getElem? (i := 90) rfl) rfl
theorem t_382 : Cond.instanceMethod ⟨"EditionEqual", "forgetAnswers", "()V"⟩ ∈ ez_T := ez_r2 (List.mem_of_getElem? (i := 92) rfl) rfl
theorem t_383 : Cond.code ⟨"EditionEqual", "forgetAnswers", "()V"⟩ prog_1_method_23_code 1 none ∈ ez_T := ez_r2 (List.mem_of_getElem? (i := 93) rfl) rfl
theorem t_384 : Cond.methodLink "EditionEqual" 207 ⟨"EditionEqual$Behaviour", "forget", "()V"⟩ ∈ ez_T := ez_r2 (List.mem_of_getElem? (i := 94) rfl) rfl
theorem t_385 : Cond.instanceMethod ⟨"EditionEqual$Behaviour", "forget", "()V"⟩ ∈ ez_T := ez_r2 (List.mem_of_getElem? (i := 95) rfl) rfl
theorem t_386 : Cond.selects "EditionEqual$Behaviour" ⟨"EditionEqual$Behaviour", "forget", "()V"⟩ ⟨"EditionEqual$Behaviour", "forget", "()V"⟩ ∈ ez_T := ez_r2 (List.mem_of_getElem? (i := 96) rfl) rfl
theorem t_387 : Cond.code ⟨"EditionEqual$Behaviour", "forget", "()V"⟩ prog_2_method_2_code 1 none ∈ ez_T := ez_r2 (List.mem_of_getElem? (i := 97) rfl) rfl
theorem t_388 : Cond.methodLink "EditionEqual" 210 ⟨"EditionEqual$PairSearch", "forget", "()V"⟩ ∈ ez_T := ez_r2 (List.mem_of_getElem? (i := 98) rfl) rfl
theorem t_389 : Cond.instanceMethod ⟨"EditionEqual$PairSearch", "forget", "()V"⟩ ∈ ez_T := ez_r2 (List.mem_of_getElem? (i := 99) rfl) rfl
theorem t_390 : Cond.selects "EditionEqual$PairSearch" ⟨"EditionEqual$PairSearch", "forget", "()V"⟩ ⟨"EditionEqual$PairSearch", "forget", "()V"⟩ ∈ ez_T := ez_r2 (List.mem_of_getElem? (i := 100) rfl) rfl
theorem t_391 : Cond.code ⟨"EditionEqual$PairSearch", "forget", "()V"⟩ prog_5_method_2_code 1 none ∈ ez_T := ez_r2 (List.mem_of_getElem? (i := 101) rfl) rfl
theorem t_392 : Cond.methodLink "EditionEqual" 98 ⟨"EditionEqual$Edition", "addBlock", "(II)I"⟩ ∈ ez_T := ez_r2 (List.mem_of_getElem? (i := 102) rfl) rfl
theorem t_393 : Cond.instanceMethod ⟨"EditionEqual$Edition", "addBlock", "(II)I"⟩ ∈ ez_T := ez_r2 (List.mem_of_getElem? (i := 103) rfl) rfl
theorem t_394 : Cond.selects "EditionEqual$Edition" ⟨"EditionEqual$Edition", "addBlock", "(II)I"⟩ ⟨"EditionEqual$Edition", "addBlock", "(II)I"⟩ ∈ ez_T := ez_r2 (List.mem_of_getElem? (i := 104) rfl) rfl
theorem t_395 : Cond.code ⟨"EditionEqual$Edition", "addBlock", "(II)I"⟩ prog_3_method_3_code 4 (some .int) ∈ ez_T := ez_r2 (List.mem_of_getElem? (i := 105) rfl) rfl
theorem t_396 : Cond.methodLink "EditionEqual$Edition" 49 ⟨"EditionEqual$Edition", "hasRoomFor", "(I)Z"⟩ ∈ ez_T := ez_r2 (List.mem_of_getElem? (i := 106) rfl) rfl
theorem t_397 : Cond.methodLink "EditionEqual$Edition" 53 ⟨"EditionEqual$Edition", "countNeeded", "(I)I"⟩ ∈ ez_T := ez_r2 (List.mem_of_getElem? (i := 107) rfl) rfl
theorem t_398 : Cond.static ⟨"EditionEqual$Edition", "countNeeded", "(I)I"⟩ ∈ ez_T := ez_r2 (List.mem_of_getElem? (i := 108) rfl) rfl
theorem t_399 : Cond.code ⟨"EditionEqual$Edition", "countNeeded", "(I)I"⟩ prog_3_method_4_code 1 (some .int) ∈ ez_T := ez_r2 (List.mem_of_getElem? (i := 109) rfl) rfl
theorem t_402 : Cond.codeWith ⟨"EditionEqualLaw", "wire", "(LEditionEqual;IIII[J)I"⟩ method_4_code 7 (some .int) [(0, 14, 17, 13)] ∈ ez_T := ez_r2 (List.mem_of_getElem? (i := 112) rfl) rfl
theorem t_403 : Cond.methodLink "EditionEqualLaw" 17 ⟨"EditionEqual", "wire", "(IIII)I"⟩ ∈ ez_T := ez_r2 (List.mem_of_getElem? (i := 113) rfl) rfl
theorem t_404 : Cond.instanceMethod ⟨"EditionEqual", "wire", "(IIII)I"⟩ ∈ ez_T := ez_r2 (List.mem_of_getElem? (i := 114) rfl) rfl
theorem t_405 : Cond.selects "EditionEqual" ⟨"EditionEqual", "wire", "(IIII)I"⟩ ⟨"EditionEqual", "wire", "(IIII)I"⟩ ∈ ez_T := ez_r2 (List.mem_of_getElem? (i := 115) rfl) rfl
theorem t_406 : Cond.code ⟨"EditionEqual", "wire", "(IIII)I"⟩ prog_1_method_3_code 6 (some .int) ∈ ez_T := ez_r2 (List.mem_of_getElem? (i := 116) rfl) rfl
theorem t_407 : Cond.methodLink "EditionEqual" 101 ⟨"EditionEqual$Edition", "hasBlock", "(I)Z"⟩ ∈ ez_T := ez_r2 (List.mem_of_getElem? (i := 117) rfl) rfl
theorem t_408 : Cond.instanceMethod ⟨"EditionEqual$Edition", "hasBlock", "(I)Z"⟩ ∈ ez_T := ez_r2 (List.mem_of_getElem? (i := 118) rfl) rfl
theorem t_409 : Cond.selects "EditionEqual$Edition" ⟨"EditionEqual$Edition", "hasBlock", "(I)Z"⟩ ⟨"EditionEqual$Edition", "hasBlock", "(I)Z"⟩ ∈ ez_T := ez_r2 (List.mem_of_getElem? (i := 119) rfl) rfl
theorem t_410 : Cond.code ⟨"EditionEqual$Edition", "hasBlock", "(I)Z"⟩ prog_3_method_9_code 2 (some .boolean) ∈ ez_T := ez_r2 (List.mem_of_getElem? (i := 120) rfl) rfl
theorem t_411 : Cond.methodLink "EditionEqual" 104 ⟨"EditionEqual$Edition", "hasBlockOrNone", "(I)Z"⟩ ∈ ez_T := ez_r2 (List.mem_of_getElem? (i := 121) rfl) rfl
theorem t_412 : Cond.instanceMethod ⟨"EditionEqual$Edition", "hasBlockOrNone", "(I)Z"⟩ ∈ ez_T := ez_r2 (List.mem_of_getElem? (i := 122) rfl) rfl
theorem t_413 : Cond.selects "EditionEqual$Edition" ⟨"EditionEqual$Edition", "hasBlockOrNone", "(I)Z"⟩ ⟨"EditionEqual$Edition", "hasBlockOrNone", "(I)Z"⟩ ∈ ez_T := ez_r2 (List.mem_of_getElem? (i := 123) rfl) rfl
theorem t_414 : Cond.code ⟨"EditionEqual$Edition", "hasBlockOrNone", "(I)Z"⟩ prog_3_method_10_code 2 (some .boolean) ∈ ez_T := ez_r2 (List.mem_of_getElem? (i := 124) rfl) rfl
theorem t_415 : Cond.methodLink "EditionEqual$Edition" 57 ⟨"EditionEqual$Edition", "hasBlock", "(I)Z"⟩ ∈ ez_T := ez_r2 (List.mem_of_getElem? (i := 125) rfl) rfl
theorem t_417 : Cond.methodLink "EditionEqual" 109 ⟨"EditionEqual$Edition", "rewire", "(III)I"⟩ ∈ ez_T := ez_r2 (List.mem_of_getElem? (i := 127) rfl) rfl
theorem t_418 : Cond.instanceMethod ⟨"EditionEqual$Edition", "rewire", "(III)I"⟩ ∈ ez_T := ez_r2 (List.mem_of_getElem? (i := 128) rfl) rfl
theorem t_419 : Cond.selects "EditionEqual$Edition" ⟨"EditionEqual$Edition", "rewire", "(III)I"⟩ ⟨"EditionEqual$Edition", "rewire", "(III)I"⟩ ∈ ez_T := ez_r2 (List.mem_of_getElem? (i := 129) rfl) rfl
theorem t_420 : Cond.code ⟨"EditionEqual$Edition", "rewire", "(III)I"⟩ prog_3_method_5_code 5 (some .int) ∈ ez_T := ez_r2 (List.mem_of_getElem? (i := 130) rfl) rfl
theorem t_421 : Cond.methodLinkNest "EditionEqual$Edition" 60 ⟨"EditionEqual", "isWithin", "(II)Z"⟩ "EditionEqual" ∈ ez_T := ez_r2 (List.mem_of_getElem? (i := 131) rfl) rfl
theorem t_422 : Cond.methodLink "EditionEqual$Edition" 64 ⟨"EditionEqual$Edition", "neededAt", "(II)I"⟩ ∈ ez_T := ez_r2 (List.mem_of_getElem? (i := 132) rfl) rfl
theorem t_423 : Cond.instanceMethod ⟨"EditionEqual$Edition", "neededAt", "(II)I"⟩ ∈ ez_T := ez_r2 (List.mem_of_getElem? (i := 133) rfl) rfl
theorem t_424 : Cond.selects "EditionEqual$Edition" ⟨"EditionEqual$Edition", "neededAt", "(II)I"⟩ ⟨"EditionEqual$Edition", "neededAt", "(II)I"⟩ ∈ ez_T := ez_r2 (List.mem_of_getElem? (i := 134) rfl) rfl
theorem t_425 : Cond.code ⟨"EditionEqual$Edition", "neededAt", "(II)I"⟩ prog_3_method_15_code 4 (some .int) ∈ ez_T := ez_r2 (List.mem_of_getElem? (i := 135) rfl) rfl
theorem t_426 : Cond.methodLinkNest "EditionEqual$Edition" 68 ⟨"EditionEqual", "bitOf", "(I)I"⟩ "EditionEqual" ∈ ez_T := ez_r2 (List.mem_of_getElem? (i := 136) rfl) rfl
theorem t_427 : Cond.static ⟨"EditionEqual", "bitOf", "(I)I"⟩ ∈ ez_T := ez_r2 (List.mem_of_getElem? (i := 137) rfl) rfl
theorem t_428 : Cond.code ⟨"EditionEqual", "bitOf", "(I)I"⟩ prog_1_method_31_code 1 (some .int) ∈ ez_T := ez_r2 (List.mem_of_getElem? (i := 138) rfl) rfl
theorem t_431 : Cond.codeWith ⟨"EditionEqualLaw", "out", "(LEditionEqual;III[J)I"⟩ method_5_code 6 (some .int) [(0, 12, 15, 13)] ∈ ez_T := ez_r2 (List.mem_of_getElem? (i := 141) rfl) rfl
theorem t_432 : Cond.methodLink "EditionEqualLaw" 21 ⟨"EditionEqual", "out", "(III)I"⟩ ∈ ez_T := ez_r2 (List.mem_of_getElem? (i := 142) rfl) rfl
theorem t_433 : Cond.instanceMethod ⟨"EditionEqual", "out", "(III)I"⟩ ∈ ez_T := ez_r2 (List.mem_of_getElem? (i := 143) rfl) rfl
theorem t_434 : Cond.selects "EditionEqual" ⟨"EditionEqual", "out", "(III)I"⟩ ⟨"EditionEqual", "out", "(III)I"⟩ ∈ ez_T := ez_r2 (List.mem_of_getElem? (i := 144) rfl) rfl
theorem t_435 : Cond.code ⟨"EditionEqual", "out", "(III)I"⟩ prog_1_method_4_code 5 (some .int) ∈ ez_T := ez_r2 (List.mem_of_getElem? (i := 145) rfl) rfl
theorem t_437 : Cond.methodLink "EditionEqual" 115 ⟨"EditionEqual$Edition", "changeOutput", "(II)I"⟩ ∈ ez_T := ez_r2 (List.mem_of_getElem? (i := 147) rfl) rfl
theorem t_438 : Cond.instanceMethod ⟨"EditionEqual$Edition", "changeOutput", "(II)I"⟩ ∈ ez_T := ez_r2 (List.mem_of_getElem? (i := 148) rfl) rfl
theorem t_439 : Cond.selects "EditionEqual$Edition" ⟨"EditionEqual$Edition", "changeOutput", "(II)I"⟩ ⟨"EditionEqual$Edition", "changeOutput", "(II)I"⟩ ∈ ez_T := ez_r2 (List.mem_of_getElem? (i := 149) rfl) rfl
theorem t_440 : Cond.code ⟨"EditionEqual$Edition", "changeOutput", "(II)I"⟩ prog_3_method_6_code 4 (some .int) ∈ ez_T := ez_r2 (List.mem_of_getElem? (i := 150) rfl) rfl
theorem t_441 : Cond.methodLink "EditionEqual$Edition" 71 ⟨"EditionEqual$Edition", "outputAt", "(I)I"⟩ ∈ ez_T := ez_r2 (List.mem_of_getElem? (i := 151) rfl) rfl
theorem t_442 : Cond.instanceMethod ⟨"EditionEqual$Edition", "outputAt", "(I)I"⟩ ∈ ez_T := ez_r2 (List.mem_of_getElem? (i := 152) rfl) rfl
theorem t_443 : Cond.selects "EditionEqual$Edition" ⟨"EditionEqual$Edition", "outputAt", "(I)I"⟩ ⟨"EditionEqual$Edition", "outputAt", "(I)I"⟩ ∈ ez_T := ez_r2 (List.mem_of_getElem? (i := 153) rfl) rfl
theorem t_444 : Cond.code ⟨"EditionEqual$Edition", "outputAt", "(I)I"⟩ prog_3_method_13_code 2 (some .int) ∈ ez_T := ez_r2 (List.mem_of_getElem? (i := 154) rfl) rfl
theorem t_447 : Cond.codeWith ⟨"EditionEqualLaw", "bar", "(LEditionEqual;IZ[J)I"⟩ method_6_code 5 (some .int) [(0, 17, 20, 13)] ∈ ez_T := ez_r2 (List.mem_of_getElem? (i := 157) rfl) rfl
theorem t_448 : Cond.methodLink "EditionEqualLaw" 24 ⟨"EditionEqual", "bar", "(IZ)Z"⟩ ∈ ez_T := ez_r2 (List.mem_of_getElem? (i := 158) rfl) rfl
theorem t_449 : Cond.instanceMethod ⟨"EditionEqual", "bar", "(IZ)Z"⟩ ∈ ez_T := ez_r2 (List.mem_of_getElem? (i := 159) rfl) rfl
theorem t_450 : Cond.selects "EditionEqual" ⟨"EditionEqual", "bar", "(IZ)Z"⟩ ⟨"EditionEqual", "bar", "(IZ)Z"⟩ ∈ ez_T := ez_r2 (List.mem_of_getElem? (i := 160) rfl) rfl
theorem t_451 : Cond.code ⟨"EditionEqual", "bar", "(IZ)Z"⟩ prog_1_method_5_code 5 (some .boolean) ∈ ez_T := ez_r2 (List.mem_of_getElem? (i := 161) rfl) rfl
theorem t_452 : Cond.methodLink "EditionEqual" 118 ⟨"EditionEqual", "checkRow", "(I)V"⟩ ∈ ez_T := ez_r2 (List.mem_of_getElem? (i := 162) rfl) rfl
theorem t_454 : Cond.instanceMethod ⟨"EditionEqual", "checkRow", "(I)V"⟩ ∈ ez_T := ez_r2 (List.mem_of_getElem? (i := 164) rfl) rfl
theorem t_455 : Cond.code ⟨"EditionEqual", "checkRow", "(I)V"⟩ prog_1_method_26_code 2 none ∈ ez_T := ez_r2 (List.mem_of_getElem? (i := 165) rfl) rfl
theorem t_459 : Cond.codeWith ⟨"EditionEqualLaw", "wrong", "(LEditionEqual;I[J)I"⟩ method_7_code 4 (some .int) [(0, 9, 12, 13)] ∈ ez_T := ez_r2 (List.mem_of_getElem? (i := 169) rfl) rfl
theorem t_460 : Cond.methodLink "EditionEqualLaw" 28 ⟨"EditionEqual", "wrong", "(I)I"⟩ ∈ ez_T := ez_r2 (List.mem_of_getElem? (i := 170) rfl) rfl
theorem t_461 : Cond.instanceMethod ⟨"EditionEqual", "wrong", "(I)I"⟩ ∈ ez_T := ez_r2 (List.mem_of_getElem? (i := 171) rfl) rfl
theorem t_462 : Cond.selects "EditionEqual" ⟨"EditionEqual", "wrong", "(I)I"⟩ ⟨"EditionEqual", "wrong", "(I)I"⟩ ∈ ez_T := ez_r2 (List.mem_of_getElem? (i := 172) rfl) rfl
theorem t_463 : Cond.code ⟨"EditionEqual", "wrong", "(I)I"⟩ prog_1_method_6_code 2 (some .int) ∈ ez_T := ez_r2 (List.mem_of_getElem? (i := 173) rfl) rfl
theorem t_464 : Cond.methodLink "EditionEqual" 122 ⟨"EditionEqual$Edition", "firstFault", "()I"⟩ ∈ ez_T := ez_r2 (List.mem_of_getElem? (i := 174) rfl) rfl
theorem t_465 : Cond.instanceMethod ⟨"EditionEqual$Edition", "firstFault", "()I"⟩ ∈ ez_T := ez_r2 (List.mem_of_getElem? (i := 175) rfl) rfl
theorem t_466 : Cond.selects "EditionEqual$Edition" ⟨"EditionEqual$Edition", "firstFault", "()I"⟩ ⟨"EditionEqual$Edition", "firstFault", "()I"⟩ ∈ ez_T := ez_r2 (List.mem_of_getElem? (i := 176) rfl) rfl
theorem t_467 : Cond.code ⟨"EditionEqual$Edition", "firstFault", "()I"⟩ prog_3_method_17_code 2 (some .int) ∈ ez_T := ez_r2 (List.mem_of_getElem? (i := 177) rfl) rfl
theorem t_468 : Cond.methodLink "EditionEqual$Edition" 74 ⟨"EditionEqual$Edition", "firstUnwired", "()I"⟩ ∈ ez_T := ez_r2 (List.mem_of_getElem? (i := 178) rfl) rfl
theorem t_470 : Cond.instanceMethod ⟨"EditionEqual$Edition", "firstUnwired", "()I"⟩ ∈ ez_T := ez_r2 (List.mem_of_getElem? (i := 180) rfl) rfl
theorem t_471 : Cond.code ⟨"EditionEqual$Edition", "firstUnwired", "()I"⟩ prog_3_method_18_code 3 (some .int) ∈ ez_T := ez_r2 (List.mem_of_getElem? (i := 181) rfl) rfl
theorem t_472 : Cond.methodLink "EditionEqual$Edition" 78 ⟨"EditionEqual$Edition", "firstComingBack", "()I"⟩ ∈ ez_T := ez_r2 (List.mem_of_getElem? (i := 182) rfl) rfl
theorem t_474 : Cond.instanceMethod ⟨"EditionEqual$Edition", "firstComingBack", "()I"⟩ ∈ ez_T := ez_r2 (List.mem_of_getElem? (i := 184) rfl) rfl
theorem t_475 : Cond.code ⟨"EditionEqual$Edition", "firstComingBack", "()I"⟩ prog_3_method_19_code 3 (some .int) ∈ ez_T := ez_r2 (List.mem_of_getElem? (i := 185) rfl) rfl
theorem t_476 : Cond.methodLink "EditionEqual$Edition" 81 ⟨"EditionEqual$Edition", "neededInTick", "(I)I"⟩ ∈ ez_T := ez_r2 (List.mem_of_getElem? (i := 186) rfl) rfl
theorem t_477 : Cond.instanceMethod ⟨"EditionEqual$Edition", "neededInTick", "(I)I"⟩ ∈ ez_T := ez_r2 (List.mem_of_getElem? (i := 187) rfl) rfl
theorem t_478 : Cond.selects "EditionEqual$Edition" ⟨"EditionEqual$Edition", "neededInTick", "(I)I"⟩ ⟨"EditionEqual$Edition", "neededInTick", "(I)I"⟩ ∈ ez_T := ez_r2 (List.mem_of_getElem? (i := 188) rfl) rfl
theorem t_479 : Cond.code ⟨"EditionEqual$Edition", "neededInTick", "(I)I"⟩ prog_3_method_16_code 2 (some .int) ∈ ez_T := ez_r2 (List.mem_of_getElem? (i := 189) rfl) rfl
theorem t_480 : Cond.methodLinkNest "EditionEqual$Edition" 84 ⟨"EditionEqual", "holds", "(II)Z"⟩ "EditionEqual" ∈ ez_T := ez_r2 (List.mem_of_getElem? (i := 190) rfl) rfl
theorem t_481 : Cond.static ⟨"EditionEqual", "holds", "(II)Z"⟩ ∈ ez_T := ez_r2 (List.mem_of_getElem? (i := 191) rfl) rfl
theorem t_482 : Cond.code ⟨"EditionEqual", "holds", "(II)Z"⟩ prog_1_method_32_code 2 (some .boolean) ∈ ez_T := ez_r2 (List.mem_of_getElem? (i := 192) rfl) rfl
theorem t_485 : Cond.codeWith ⟨"EditionEqualLaw", "value", "(LEditionEqual;IIII[J)I"⟩ method_8_code 7 (some .int) [(0, 14, 17, 13), (0, 14, 21, 15)] ∈ ez_T := ez_r2 (List.mem_of_getElem? (i := 195) rfl) rfl
theorem t_486 : Cond.methodLink "EditionEqualLaw" 32 ⟨"EditionEqual", "value", "(IIII)I"⟩ ∈ ez_T := ez_r2 (List.mem_of_getElem? (i := 196) rfl) rfl
theorem t_487 : Cond.instanceMethod ⟨"EditionEqual", "value", "(IIII)I"⟩ ∈ ez_T := ez_r2 (List.mem_of_getElem? (i := 197) rfl) rfl
theorem t_488 : Cond.selects "EditionEqual" ⟨"EditionEqual", "value", "(IIII)I"⟩ ⟨"EditionEqual", "value", "(IIII)I"⟩ ∈ ez_T := ez_r2 (List.mem_of_getElem? (i := 198) rfl) rfl
theorem t_489 : Cond.code ⟨"EditionEqual", "value", "(IIII)I"⟩ prog_1_method_7_code 5 (some .int) ∈ ez_T := ez_r2 (List.mem_of_getElem? (i := 199) rfl) rfl
theorem t_490 : Cond.methodLink "EditionEqual" 126 ⟨"EditionEqual", "checkBlock", "(LEditionEqual$Edition;I)V"⟩ ∈ ez_T := ez_r2 (List.mem_of_getElem? (i := 200) rfl) rfl
theorem t_491 : Cond.static ⟨"EditionEqual", "checkBlock", "(LEditionEqual$Edition;I)V"⟩ ∈ ez_T := ez_r2 (List.mem_of_getElem? (i := 201) rfl) rfl
theorem t_492 : Cond.code ⟨"EditionEqual", "checkBlock", "(LEditionEqual$Edition;I)V"⟩ prog_1_method_29_code 2 none ∈ ez_T := ez_r2 (List.mem_of_getElem? (i := 202) rfl) rfl
theorem t_494 : Cond.methodLink "EditionEqual" 130 ⟨"EditionEqual", "behaviourOf", "(I)LEditionEqual$Behaviour;"⟩ ∈ ez_T := ez_r2 (List.mem_of_getElem? (i := 204) rfl) rfl
theorem t_496 : Cond.instanceMethod ⟨"EditionEqual", "behaviourOf", "(I)LEditionEqual$Behaviour;"⟩ ∈ ez_T := ez_r2 (List.mem_of_getElem? (i := 206) rfl) rfl
theorem t_497 : Cond.code ⟨"EditionEqual", "behaviourOf", "(I)LEditionEqual$Behaviour;"⟩ prog_1_method_21_code 3 (some (.object "EditionEqual$Behaviour")) ∈ ez_T := ez_r2 (List.mem_of_getElem? (i := 207) rfl) rfl
theorem t_499 : Cond.methodLink "EditionEqual" 152 ⟨"EditionEqual", "openRows", "()I"⟩ ∈ ez_T := ez_r2 (List.mem_of_getElem? (i := 209) rfl) rfl
theorem t_501 : Cond.instanceMethod ⟨"EditionEqual", "openRows", "()I"⟩ ∈ ez_T := ez_r2 (List.mem_of_getElem? (i := 211) rfl) rfl
theorem t_502 : Cond.code ⟨"EditionEqual", "openRows", "()I"⟩ prog_1_method_24_code 1 (some .int) ∈ ez_T := ez_r2 (List.mem_of_getElem? (i := 212) rfl) rfl
theorem t_503 : Cond.methodLink "EditionEqual" 201 ⟨"EditionEqual$Behaviour", "learn", "(II)V"⟩ ∈ ez_T := ez_r2 (List.mem_of_getElem? (i := 213) rfl) rfl
theorem t_504 : Cond.instanceMethod ⟨"EditionEqual$Behaviour", "learn", "(II)V"⟩ ∈ ez_T := ez_r2 (List.mem_of_getElem? (i := 214) rfl) rfl
theorem t_505 : Cond.selects "EditionEqual$Behaviour" ⟨"EditionEqual$Behaviour", "learn", "(II)V"⟩ ⟨"EditionEqual$Behaviour", "learn", "(II)V"⟩ ∈ ez_T := ez_r2 (List.mem_of_getElem? (i := 215) rfl) rfl
theorem t_506 : Cond.code ⟨"EditionEqual$Behaviour", "learn", "(II)V"⟩ prog_2_method_3_code 4 none ∈ ez_T := ez_r2 (List.mem_of_getElem? (i := 216) rfl) rfl
theorem t_507 : Cond.methodLink "EditionEqual$Behaviour" 54 ⟨"EditionEqual$Edition", "countDelays", "()I"⟩ ∈ ez_T := ez_r2 (List.mem_of_getElem? (i := 217) rfl) rfl
theorem t_508 : Cond.instanceMethod ⟨"EditionEqual$Edition", "countDelays", "()I"⟩ ∈ ez_T := ez_r2 (List.mem_of_getElem? (i := 218) rfl) rfl
theorem t_509 : Cond.selects "EditionEqual$Edition" ⟨"EditionEqual$Edition", "countDelays", "()I"⟩ ⟨"EditionEqual$Edition", "countDelays", "()I"⟩ ∈ ez_T := ez_r2 (List.mem_of_getElem? (i := 219) rfl) rfl
theorem t_510 : Cond.code ⟨"EditionEqual$Edition", "countDelays", "()I"⟩ prog_3_method_8_code 1 (some .int) ∈ ez_T := ez_r2 (List.mem_of_getElem? (i := 220) rfl) rfl
theorem t_511 : Cond.methodLink "EditionEqual$Behaviour" 60 ⟨"EditionEqual$Behaviour", "orderBlocks", "()V"⟩ ∈ ez_T := ez_r2 (List.mem_of_getElem? (i := 221) rfl) rfl
theorem t_513 : Cond.instanceMethod ⟨"EditionEqual$Behaviour", "orderBlocks", "()V"⟩ ∈ ez_T := ez_r2 (List.mem_of_getElem? (i := 223) rfl) rfl
theorem t_514 : Cond.code ⟨"EditionEqual$Behaviour", "orderBlocks", "()V"⟩ prog_2_method_10_code 5 none ∈ ez_T := ez_r2 (List.mem_of_getElem? (i := 224) rfl) rfl
theorem t_515 : Cond.methodLink "EditionEqual$Behaviour" 93 ⟨"EditionEqual$Edition", "countBlocks", "()I"⟩ ∈ ez_T := ez_r2 (List.mem_of_getElem? (i := 225) rfl) rfl
theorem t_516 : Cond.instanceMethod ⟨"EditionEqual$Edition", "countBlocks", "()I"⟩ ∈ ez_T := ez_r2 (List.mem_of_getElem? (i := 226) rfl) rfl
theorem t_517 : Cond.selects "EditionEqual$Edition" ⟨"EditionEqual$Edition", "countBlocks", "()I"⟩ ⟨"EditionEqual$Edition", "countBlocks", "()I"⟩ ∈ ez_T := ez_r2 (List.mem_of_getElem? (i := 227) rfl) rfl
theorem t_518 : Cond.code ⟨"EditionEqual$Edition", "countBlocks", "()I"⟩ prog_3_method_7_code 1 (some .int) ∈ ez_T := ez_r2 (List.mem_of_getElem? (i := 228) rfl) rfl
theorem t_519 : Cond.methodLink "EditionEqual$Behaviour" 96 ⟨"EditionEqual$Edition", "neededInTick", "(I)I"⟩ ∈ ez_T := ez_r2 (List.mem_of_getElem? (i := 229) rfl) rfl
theorem t_520 : Cond.methodLinkNest "EditionEqual$Behaviour" 90 ⟨"EditionEqual", "holds", "(II)Z"⟩ "EditionEqual" ∈ ez_T := ez_r2 (List.mem_of_getElem? (i := 230) rfl) rfl
theorem t_521 : Cond.methodLinkNest "EditionEqual$Behaviour" 99 ⟨"EditionEqual", "bitOf", "(I)I"⟩ "EditionEqual" ∈ ez_T := ez_r2 (List.mem_of_getElem? (i := 231) rfl) rfl
theorem t_522 : Cond.methodLink "EditionEqual$Behaviour" 63 ⟨"EditionEqual$Behaviour", "fillColumns", "(I)V"⟩ ∈ ez_T := ez_r2 (List.mem_of_getElem? (i := 232) rfl) rfl
theorem t_524 : Cond.instanceMethod ⟨"EditionEqual$Behaviour", "fillColumns", "(I)V"⟩ ∈ ez_T := ez_r2 (List.mem_of_getElem? (i := 234) rfl) rfl
theorem t_525 : Cond.code ⟨"EditionEqual$Behaviour", "fillColumns", "(I)V"⟩ prog_2_method_11_code 4 none ∈ ez_T := ez_r2 (List.mem_of_getElem? (i := 235) rfl) rfl
theorem t_526 : Cond.methodLinkNest "EditionEqual$Behaviour" 77 ⟨"EditionEqual", "isWithin", "(II)Z"⟩ "EditionEqual" ∈ ez_T := ez_r2 (List.mem_of_getElem? (i := 236) rfl) rfl
theorem t_527 : Cond.methodLink "EditionEqual$Behaviour" 102 ⟨"EditionEqual$Behaviour", "workOutColumn", "(II)I"⟩ ∈ ez_T := ez_r2 (List.mem_of_getElem? (i := 237) rfl) rfl
theorem t_529 : Cond.instanceMethod ⟨"EditionEqual$Behaviour", "workOutColumn", "(II)I"⟩ ∈ ez_T := ez_r2 (List.mem_of_getElem? (i := 239) rfl) rfl
theorem t_530 : Cond.code ⟨"EditionEqual$Behaviour", "workOutColumn", "(II)I"⟩ prog_2_method_12_code 6 (some .int) ∈ ez_T := ez_r3 (List.mem_of_getElem? (i := 0) rfl) rfl
theorem t_531 : Cond.methodLink "EditionEqual$Behaviour" 105 ⟨"EditionEqual$Edition", "numberOf", "(I)I"⟩ ∈ ez_T := ez_r3 (List.mem_of_getElem? (i := 1) rfl) rfl
theorem t_532 : Cond.instanceMethod ⟨"EditionEqual$Edition", "numberOf", "(I)I"⟩ ∈ ez_T := ez_r3 (List.mem_of_getElem? (i := 2) rfl) rfl
theorem t_533 : Cond.selects "EditionEqual$Edition" ⟨"EditionEqual$Edition", "numberOf", "(I)I"⟩ ⟨"EditionEqual$Edition", "numberOf", "(I)I"⟩ ∈ ez_T := ez_r3 (List.mem_of_getElem? (i := 3) rfl) rfl
theorem t_534 : Cond.code ⟨"EditionEqual$Edition", "numberOf", "(I)I"⟩ prog_3_method_12_code 2 (some .int) ∈ ez_T := ez_r3 (List.mem_of_getElem? (i := 4) rfl) rfl
theorem t_535 : Cond.methodLink "EditionEqual$Behaviour" 108 ⟨"EditionEqual$Edition", "neededAt", "(II)I"⟩ ∈ ez_T := ez_r3 (List.mem_of_getElem? (i := 5) rfl) rfl
theorem t_536 : Cond.methodLink "EditionEqual$Behaviour" 73 ⟨"EditionEqual$Behaviour", "columnAt", "(II)I"⟩ ∈ ez_T := ez_r3 (List.mem_of_getElem? (i := 6) rfl) rfl
theorem t_538 : Cond.instanceMethod ⟨"EditionEqual$Behaviour", "columnAt", "(II)I"⟩ ∈ ez_T := ez_r3 (List.mem_of_getElem? (i := 8) rfl) rfl
theorem t_539 : Cond.code ⟨"EditionEqual$Behaviour", "columnAt", "(II)I"⟩ prog_2_method_13_code 4 (some .int) ∈ ez_T := ez_r3 (List.mem_of_getElem? (i := 9) rfl) rfl
theorem t_540 : Cond.methodLink "EditionEqual$Behaviour" 111 ⟨"EditionEqual$Edition", "kindOf", "(I)I"⟩ ∈ ez_T := ez_r3 (List.mem_of_getElem? (i := 10) rfl) rfl
theorem t_541 : Cond.instanceMethod ⟨"EditionEqual$Edition", "kindOf", "(I)I"⟩ ∈ ez_T := ez_r3 (List.mem_of_getElem? (i := 11) rfl) rfl
theorem t_542 : Cond.selects "EditionEqual$Edition" ⟨"EditionEqual$Edition", "kindOf", "(I)I"⟩ ⟨"EditionEqual$Edition", "kindOf", "(I)I"⟩ ∈ ez_T := ez_r3 (List.mem_of_getElem? (i := 12) rfl) rfl
theorem t_543 : Cond.code ⟨"EditionEqual$Edition", "kindOf", "(I)I"⟩ prog_3_method_11_code 2 (some .int) ∈ ez_T := ez_r3 (List.mem_of_getElem? (i := 13) rfl) rfl
theorem t_546 : Cond.methodLink "EditionEqual$Behaviour" 67 ⟨"EditionEqual$Behaviour", "fillTicks", "(I)V"⟩ ∈ ez_T := ez_r3 (List.mem_of_getElem? (i := 16) rfl) rfl
theorem t_548 : Cond.instanceMethod ⟨"EditionEqual$Behaviour", "fillTicks", "(I)V"⟩ ∈ ez_T := ez_r3 (List.mem_of_getElem? (i := 18) rfl) rfl
theorem t_549 : Cond.code ⟨"EditionEqual$Behaviour", "fillTicks", "(I)V"⟩ prog_2_method_14_code 7 none ∈ ez_T := ez_r3 (List.mem_of_getElem? (i := 19) rfl) rfl
theorem t_550 : Cond.methodLink "EditionEqual$Behaviour" 117 ⟨"EditionEqual$Edition", "outputAt", "(I)I"⟩ ∈ ez_T := ez_r3 (List.mem_of_getElem? (i := 20) rfl) rfl
theorem t_551 : Cond.methodLink "EditionEqual$Behaviour" 120 ⟨"EditionEqual$Behaviour", "valueOf", "(III)I"⟩ ∈ ez_T := ez_r3 (List.mem_of_getElem? (i := 21) rfl) rfl
theorem t_552 : Cond.instanceMethod ⟨"EditionEqual$Behaviour", "valueOf", "(III)I"⟩ ∈ ez_T := ez_r3 (List.mem_of_getElem? (i := 22) rfl) rfl
theorem t_553 : Cond.selects "EditionEqual$Behaviour" ⟨"EditionEqual$Behaviour", "valueOf", "(III)I"⟩ ⟨"EditionEqual$Behaviour", "valueOf", "(III)I"⟩ ∈ ez_T := ez_r3 (List.mem_of_getElem? (i := 23) rfl) rfl
theorem t_554 : Cond.code ⟨"EditionEqual$Behaviour", "valueOf", "(III)I"⟩ prog_2_method_4_code 4 (some .int) ∈ ez_T := ez_r3 (List.mem_of_getElem? (i := 24) rfl) rfl
theorem t_555 : Cond.methodLink "EditionEqual$Behaviour" 124 ⟨"EditionEqual$Edition", "delayAt", "(I)I"⟩ ∈ ez_T := ez_r3 (List.mem_of_getElem? (i := 25) rfl) rfl
theorem t_556 : Cond.instanceMethod ⟨"EditionEqual$Edition", "delayAt", "(I)I"⟩ ∈ ez_T := ez_r3 (List.mem_of_getElem? (i := 26) rfl) rfl
theorem t_557 : Cond.selects "EditionEqual$Edition" ⟨"EditionEqual$Edition", "delayAt", "(I)I"⟩ ⟨"EditionEqual$Edition", "delayAt", "(I)I"⟩ ∈ ez_T := ez_r3 (List.mem_of_getElem? (i := 27) rfl) rfl
theorem t_558 : Cond.code ⟨"EditionEqual$Edition", "delayAt", "(I)I"⟩ prog_3_method_14_code 2 (some .int) ∈ ez_T := ez_r3 (List.mem_of_getElem? (i := 28) rfl) rfl
theorem t_559 : Cond.methodLink "EditionEqual$Behaviour" 70 ⟨"EditionEqual$Behaviour", "findReached", "(I)V"⟩ ∈ ez_T := ez_r3 (List.mem_of_getElem? (i := 29) rfl) rfl
theorem t_561 : Cond.instanceMethod ⟨"EditionEqual$Behaviour", "findReached", "(I)V"⟩ ∈ ez_T := ez_r3 (List.mem_of_getElem? (i := 31) rfl) rfl
theorem t_562 : Cond.code ⟨"EditionEqual$Behaviour", "findReached", "(I)V"⟩ prog_2_method_15_code 6 none ∈ ez_T := ez_r3 (List.mem_of_getElem? (i := 32) rfl) rfl
theorem t_563 : Cond.methodLink "EditionEqual$Behaviour" 127 ⟨"EditionEqual$Behaviour", "stateAfter", "(II)I"⟩ ∈ ez_T := ez_r3 (List.mem_of_getElem? (i := 33) rfl) rfl
theorem t_564 : Cond.instanceMethod ⟨"EditionEqual$Behaviour", "stateAfter", "(II)I"⟩ ∈ ez_T := ez_r3 (List.mem_of_getElem? (i := 34) rfl) rfl
theorem t_565 : Cond.selects "EditionEqual$Behaviour" ⟨"EditionEqual$Behaviour", "stateAfter", "(II)I"⟩ ⟨"EditionEqual$Behaviour", "stateAfter", "(II)I"⟩ ∈ ez_T := ez_r3 (List.mem_of_getElem? (i := 35) rfl) rfl
theorem t_566 : Cond.code ⟨"EditionEqual$Behaviour", "stateAfter", "(II)I"⟩ prog_2_method_6_code 3 (some .int) ∈ ez_T := ez_r3 (List.mem_of_getElem? (i := 36) rfl) rfl
theorem t_567 : Cond.methodLink "EditionEqual$Behaviour" 81 ⟨"EditionEqual$Behaviour", "placeOf", "(II)I"⟩ ∈ ez_T := ez_r3 (List.mem_of_getElem? (i := 37) rfl) rfl
theorem t_569 : Cond.instanceMethod ⟨"EditionEqual$Behaviour", "placeOf", "(II)I"⟩ ∈ ez_T := ez_r3 (List.mem_of_getElem? (i := 39) rfl) rfl
theorem t_570 : Cond.code ⟨"EditionEqual$Behaviour", "placeOf", "(II)I"⟩ prog_2_method_9_code 3 (some .int) ∈ ez_T := ez_r3 (List.mem_of_getElem? (i := 40) rfl) rfl
theorem t_571 : Cond.methodLink "EditionEqual" 134 ⟨"EditionEqual$Behaviour", "valueOf", "(III)I"⟩ ∈ ez_T := ez_r3 (List.mem_of_getElem? (i := 41) rfl) rfl
theorem t_574 : Cond.codeWith ⟨"EditionEqualLaw", "tick", "(LEditionEqual;III[J)I"⟩ method_9_code 6 (some .int) [(0, 12, 15, 13), (0, 12, 19, 15)] ∈ ez_T := ez_r3 (List.mem_of_getElem? (i := 44) rfl) rfl
theorem t_575 : Cond.methodLink "EditionEqualLaw" 35 ⟨"EditionEqual", "tick", "(III)I"⟩ ∈ ez_T := ez_r3 (List.mem_of_getElem? (i := 45) rfl) rfl
theorem t_576 : Cond.instanceMethod ⟨"EditionEqual", "tick", "(III)I"⟩ ∈ ez_T := ez_r3 (List.mem_of_getElem? (i := 46) rfl) rfl
theorem t_577 : Cond.selects "EditionEqual" ⟨"EditionEqual", "tick", "(III)I"⟩ ⟨"EditionEqual", "tick", "(III)I"⟩ ∈ ez_T := ez_r3 (List.mem_of_getElem? (i := 47) rfl) rfl
theorem t_578 : Cond.code ⟨"EditionEqual", "tick", "(III)I"⟩ prog_1_method_8_code 5 (some .int) ∈ ez_T := ez_r3 (List.mem_of_getElem? (i := 48) rfl) rfl
theorem t_579 : Cond.methodLink "EditionEqual" 137 ⟨"EditionEqual$Behaviour", "outsOf", "(II)I"⟩ ∈ ez_T := ez_r3 (List.mem_of_getElem? (i := 49) rfl) rfl
theorem t_580 : Cond.instanceMethod ⟨"EditionEqual$Behaviour", "outsOf", "(II)I"⟩ ∈ ez_T := ez_r3 (List.mem_of_getElem? (i := 50) rfl) rfl
theorem t_581 : Cond.selects "EditionEqual$Behaviour" ⟨"EditionEqual$Behaviour", "outsOf", "(II)I"⟩ ⟨"EditionEqual$Behaviour", "outsOf", "(II)I"⟩ ∈ ez_T := ez_r3 (List.mem_of_getElem? (i := 51) rfl) rfl
theorem t_582 : Cond.code ⟨"EditionEqual$Behaviour", "outsOf", "(II)I"⟩ prog_2_method_5_code 3 (some .int) ∈ ez_T := ez_r3 (List.mem_of_getElem? (i := 52) rfl) rfl
theorem t_583 : Cond.methodLink "EditionEqual" 140 ⟨"EditionEqual$Behaviour", "stateAfter", "(II)I"⟩ ∈ ez_T := ez_r3 (List.mem_of_getElem? (i := 53) rfl) rfl
theorem t_586 : Cond.codeWith ⟨"EditionEqualLaw", "reached", "(LEditionEqual;I[J)I"⟩ method_10_code 4 (some .int) [(0, 9, 12, 13), (0, 9, 15, 15)] ∈ ez_T := ez_r3 (List.mem_of_getElem? (i := 56) rfl) rfl
theorem t_587 : Cond.methodLink "EditionEqualLaw" 38 ⟨"EditionEqual", "reached", "(I)I"⟩ ∈ ez_T := ez_r3 (List.mem_of_getElem? (i := 57) rfl) rfl
theorem t_588 : Cond.instanceMethod ⟨"EditionEqual", "reached", "(I)I"⟩ ∈ ez_T := ez_r3 (List.mem_of_getElem? (i := 58) rfl) rfl
theorem t_589 : Cond.selects "EditionEqual" ⟨"EditionEqual", "reached", "(I)I"⟩ ⟨"EditionEqual", "reached", "(I)I"⟩ ∈ ez_T := ez_r3 (List.mem_of_getElem? (i := 59) rfl) rfl
theorem t_590 : Cond.code ⟨"EditionEqual", "reached", "(I)I"⟩ prog_1_method_9_code 2 (some .int) ∈ ez_T := ez_r3 (List.mem_of_getElem? (i := 60) rfl) rfl
theorem t_591 : Cond.methodLink "EditionEqual" 143 ⟨"EditionEqual$Behaviour", "countReached", "()I"⟩ ∈ ez_T := ez_r3 (List.mem_of_getElem? (i := 61) rfl) rfl
theorem t_592 : Cond.instanceMethod ⟨"EditionEqual$Behaviour", "countReached", "()I"⟩ ∈ ez_T := ez_r3 (List.mem_of_getElem? (i := 62) rfl) rfl
theorem t_593 : Cond.selects "EditionEqual$Behaviour" ⟨"EditionEqual$Behaviour", "countReached", "()I"⟩ ⟨"EditionEqual$Behaviour", "countReached", "()I"⟩ ∈ ez_T := ez_r3 (List.mem_of_getElem? (i := 63) rfl) rfl
theorem t_594 : Cond.code ⟨"EditionEqual$Behaviour", "countReached", "()I"⟩ prog_2_method_7_code 1 (some .int) ∈ ez_T := ez_r3 (List.mem_of_getElem? (i := 64) rfl) rfl
theorem t_595 : Cond.methodLink "EditionEqual$Behaviour" 84 ⟨"java/lang/Integer", "bitCount", "(I)I"⟩ ∈ ez_T := ez_r3 (List.mem_of_getElem? (i := 65) rfl) rfl
theorem t_596 : Cond.static ⟨"java/lang/Integer", "bitCount", "(I)I"⟩ ∈ ez_T := ez_r3 (List.mem_of_getElem? (i := 66) rfl) rfl
theorem t_597 : Cond.code ⟨"java/lang/Integer", "bitCount", "(I)I"⟩ prog_11_method_49_code 1 (some .int) ∈ ez_T := ez_r3 (List.mem_of_getElem? (i := 67) rfl) rfl
theorem t_603 : Cond.codeWith ⟨"EditionEqualLaw", "state", "(LEditionEqual;II[J)I"⟩ method_11_code 5 (some .int) [(0, 10, 13, 13), (0, 10, 17, 15)] ∈ ez_T := ez_r3 (List.mem_of_getElem? (i := 73) rfl) rfl
theorem t_604 : Cond.methodLink "EditionEqualLaw" 41 ⟨"EditionEqual", "state", "(II)I"⟩ ∈ ez_T := ez_r3 (List.mem_of_getElem? (i := 74) rfl) rfl
theorem t_605 : Cond.instanceMethod ⟨"EditionEqual", "state", "(II)I"⟩ ∈ ez_T := ez_r3 (List.mem_of_getElem? (i := 75) rfl) rfl
theorem t_606 : Cond.selects "EditionEqual" ⟨"EditionEqual", "state", "(II)I"⟩ ⟨"EditionEqual", "state", "(II)I"⟩ ∈ ez_T := ez_r3 (List.mem_of_getElem? (i := 76) rfl) rfl
theorem t_607 : Cond.code ⟨"EditionEqual", "state", "(II)I"⟩ prog_1_method_10_code 3 (some .int) ∈ ez_T := ez_r3 (List.mem_of_getElem? (i := 77) rfl) rfl
theorem t_609 : Cond.methodLink "EditionEqual" 148 ⟨"EditionEqual$Behaviour", "reachedAt", "(I)I"⟩ ∈ ez_T := ez_r3 (List.mem_of_getElem? (i := 79) rfl) rfl
theorem t_610 : Cond.instanceMethod ⟨"EditionEqual$Behaviour", "reachedAt", "(I)I"⟩ ∈ ez_T := ez_r3 (List.mem_of_getElem? (i := 80) rfl) rfl
theorem t_611 : Cond.selects "EditionEqual$Behaviour" ⟨"EditionEqual$Behaviour", "reachedAt", "(I)I"⟩ ⟨"EditionEqual$Behaviour", "reachedAt", "(I)I"⟩ ∈ ez_T := ez_r3 (List.mem_of_getElem? (i := 81) rfl) rfl
theorem t_612 : Cond.code ⟨"EditionEqual$Behaviour", "reachedAt", "(I)I"⟩ prog_2_method_8_code 4 (some .int) ∈ ez_T := ez_r3 (List.mem_of_getElem? (i := 82) rfl) rfl
theorem t_615 : Cond.codeWith ⟨"EditionEqualLaw", "least", "(LEditionEqual;I[J)I"⟩ method_12_code 4 (some .int) [(0, 9, 12, 13), (0, 9, 15, 15)] ∈ ez_T := ez_r3 (List.mem_of_getElem? (i := 85) rfl) rfl
theorem t_616 : Cond.methodLink "EditionEqualLaw" 45 ⟨"EditionEqual", "least", "(I)I"⟩ ∈ ez_T := ez_r3 (List.mem_of_getElem? (i := 86) rfl) rfl
theorem t_617 : Cond.instanceMethod ⟨"EditionEqual", "least", "(I)I"⟩ ∈ ez_T := ez_r3 (List.mem_of_getElem? (i := 87) rfl) rfl
theorem t_618 : Cond.selects "EditionEqual" ⟨"EditionEqual", "least", "(I)I"⟩ ⟨"EditionEqual", "least", "(I)I"⟩ ∈ ez_T := ez_r3 (List.mem_of_getElem? (i := 88) rfl) rfl
theorem t_619 : Cond.code ⟨"EditionEqual", "least", "(I)I"⟩ prog_1_method_11_code 2 (some .int) ∈ ez_T := ez_r3 (List.mem_of_getElem? (i := 89) rfl) rfl
theorem t_620 : Cond.methodLink "EditionEqual" 155 ⟨"EditionEqual$Behaviour", "countClasses", "(I)I"⟩ ∈ ez_T := ez_r3 (List.mem_of_getElem? (i := 90) rfl) rfl
theorem t_621 : Cond.instanceMethod ⟨"EditionEqual$Behaviour", "countClasses", "(I)I"⟩ ∈ ez_T := ez_r3 (List.mem_of_getElem? (i := 91) rfl) rfl
theorem t_622 : Cond.selects "EditionEqual$Behaviour" ⟨"EditionEqual$Behaviour", "countClasses", "(I)I"⟩ ⟨"EditionEqual$Behaviour", "countClasses", "(I)I"⟩ ∈ ez_T := ez_r3 (List.mem_of_getElem? (i := 92) rfl) rfl
theorem t_623 : Cond.code ⟨"EditionEqual$Behaviour", "countClasses", "(I)I"⟩ prog_2_method_16_code 7 (some .int) ∈ ez_T := ez_r3 (List.mem_of_getElem? (i := 93) rfl) rfl
theorem t_624 : Cond.methodLink "EditionEqual$Behaviour" 130 ⟨"java/util/Arrays", "fill", "([II)V"⟩ ∈ ez_T := ez_r3 (List.mem_of_getElem? (i := 94) rfl) rfl
theorem t_625 : Cond.methodLink "EditionEqual$Behaviour" 136 ⟨"EditionEqual$Behaviour", "partByOuts", "(I)I"⟩ ∈ ez_T := ez_r3 (List.mem_of_getElem? (i := 95) rfl) rfl
theorem t_627 : Cond.instanceMethod ⟨"EditionEqual$Behaviour", "partByOuts", "(I)I"⟩ ∈ ez_T := ez_r3 (List.mem_of_getElem? (i := 97) rfl) rfl
theorem t_628 : Cond.code ⟨"EditionEqual$Behaviour", "partByOuts", "(I)I"⟩ prog_2_method_17_code 3 (some .int) ∈ ez_T := ez_r3 (List.mem_of_getElem? (i := 98) rfl) rfl
theorem t_629 : Cond.methodLink "EditionEqual$Behaviour" 142 ⟨"EditionEqual$Behaviour", "outsOf", "(II)I"⟩ ∈ ez_T := ez_r3 (List.mem_of_getElem? (i := 99) rfl) rfl
theorem t_630 : Cond.methodLink "EditionEqual$Behaviour" 145 ⟨"EditionEqual$Behaviour", "partByKeys", "()I"⟩ ∈ ez_T := ez_r3 (List.mem_of_getElem? (i := 100) rfl) rfl
theorem t_632 : Cond.instanceMethod ⟨"EditionEqual$Behaviour", "partByKeys", "()I"⟩ ∈ ez_T := ez_r3 (List.mem_of_getElem? (i := 102) rfl) rfl
theorem t_633 : Cond.code ⟨"EditionEqual$Behaviour", "partByKeys", "()I"⟩ prog_2_method_19_code 4 (some .int) ∈ ez_T := ez_r3 (List.mem_of_getElem? (i := 103) rfl) rfl
theorem t_634 : Cond.methodLink "EditionEqual$Behaviour" 148 ⟨"EditionEqual$Behaviour", "firstLike", "(I)I"⟩ ∈ ez_T := ez_r3 (List.mem_of_getElem? (i := 104) rfl) rfl
theorem t_636 : Cond.instanceMethod ⟨"EditionEqual$Behaviour", "firstLike", "(I)I"⟩ ∈ ez_T := ez_r3 (List.mem_of_getElem? (i := 106) rfl) rfl
theorem t_637 : Cond.code ⟨"EditionEqual$Behaviour", "firstLike", "(I)I"⟩ prog_2_method_20_code 4 (some .int) ∈ ez_T := ez_r3 (List.mem_of_getElem? (i := 107) rfl) rfl
theorem t_641 : Cond.methodLink "EditionEqual$Behaviour" 139 ⟨"EditionEqual$Behaviour", "partByNextClass", "(I)I"⟩ ∈ ez_T := ez_r3 (List.mem_of_getElem? (i := 111) rfl) rfl
theorem t_643 : Cond.instanceMethod ⟨"EditionEqual$Behaviour", "partByNextClass", "(I)I"⟩ ∈ ez_T := ez_r3 (List.mem_of_getElem? (i := 113) rfl) rfl
theorem t_644 : Cond.code ⟨"EditionEqual$Behaviour", "partByNextClass", "(I)I"⟩ prog_2_method_18_code 4 (some .int) ∈ ez_T := ez_r3 (List.mem_of_getElem? (i := 114) rfl) rfl
theorem t_647 : Cond.codeWith ⟨"EditionEqualLaw", "compare", "(LEditionEqual;[J)I"⟩ method_13_code 3 (some .int) [(0, 8, 11, 15)] ∈ ez_T := ez_r3 (List.mem_of_getElem? (i := 117) rfl) rfl
theorem t_648 : Cond.methodLink "EditionEqualLaw" 48 ⟨"EditionEqual", "compare", "()I"⟩ ∈ ez_T := ez_r3 (List.mem_of_getElem? (i := 118) rfl) rfl
theorem t_649 : Cond.instanceMethod ⟨"EditionEqual", "compare", "()I"⟩ ∈ ez_T := ez_r3 (List.mem_of_getElem? (i := 119) rfl) rfl
theorem t_650 : Cond.selects "EditionEqual" ⟨"EditionEqual", "compare", "()I"⟩ ⟨"EditionEqual", "compare", "()I"⟩ ∈ ez_T := ez_r3 (List.mem_of_getElem? (i := 120) rfl) rfl
theorem t_651 : Cond.code ⟨"EditionEqual", "compare", "()I"⟩ prog_1_method_12_code 1 (some .int) ∈ ez_T := ez_r3 (List.mem_of_getElem? (i := 121) rfl) rfl
theorem t_652 : Cond.methodLink "EditionEqual" 158 ⟨"EditionEqual", "searchOfBoth", "()LEditionEqual$PairSearch;"⟩ ∈ ez_T := ez_r3 (List.mem_of_getElem? (i := 122) rfl) rfl
theorem t_654 : Cond.instanceMethod ⟨"EditionEqual", "searchOfBoth", "()LEditionEqual$PairSearch;"⟩ ∈ ez_T := ez_r3 (List.mem_of_getElem? (i := 124) rfl) rfl
theorem t_655 : Cond.code ⟨"EditionEqual", "searchOfBoth", "()LEditionEqual$PairSearch;"⟩ prog_1_method_22_code 1 (some (.object "EditionEqual$PairSearch")) ∈ ez_T := ez_r3 (List.mem_of_getElem? (i := 125) rfl) rfl
theorem t_656 : Cond.methodLink "EditionEqual" 181 ⟨"EditionEqual", "checkBothRight", "()V"⟩ ∈ ez_T := ez_r3 (List.mem_of_getElem? (i := 126) rfl) rfl
theorem t_658 : Cond.instanceMethod ⟨"EditionEqual", "checkBothRight", "()V"⟩ ∈ ez_T := ez_r3 (List.mem_of_getElem? (i := 128) rfl) rfl
theorem t_659 : Cond.code ⟨"EditionEqual", "checkBothRight", "()V"⟩ prog_1_method_27_code 1 none ∈ ez_T := ez_r3 (List.mem_of_getElem? (i := 129) rfl) rfl
theorem t_661 : Cond.methodLink "EditionEqual" 205 ⟨"EditionEqual$PairSearch", "learn", "(I)V"⟩ ∈ ez_T := ez_r3 (List.mem_of_getElem? (i := 131) rfl) rfl
theorem t_662 : Cond.instanceMethod ⟨"EditionEqual$PairSearch", "learn", "(I)V"⟩ ∈ ez_T := ez_r3 (List.mem_of_getElem? (i := 132) rfl) rfl
theorem t_663 : Cond.selects "EditionEqual$PairSearch" ⟨"EditionEqual$PairSearch", "learn", "(I)V"⟩ ⟨"EditionEqual$PairSearch", "learn", "(I)V"⟩ ∈ ez_T := ez_r3 (List.mem_of_getElem? (i := 133) rfl) rfl
theorem t_664 : Cond.code ⟨"EditionEqual$PairSearch", "learn", "(I)V"⟩ prog_5_method_3_code 3 none ∈ ez_T := ez_r3 (List.mem_of_getElem? (i := 134) rfl) rfl
theorem t_665 : Cond.methodLink "EditionEqual$PairSearch" 54 ⟨"java/util/Arrays", "fill", "([II)V"⟩ ∈ ez_T := ez_r3 (List.mem_of_getElem? (i := 135) rfl) rfl
theorem t_666 : Cond.methodLink "EditionEqual$PairSearch" 60 ⟨"EditionEqual$PairSearch", "meet", "(IIII)V"⟩ ∈ ez_T := ez_r3 (List.mem_of_getElem? (i := 136) rfl) rfl
theorem t_668 : Cond.instanceMethod ⟨"EditionEqual$PairSearch", "meet", "(IIII)V"⟩ ∈ ez_T := ez_r3 (List.mem_of_getElem? (i := 138) rfl) rfl
theorem t_669 : Cond.code ⟨"EditionEqual$PairSearch", "meet", "(IIII)V"⟩ prog_5_method_9_code 6 none ∈ ez_T := ez_r3 (List.mem_of_getElem? (i := 139) rfl) rfl
theorem t_670 : Cond.methodLinkNest "EditionEqual$PairSearch" 72 ⟨"EditionEqual", "isWithin", "(II)Z"⟩ "EditionEqual" ∈ ez_T := ez_r3 (List.mem_of_getElem? (i := 140) rfl) rfl
theorem t_671 : Cond.methodLinkNest "EditionEqual$PairSearch" 76 ⟨"EditionEqual", "holds", "(II)Z"⟩ "EditionEqual" ∈ ez_T := ez_r3 (List.mem_of_getElem? (i := 141) rfl) rfl
theorem t_672 : Cond.methodLinkNest "EditionEqual$PairSearch" 91 ⟨"EditionEqual", "bitOf", "(I)I"⟩ "EditionEqual" ∈ ez_T := ez_r3 (List.mem_of_getElem? (i := 142) rfl) rfl
theorem t_673 : Cond.methodLink "EditionEqual$PairSearch" 64 ⟨"EditionEqual$PairSearch", "goOnFrom", "(II)V"⟩ ∈ ez_T := ez_r3 (List.mem_of_getElem? (i := 143) rfl) rfl
theorem t_675 : Cond.instanceMethod ⟨"EditionEqual$PairSearch", "goOnFrom", "(II)V"⟩ ∈ ez_T := ez_r3 (List.mem_of_getElem? (i := 145) rfl) rfl
theorem t_676 : Cond.code ⟨"EditionEqual$PairSearch", "goOnFrom", "(II)V"⟩ prog_5_method_8_code 6 none ∈ ez_T := ez_r3 (List.mem_of_getElem? (i := 146) rfl) rfl
theorem t_677 : Cond.methodLink "EditionEqual$PairSearch" 79 ⟨"EditionEqual$Behaviour", "outsOf", "(II)I"⟩ ∈ ez_T := ez_r3 (List.mem_of_getElem? (i := 147) rfl) rfl
theorem t_678 : Cond.methodLink "EditionEqual$PairSearch" 85 ⟨"EditionEqual$PairSearch", "keepShown", "(II)V"⟩ ∈ ez_T := ez_r3 (List.mem_of_getElem? (i := 148) rfl) rfl
theorem t_680 : Cond.instanceMethod ⟨"EditionEqual$PairSearch", "keepShown", "(II)V"⟩ ∈ ez_T := ez_r3 (List.mem_of_getElem? (i := 150) rfl) rfl
theorem t_681 : Cond.code ⟨"EditionEqual$PairSearch", "keepShown", "(II)V"⟩ prog_5_method_10_code 4 none ∈ ez_T := ez_r3 (List.mem_of_getElem? (i := 151) rfl) rfl
theorem t_682 : Cond.methodLink "EditionEqual$PairSearch" 68 ⟨"EditionEqual$PairSearch", "placeBefore", "(I)I"⟩ ∈ ez_T := ez_r3 (List.mem_of_getElem? (i := 152) rfl) rfl
theorem t_684 : Cond.instanceMethod ⟨"EditionEqual$PairSearch", "placeBefore", "(I)I"⟩ ∈ ez_T := ez_r3 (List.mem_of_getElem? (i := 154) rfl) rfl
theorem t_685 : Cond.code ⟨"EditionEqual$PairSearch", "placeBefore", "(I)I"⟩ prog_5_method_11_code 2 (some .int) ∈ ez_T := ez_r3 (List.mem_of_getElem? (i := 155) rfl) rfl
theorem t_686 : Cond.methodLink "EditionEqual$PairSearch" 88 ⟨"EditionEqual$Behaviour", "stateAfter", "(II)I"⟩ ∈ ez_T := ez_r3 (List.mem_of_getElem? (i := 156) rfl) rfl
theorem t_687 : Cond.methodLink "EditionEqual" 162 ⟨"EditionEqual$PairSearch", "countShown", "()I"⟩ ∈ ez_T := ez_r3 (List.mem_of_getElem? (i := 157) rfl) rfl
theorem t_688 : Cond.instanceMethod ⟨"EditionEqual$PairSearch", "countShown", "()I"⟩ ∈ ez_T := ez_r3 (List.mem_of_getElem? (i := 158) rfl) rfl
theorem t_689 : Cond.selects "EditionEqual$PairSearch" ⟨"EditionEqual$PairSearch", "countShown", "()I"⟩ ⟨"EditionEqual$PairSearch", "countShown", "()I"⟩ ∈ ez_T := ez_r3 (List.mem_of_getElem? (i := 159) rfl) rfl
theorem t_690 : Cond.code ⟨"EditionEqual$PairSearch", "countShown", "()I"⟩ prog_5_method_5_code 1 (some .int) ∈ ez_T := ez_r3 (List.mem_of_getElem? (i := 160) rfl) rfl
theorem t_693 : Cond.codeWith ⟨"EditionEqualLaw", "shown", "(LEditionEqual;I[J)I"⟩ method_14_code 4 (some .int) [(0, 9, 12, 13), (0, 9, 15, 15)] ∈ ez_T := ez_r3 (List.mem_of_getElem? (i := 163) rfl) rfl
theorem t_694 : Cond.methodLink "EditionEqualLaw" 52 ⟨"EditionEqual", "shown", "(I)I"⟩ ∈ ez_T := ez_r3 (List.mem_of_getElem? (i := 164) rfl) rfl
theorem t_695 : Cond.instanceMethod ⟨"EditionEqual", "shown", "(I)I"⟩ ∈ ez_T := ez_r3 (List.mem_of_getElem? (i := 165) rfl) rfl
theorem t_696 : Cond.selects "EditionEqual" ⟨"EditionEqual", "shown", "(I)I"⟩ ⟨"EditionEqual", "shown", "(I)I"⟩ ∈ ez_T := ez_r3 (List.mem_of_getElem? (i := 166) rfl) rfl
theorem t_697 : Cond.code ⟨"EditionEqual", "shown", "(I)I"⟩ prog_1_method_13_code 3 (some .int) ∈ ez_T := ez_r3 (List.mem_of_getElem? (i := 167) rfl) rfl
theorem t_700 : Cond.methodLink "EditionEqual" 169 ⟨"EditionEqual$PairSearch", "shownRow", "(I)I"⟩ ∈ ez_T := ez_r3 (List.mem_of_getElem? (i := 170) rfl) rfl
theorem t_701 : Cond.instanceMethod ⟨"EditionEqual$PairSearch", "shownRow", "(I)I"⟩ ∈ ez_T := ez_r3 (List.mem_of_getElem? (i := 171) rfl) rfl
theorem t_702 : Cond.selects "EditionEqual$PairSearch" ⟨"EditionEqual$PairSearch", "shownRow", "(I)I"⟩ ⟨"EditionEqual$PairSearch", "shownRow", "(I)I"⟩ ∈ ez_T := ez_r3 (List.mem_of_getElem? (i := 172) rfl) rfl
theorem t_703 : Cond.code ⟨"EditionEqual$PairSearch", "shownRow", "(I)I"⟩ prog_5_method_6_code 4 (some .int) ∈ ez_T := ez_r3 (List.mem_of_getElem? (i := 173) rfl) rfl
theorem t_706 : Cond.codeWith ⟨"EditionEqualLaw", "last", "(LEditionEqual;I[J)I"⟩ method_15_code 4 (some .int) [(0, 9, 12, 13), (0, 9, 15, 15)] ∈ ez_T := ez_r3 (List.mem_of_getElem? (i := 176) rfl) rfl
theorem t_707 : Cond.methodLink "EditionEqualLaw" 55 ⟨"EditionEqual", "last", "(I)I"⟩ ∈ ez_T := ez_r3 (List.mem_of_getElem? (i := 177) rfl) rfl
theorem t_708 : Cond.instanceMethod ⟨"EditionEqual", "last", "(I)I"⟩ ∈ ez_T := ez_r3 (List.mem_of_getElem? (i := 178) rfl) rfl
theorem t_709 : Cond.selects "EditionEqual" ⟨"EditionEqual", "last", "(I)I"⟩ ⟨"EditionEqual", "last", "(I)I"⟩ ∈ ez_T := ez_r3 (List.mem_of_getElem? (i := 179) rfl) rfl
theorem t_710 : Cond.code ⟨"EditionEqual", "last", "(I)I"⟩ prog_1_method_14_code 2 (some .int) ∈ ez_T := ez_r3 (List.mem_of_getElem? (i := 180) rfl) rfl
theorem t_711 : Cond.methodLink "EditionEqual" 175 ⟨"EditionEqual$PairSearch", "lastOuts", "(I)I"⟩ ∈ ez_T := ez_r3 (List.mem_of_getElem? (i := 181) rfl) rfl
theorem t_712 : Cond.instanceMethod ⟨"EditionEqual$PairSearch", "lastOuts", "(I)I"⟩ ∈ ez_T := ez_r3 (List.mem_of_getElem? (i := 182) rfl) rfl
theorem t_713 : Cond.selects "EditionEqual$PairSearch" ⟨"EditionEqual$PairSearch", "lastOuts", "(I)I"⟩ ⟨"EditionEqual$PairSearch", "lastOuts", "(I)I"⟩ ∈ ez_T := ez_r3 (List.mem_of_getElem? (i := 183) rfl) rfl
theorem t_714 : Cond.code ⟨"EditionEqual$PairSearch", "lastOuts", "(I)I"⟩ prog_5_method_7_code 2 (some .int) ∈ ez_T := ez_r3 (List.mem_of_getElem? (i := 184) rfl) rfl
theorem t_717 : Cond.codeWith ⟨"EditionEqualLaw", "pairs", "(LEditionEqual;[J)I"⟩ method_16_code 3 (some .int) [(0, 8, 11, 15)] ∈ ez_T := ez_r3 (List.mem_of_getElem? (i := 187) rfl) rfl
theorem t_718 : Cond.methodLink "EditionEqualLaw" 58 ⟨"EditionEqual", "pairs", "()I"⟩ ∈ ez_T := ez_r3 (List.mem_of_getElem? (i := 188) rfl) rfl
theorem t_719 : Cond.instanceMethod ⟨"EditionEqual", "pairs", "()I"⟩ ∈ ez_T := ez_r3 (List.mem_of_getElem? (i := 189) rfl) rfl
theorem t_720 : Cond.selects "EditionEqual" ⟨"EditionEqual", "pairs", "()I"⟩ ⟨"EditionEqual", "pairs", "()I"⟩ ∈ ez_T := ez_r3 (List.mem_of_getElem? (i := 190) rfl) rfl
theorem t_721 : Cond.code ⟨"EditionEqual", "pairs", "()I"⟩ prog_1_method_15_code 1 (some .int) ∈ ez_T := ez_r3 (List.mem_of_getElem? (i := 191) rfl) rfl
theorem t_722 : Cond.methodLink "EditionEqual" 178 ⟨"EditionEqual$PairSearch", "countPairs", "()I"⟩ ∈ ez_T := ez_r3 (List.mem_of_getElem? (i := 192) rfl) rfl
theorem t_723 : Cond.instanceMethod ⟨"EditionEqual$PairSearch", "countPairs", "()I"⟩ ∈ ez_T := ez_r3 (List.mem_of_getElem? (i := 193) rfl) rfl
theorem t_724 : Cond.selects "EditionEqual$PairSearch" ⟨"EditionEqual$PairSearch", "countPairs", "()I"⟩ ⟨"EditionEqual$PairSearch", "countPairs", "()I"⟩ ∈ ez_T := ez_r3 (List.mem_of_getElem? (i := 194) rfl) rfl
theorem t_725 : Cond.code ⟨"EditionEqual$PairSearch", "countPairs", "()I"⟩ prog_5_method_4_code 1 (some .int) ∈ ez_T := ez_r3 (List.mem_of_getElem? (i := 195) rfl) rfl
theorem t_728 : Cond.codeWith ⟨"EditionEqualLaw", "same", "(LEditionEqual;[J)I"⟩ method_17_code 3 (some .int) [(0, 15, 18, 15)] ∈ ez_T := ez_r3 (List.mem_of_getElem? (i := 198) rfl) rfl
theorem t_729 : Cond.methodLink "EditionEqualLaw" 61 ⟨"EditionEqual", "same", "()Z"⟩ ∈ ez_T := ez_r3 (List.mem_of_getElem? (i := 199) rfl) rfl
theorem t_730 : Cond.instanceMethod ⟨"EditionEqual", "same", "()Z"⟩ ∈ ez_T := ez_r3 (List.mem_of_getElem? (i := 200) rfl) rfl
theorem t_731 : Cond.selects "EditionEqual" ⟨"EditionEqual", "same", "()Z"⟩ ⟨"EditionEqual", "same", "()Z"⟩ ∈ ez_T := ez_r3 (List.mem_of_getElem? (i := 201) rfl) rfl
theorem t_732 : Cond.code ⟨"EditionEqual", "same", "()Z"⟩ prog_1_method_16_code 1 (some .boolean) ∈ ez_T := ez_r3 (List.mem_of_getElem? (i := 202) rfl) rfl
theorem t_733 : Cond.methodLink "EditionEqual" 184 ⟨"EditionEqual$Matching", "matchAll", "()Z"⟩ ∈ ez_T := ez_r3 (List.mem_of_getElem? (i := 203) rfl) rfl
theorem t_734 : Cond.instanceMethod ⟨"EditionEqual$Matching", "matchAll", "()Z"⟩ ∈ ez_T := ez_r3 (List.mem_of_getElem? (i := 204) rfl) rfl
theorem t_735 : Cond.selects "EditionEqual$Matching" ⟨"EditionEqual$Matching", "matchAll", "()Z"⟩ ⟨"EditionEqual$Matching", "matchAll", "()Z"⟩ ∈ ez_T := ez_r3 (List.mem_of_getElem? (i := 205) rfl) rfl
theorem t_736 : Cond.code ⟨"EditionEqual$Matching", "matchAll", "()Z"⟩ prog_4_method_2_code 5 (some .boolean) ∈ ez_T := ez_r3 (List.mem_of_getElem? (i := 206) rfl) rfl
theorem t_737 : Cond.methodLink "EditionEqual$Matching" 32 ⟨"java/util/Arrays", "fill", "([II)V"⟩ ∈ ez_T := ez_r3 (List.mem_of_getElem? (i := 207) rfl) rfl
theorem t_738 : Cond.methodLink "EditionEqual$Matching" 38 ⟨"EditionEqual$Edition", "outputAt", "(I)I"⟩ ∈ ez_T := ez_r3 (List.mem_of_getElem? (i := 208) rfl) rfl
theorem t_739 : Cond.methodLink "EditionEqual$Matching" 44 ⟨"EditionEqual$Matching", "matchBoth", "(II)Z"⟩ ∈ ez_T := ez_r3 (List.mem_of_getElem? (i := 209) rfl) rfl
theorem t_741 : Cond.instanceMethod ⟨"EditionEqual$Matching", "matchBoth", "(II)Z"⟩ ∈ ez_T := ez_r3 (List.mem_of_getElem? (i := 211) rfl) rfl
theorem t_742 : Cond.code ⟨"EditionEqual$Matching", "matchBoth", "(II)Z"⟩ prog_4_method_4_code 4 (some .boolean) ∈ ez_T := ez_r3 (List.mem_of_getElem? (i := 212) rfl) rfl
theorem t_743 : Cond.methodLinkNest "EditionEqual$Matching" 55 ⟨"EditionEqual", "isWithin", "(II)Z"⟩ "EditionEqual" ∈ ez_T := ez_r3 (List.mem_of_getElem? (i := 213) rfl) rfl
theorem t_744 : Cond.methodLink "EditionEqual$Matching" 58 ⟨"EditionEqual$Matching", "areOfOneSort", "(II)Z"⟩ ∈ ez_T := ez_r3 (List.mem_of_getElem? (i := 214) rfl) rfl
theorem t_746 : Cond.instanceMethod ⟨"EditionEqual$Matching", "areOfOneSort", "(II)Z"⟩ ∈ ez_T := ez_r3 (List.mem_of_getElem? (i := 216) rfl) rfl
theorem t_747 : Cond.code ⟨"EditionEqual$Matching", "areOfOneSort", "(II)Z"⟩ prog_4_method_5_code 5 (some .boolean) ∈ ez_T := ez_r3 (List.mem_of_getElem? (i := 217) rfl) rfl
theorem t_748 : Cond.methodLink "EditionEqual$Matching" 61 ⟨"EditionEqual$Edition", "kindOf", "(I)I"⟩ ∈ ez_T := ez_r3 (List.mem_of_getElem? (i := 218) rfl) rfl
theorem t_749 : Cond.methodLink "EditionEqual$Matching" 64 ⟨"EditionEqual$Edition", "numberOf", "(I)I"⟩ ∈ ez_T := ez_r3 (List.mem_of_getElem? (i := 219) rfl) rfl
theorem t_750 : Cond.methodLink "EditionEqual$Matching" 48 ⟨"EditionEqual$Matching", "partnerOf", "(I)I"⟩ ∈ ez_T := ez_r3 (List.mem_of_getElem? (i := 220) rfl) rfl
theorem t_751 : Cond.instanceMethod ⟨"EditionEqual$Matching", "partnerOf", "(I)I"⟩ ∈ ez_T := ez_r3 (List.mem_of_getElem? (i := 221) rfl) rfl
theorem t_752 : Cond.selects "EditionEqual$Matching" ⟨"EditionEqual$Matching", "partnerOf", "(I)I"⟩ ⟨"EditionEqual$Matching", "partnerOf", "(I)I"⟩ ∈ ez_T := ez_r3 (List.mem_of_getElem? (i := 222) rfl) rfl
theorem t_753 : Cond.code ⟨"EditionEqual$Matching", "partnerOf", "(I)I"⟩ prog_4_method_3_code 2 (some .int) ∈ ez_T := ez_r3 (List.mem_of_getElem? (i := 223) rfl) rfl
theorem t_754 : Cond.methodLink "EditionEqual$Matching" 51 ⟨"EditionEqual$Edition", "neededAt", "(II)I"⟩ ∈ ez_T := ez_r3 (List.mem_of_getElem? (i := 224) rfl) rfl
theorem t_757 : Cond.codeWith ⟨"EditionEqualLaw", "matched", "(LEditionEqual;I[J)I"⟩ method_18_code 4 (some .int) [(0, 9, 12, 13), (0, 9, 15, 15)] ∈ ez_T := ez_r3 (List.mem_of_getElem? (i := 227) rfl) rfl
theorem t_758 : Cond.methodLink "EditionEqualLaw" 65 ⟨"EditionEqual", "matched", "(I)I"⟩ ∈ ez_T := ez_r3 (List.mem_of_getElem? (i := 228) rfl) rfl
theorem t_759 : Cond.instanceMethod ⟨"EditionEqual", "matched", "(I)I"⟩ ∈ ez_T := ez_r3 (List.mem_of_getElem? (i := 229) rfl) rfl
theorem t_760 : Cond.selects "EditionEqual" ⟨"EditionEqual", "matched", "(I)I"⟩ ⟨"EditionEqual", "matched", "(I)I"⟩ ∈ ez_T := ez_r3 (List.mem_of_getElem? (i := 230) rfl) rfl
theorem t_761 : Cond.code ⟨"EditionEqual", "matched", "(I)I"⟩ prog_1_method_17_code 2 (some .int) ∈ ez_T := ez_r3 (List.mem_of_getElem? (i := 231) rfl) rfl
theorem t_762 : Cond.methodLink "EditionEqual" 188 ⟨"EditionEqual$Matching", "partnerOf", "(I)I"⟩ ∈ ez_T := ez_r3 (List.mem_of_getElem? (i := 232) rfl) rfl
theorem t_765 : Cond.codeWith ⟨"EditionEqualLaw", "idle", "(LEditionEqual;II[J)I"⟩ method_19_code 5 (some .int) [(0, 10, 13, 13)] ∈ ez_T := ez_r3 (List.mem_of_getElem? (i := 235) rfl) rfl
theorem t_766 : Cond.methodLink "EditionEqualLaw" 68 ⟨"EditionEqual", "idle", "(II)I"⟩ ∈ ez_T := ez_r3 (List.mem_of_getElem? (i := 236) rfl) rfl
theorem t_767 : Cond.instanceMethod ⟨"EditionEqual", "idle", "(II)I"⟩ ∈ ez_T := ez_r3 (List.mem_of_getElem? (i := 237) rfl) rfl
theorem t_768 : Cond.selects "EditionEqual" ⟨"EditionEqual", "idle", "(II)I"⟩ ⟨"EditionEqual", "idle", "(II)I"⟩ ∈ ez_T := ez_r3 (List.mem_of_getElem? (i := 238) rfl) rfl
theorem t_769 : Cond.code ⟨"EditionEqual", "idle", "(II)I"⟩ prog_1_method_18_code 4 (some .int) ∈ ez_T := ez_r3 (List.mem_of_getElem? (i := 239) rfl) rfl
theorem t_771 : Cond.methodLink "EditionEqual" 193 ⟨"EditionEqual$Edition", "idleAt", "(I)I"⟩ ∈ ez_T := ez_r4 (List.mem_of_getElem? (i := 1) rfl) rfl
theorem t_772 : Cond.instanceMethod ⟨"EditionEqual$Edition", "idleAt", "(I)I"⟩ ∈ ez_T := ez_r4 (List.mem_of_getElem? (i := 2) rfl) rfl
theorem t_773 : Cond.selects "EditionEqual$Edition" ⟨"EditionEqual$Edition", "idleAt", "(I)I"⟩ ⟨"EditionEqual$Edition", "idleAt", "(I)I"⟩ ∈ ez_T := ez_r4 (List.mem_of_getElem? (i := 3) rfl) rfl
theorem t_774 : Cond.code ⟨"EditionEqual$Edition", "idleAt", "(I)I"⟩ prog_3_method_20_code 5 (some .int) ∈ ez_T := ez_r4 (List.mem_of_getElem? (i := 4) rfl) rfl
theorem t_775 : Cond.methodLink "EditionEqual$Edition" 87 ⟨"EditionEqual$Edition", "liveBlocks", "()I"⟩ ∈ ez_T := ez_r4 (List.mem_of_getElem? (i := 5) rfl) rfl
theorem t_777 : Cond.instanceMethod ⟨"EditionEqual$Edition", "liveBlocks", "()I"⟩ ∈ ez_T := ez_r4 (List.mem_of_getElem? (i := 7) rfl) rfl
theorem t_778 : Cond.code ⟨"EditionEqual$Edition", "liveBlocks", "()I"⟩ prog_3_method_21_code 6 (some .int) ∈ ez_T := ez_r4 (List.mem_of_getElem? (i := 8) rfl) rfl
theorem t_781 : Cond.codeWith ⟨"EditionEqualLaw", "blocks", "(LEditionEqual;I[J)I"⟩ method_20_code 4 (some .int) [(0, 9, 12, 13)] ∈ ez_T := ez_r4 (List.mem_of_getElem? (i := 11) rfl) rfl
theorem t_782 : Cond.methodLink "EditionEqualLaw" 71 ⟨"EditionEqual", "blocks", "(I)I"⟩ ∈ ez_T := ez_r4 (List.mem_of_getElem? (i := 12) rfl) rfl
theorem t_783 : Cond.instanceMethod ⟨"EditionEqual", "blocks", "(I)I"⟩ ∈ ez_T := ez_r4 (List.mem_of_getElem? (i := 13) rfl) rfl
theorem t_784 : Cond.selects "EditionEqual" ⟨"EditionEqual", "blocks", "(I)I"⟩ ⟨"EditionEqual", "blocks", "(I)I"⟩ ∈ ez_T := ez_r4 (List.mem_of_getElem? (i := 14) rfl) rfl
theorem t_785 : Cond.code ⟨"EditionEqual", "blocks", "(I)I"⟩ prog_1_method_19_code 2 (some .int) ∈ ez_T := ez_r4 (List.mem_of_getElem? (i := 15) rfl) rfl
theorem t_786 : Cond.methodLink "EditionEqual" 196 ⟨"EditionEqual$Edition", "countBlocks", "()I"⟩ ∈ ez_T := ez_r4 (List.mem_of_getElem? (i := 16) rfl) rfl
theorem t_787 : Cond.classLink "EditionEqualLaw" 83 "EditionEqualModel" ∈ ez_T := ez_r4 (List.mem_of_getElem? (i := 17) rfl) rfl
theorem t_791 : Cond.code ⟨"EditionEqualModel", "<init>", "(I)V"⟩ prog_7_method_1_code 3 none ∈ ez_T := ez_r4 (List.mem_of_getElem? (i := 21) rfl) rfl
theorem t_793 : Cond.fieldLink "EditionEqualModel" 66 "EditionEqualModel" "thrown" "I" ∈ ez_T := ez_r4 (List.mem_of_getElem? (i := 23) rfl) rfl
theorem t_794 : Cond.fieldLink "EditionEqualModel" 62 "EditionEqualModel" "points" "I" ∈ ez_T := ez_r4 (List.mem_of_getElem? (i := 24) rfl) rfl
theorem t_795 : Cond.fieldLink "EditionEqualModel" 7 "EditionEqualModel" "barred" "[Z" ∈ ez_T := ez_r4 (List.mem_of_getElem? (i := 25) rfl) rfl
theorem t_796 : Cond.fieldLink "EditionEqualModel" 13 "EditionEqualModel" "counts" "[I" ∈ ez_T := ez_r4 (List.mem_of_getElem? (i := 26) rfl) rfl
theorem t_797 : Cond.fieldLink "EditionEqualModel" 17 "EditionEqualModel" "kinds" "[I" ∈ ez_T := ez_r4 (List.mem_of_getElem? (i := 27) rfl) rfl
theorem t_798 : Cond.fieldLink "EditionEqualModel" 20 "EditionEqualModel" "numbers" "[I" ∈ ez_T := ez_r4 (List.mem_of_getElem? (i := 28) rfl) rfl
theorem t_799 : Cond.fieldLink "EditionEqualModel" 23 "EditionEqualModel" "firsts" "[I" ∈ ez_T := ez_r4 (List.mem_of_getElem? (i := 29) rfl) rfl
theorem t_800 : Cond.fieldLink "EditionEqualModel" 26 "EditionEqualModel" "seconds" "[I" ∈ ez_T := ez_r4 (List.mem_of_getElem? (i := 30) rfl) rfl
theorem t_801 : Cond.fieldLink "EditionEqualModel" 29 "EditionEqualModel" "outs" "[I" ∈ ez_T := ez_r4 (List.mem_of_getElem? (i := 31) rfl) rfl
theorem t_802 : Cond.fieldLink "EditionEqualModel" 32 "EditionEqualModel" "come" "[Z" ∈ ez_T := ez_r4 (List.mem_of_getElem? (i := 32) rfl) rfl
theorem t_803 : Cond.fieldLink "EditionEqualModel" 35 "EditionEqualModel" "values" "[I" ∈ ez_T := ez_r4 (List.mem_of_getElem? (i := 33) rfl) rfl
theorem t_804 : Cond.fieldLink "EditionEqualModel" 38 "EditionEqualModel" "table" "[I" ∈ ez_T := ez_r4 (List.mem_of_getElem? (i := 34) rfl) rfl
theorem t_805 : Cond.fieldLink "EditionEqualModel" 41 "EditionEqualModel" "reached" "[Z" ∈ ez_T := ez_r4 (List.mem_of_getElem? (i := 35) rfl) rfl
theorem t_806 : Cond.fieldLink "EditionEqualModel" 44 "EditionEqualModel" "apart" "[Z" ∈ ez_T := ez_r4 (List.mem_of_getElem? (i := 36) rfl) rfl
theorem t_807 : Cond.fieldLink "EditionEqualModel" 129 "EditionEqualModel" "pairCount" "I" ∈ ez_T := ez_r4 (List.mem_of_getElem? (i := 37) rfl) rfl
theorem t_808 : Cond.fieldLink "EditionEqualModel" 47 "EditionEqualModel" "pairs" "[I" ∈ ez_T := ez_r4 (List.mem_of_getElem? (i := 38) rfl) rfl
theorem t_809 : Cond.fieldLink "EditionEqualModel" 50 "EditionEqualModel" "cameFrom" "[I" ∈ ez_T := ez_r4 (List.mem_of_getElem? (i := 39) rfl) rfl
theorem t_810 : Cond.fieldLink "EditionEqualModel" 53 "EditionEqualModel" "cameBy" "[I" ∈ ez_T := ez_r4 (List.mem_of_getElem? (i := 40) rfl) rfl
theorem t_811 : Cond.fieldLink "EditionEqualModel" 56 "EditionEqualModel" "seen" "[Z" ∈ ez_T := ez_r4 (List.mem_of_getElem? (i := 41) rfl) rfl
theorem t_812 : Cond.fieldLink "EditionEqualModel" 132 "EditionEqualModel" "differsAt" "I" ∈ ez_T := ez_r4 (List.mem_of_getElem? (i := 42) rfl) rfl
theorem t_813 : Cond.fieldLink "EditionEqualModel" 138 "EditionEqualModel" "differsBy" "I" ∈ ez_T := ez_r4 (List.mem_of_getElem? (i := 43) rfl) rfl
theorem t_814 : Cond.fieldLink "EditionEqualModel" 59 "EditionEqualModel" "match" "[Z" ∈ ez_T := ez_r4 (List.mem_of_getElem? (i := 44) rfl) rfl
theorem t_815 : Cond.lays "EditionEqualModel" "EditionEqualModel" "thrown" "I" ∈ ez_T := ez_r4 (List.mem_of_getElem? (i := 45) rfl) rfl
theorem t_817 : Cond.laysFinal "EditionEqualModel" "EditionEqualModel" "points" "I" ∈ ez_T := ez_r4 (List.mem_of_getElem? (i := 47) rfl) rfl
theorem t_819 : Cond.laysFinal "EditionEqualModel" "EditionEqualModel" "barred" "[Z" ∈ ez_T := ez_r4 (List.mem_of_getElem? (i := 49) rfl) rfl
theorem t_821 : Cond.laysFinal "EditionEqualModel" "EditionEqualModel" "counts" "[I" ∈ ez_T := ez_r4 (List.mem_of_getElem? (i := 51) rfl) rfl
theorem t_823 : Cond.laysFinal "EditionEqualModel" "EditionEqualModel" "kinds" "[I" ∈ ez_T := ez_r4 (List.mem_of_getElem? (i := 53) rfl) rfl
theorem t_825 : Cond.laysFinal "EditionEqualModel" "EditionEqualModel" "numbers" "[I" ∈ ez_T := ez_r4 (List.mem_of_getElem? (i := 55) rfl) rfl
theorem t_827 : Cond.laysFinal "EditionEqualModel" "EditionEqualModel" "firsts" "[I" ∈ ez_T := ez_r4 (List.mem_of_getElem? (i := 57) rfl) rfl
theorem t_829 : Cond.laysFinal "EditionEqualModel" "EditionEqualModel" "seconds" "[I" ∈ ez_T := ez_r4 (List.mem_of_getElem? (i := 59) rfl) rfl
theorem t_831 : Cond.laysFinal "EditionEqualModel" "EditionEqualModel" "outs" "[I" ∈ ez_T := ez_r4 (List.mem_of_getElem? (i := 61) rfl) rfl
theorem t_833 : Cond.laysFinal "EditionEqualModel" "EditionEqualModel" "come" "[Z" ∈ ez_T := ez_r4 (List.mem_of_getElem? (i := 63) rfl) rfl
theorem t_835 : Cond.laysFinal "EditionEqualModel" "EditionEqualModel" "values" "[I" ∈ ez_T := ez_r4 (List.mem_of_getElem? (i := 65) rfl) rfl
theorem t_837 : Cond.laysFinal "EditionEqualModel" "EditionEqualModel" "table" "[I" ∈ ez_T := ez_r4 (List.mem_of_getElem? (i := 67) rfl) rfl
theorem t_839 : Cond.laysFinal "EditionEqualModel" "EditionEqualModel" "reached" "[Z" ∈ ez_T := ez_r4 (List.mem_of_getElem? (i := 69) rfl) rfl
theorem t_841 : Cond.laysFinal "EditionEqualModel" "EditionEqualModel" "apart" "[Z" ∈ ez_T := ez_r4 (List.mem_of_getElem? (i := 71) rfl) rfl
theorem t_843 : Cond.lays "EditionEqualModel" "EditionEqualModel" "pairCount" "I" ∈ ez_T := ez_r4 (List.mem_of_getElem? (i := 73) rfl) rfl
theorem t_845 : Cond.laysFinal "EditionEqualModel" "EditionEqualModel" "pairs" "[I" ∈ ez_T := ez_r4 (List.mem_of_getElem? (i := 75) rfl) rfl
theorem t_847 : Cond.laysFinal "EditionEqualModel" "EditionEqualModel" "cameFrom" "[I" ∈ ez_T := ez_r4 (List.mem_of_getElem? (i := 77) rfl) rfl
theorem t_849 : Cond.laysFinal "EditionEqualModel" "EditionEqualModel" "cameBy" "[I" ∈ ez_T := ez_r4 (List.mem_of_getElem? (i := 79) rfl) rfl
theorem t_851 : Cond.laysFinal "EditionEqualModel" "EditionEqualModel" "seen" "[Z" ∈ ez_T := ez_r4 (List.mem_of_getElem? (i := 81) rfl) rfl
theorem t_853 : Cond.lays "EditionEqualModel" "EditionEqualModel" "differsAt" "I" ∈ ez_T := ez_r4 (List.mem_of_getElem? (i := 83) rfl) rfl
theorem t_855 : Cond.lays "EditionEqualModel" "EditionEqualModel" "differsBy" "I" ∈ ez_T := ez_r4 (List.mem_of_getElem? (i := 85) rfl) rfl
theorem t_857 : Cond.laysFinal "EditionEqualModel" "EditionEqualModel" "match" "[Z" ∈ ez_T := ez_r4 (List.mem_of_getElem? (i := 87) rfl) rfl
theorem t_864 : Cond.code ⟨"EditionEqualModel", "thrown", "()I"⟩ prog_7_method_2_code 1 (some .int) ∈ ez_T := ez_r4 (List.mem_of_getElem? (i := 94) rfl) rfl
theorem t_868 : Cond.code ⟨"EditionEqualModel", "block", "(III)I"⟩ prog_7_method_10_code 6 (some .int) ∈ ez_T := ez_r4 (List.mem_of_getElem? (i := 98) rfl) rfl
theorem t_869 : Cond.methodLink "EditionEqualModel" 69 ⟨"EditionEqualModel", "in", "(III)Z"⟩ ∈ ez_T := ez_r4 (List.mem_of_getElem? (i := 99) rfl) rfl
theorem t_870 : Cond.static ⟨"EditionEqualModel", "in", "(III)Z"⟩ ∈ ez_T := ez_r4 (List.mem_of_getElem? (i := 100) rfl) rfl
theorem t_871 : Cond.code ⟨"EditionEqualModel", "in", "(III)Z"⟩ prog_7_method_3_code 3 (some .boolean) ∈ ez_T := ez_r4 (List.mem_of_getElem? (i := 101) rfl) rfl
theorem t_872 : Cond.methodLink "EditionEqualModel" 73 ⟨"EditionEqualModel", "delays", "(I)I"⟩ ∈ ez_T := ez_r4 (List.mem_of_getElem? (i := 102) rfl) rfl
theorem t_874 : Cond.instanceMethod ⟨"EditionEqualModel", "delays", "(I)I"⟩ ∈ ez_T := ez_r4 (List.mem_of_getElem? (i := 104) rfl) rfl
theorem t_875 : Cond.code ⟨"EditionEqualModel", "delays", "(I)I"⟩ prog_7_method_9_code 4 (some .int) ∈ ez_T := ez_r4 (List.mem_of_getElem? (i := 105) rfl) rfl
theorem t_876 : Cond.methodLink "EditionEqualModel" 77 ⟨"EditionEqualModel", "goes", "(ZZ)Z"⟩ ∈ ez_T := ez_r4 (List.mem_of_getElem? (i := 106) rfl) rfl
theorem t_878 : Cond.instanceMethod ⟨"EditionEqualModel", "goes", "(ZZ)Z"⟩ ∈ ez_T := ez_r4 (List.mem_of_getElem? (i := 108) rfl) rfl
theorem t_879 : Cond.code ⟨"EditionEqualModel", "goes", "(ZZ)Z"⟩ prog_7_method_4_code 3 (some .boolean) ∈ ez_T := ez_r4 (List.mem_of_getElem? (i := 109) rfl) rfl
theorem t_883 : Cond.code ⟨"EditionEqualModel", "wire", "(IIII)I"⟩ prog_7_method_11_code 7 (some .int) ∈ ez_T := ez_r4 (List.mem_of_getElem? (i := 113) rfl) rfl
theorem t_884 : Cond.methodLink "EditionEqualModel" 81 ⟨"EditionEqualModel", "isBlock", "(II)Z"⟩ ∈ ez_T := ez_r4 (List.mem_of_getElem? (i := 114) rfl) rfl
theorem t_886 : Cond.instanceMethod ⟨"EditionEqualModel", "isBlock", "(II)Z"⟩ ∈ ez_T := ez_r4 (List.mem_of_getElem? (i := 116) rfl) rfl
theorem t_887 : Cond.code ⟨"EditionEqualModel", "isBlock", "(II)Z"⟩ prog_7_method_5_code 3 (some .boolean) ∈ ez_T := ez_r4 (List.mem_of_getElem? (i := 117) rfl) rfl
theorem t_888 : Cond.methodLink "EditionEqualModel" 85 ⟨"EditionEqualModel", "input", "(III)I"⟩ ∈ ez_T := ez_r4 (List.mem_of_getElem? (i := 118) rfl) rfl
theorem t_890 : Cond.instanceMethod ⟨"EditionEqualModel", "input", "(III)I"⟩ ∈ ez_T := ez_r4 (List.mem_of_getElem? (i := 120) rfl) rfl
theorem t_891 : Cond.code ⟨"EditionEqualModel", "input", "(III)I"⟩ prog_7_method_8_code 4 (some .int) ∈ ez_T := ez_r4 (List.mem_of_getElem? (i := 121) rfl) rfl
theorem t_895 : Cond.code ⟨"EditionEqualModel", "out", "(III)I"⟩ prog_7_method_12_code 5 (some .int) ∈ ez_T := ez_r4 (List.mem_of_getElem? (i := 125) rfl) rfl
theorem t_899 : Cond.code ⟨"EditionEqualModel", "bar", "(IZ)Z"⟩ prog_7_method_13_code 4 (some .boolean) ∈ ez_T := ez_r4 (List.mem_of_getElem? (i := 129) rfl) rfl
theorem t_900 : Cond.methodLink "EditionEqualModel" 89 ⟨"EditionEqualModel", "isRow", "(I)Z"⟩ ∈ ez_T := ez_r4 (List.mem_of_getElem? (i := 130) rfl) rfl
theorem t_902 : Cond.instanceMethod ⟨"EditionEqualModel", "isRow", "(I)Z"⟩ ∈ ez_T := ez_r4 (List.mem_of_getElem? (i := 132) rfl) rfl
theorem t_903 : Cond.code ⟨"EditionEqualModel", "isRow", "(I)Z"⟩ prog_7_method_6_code 2 (some .boolean) ∈ ez_T := ez_r4 (List.mem_of_getElem? (i := 133) rfl) rfl
theorem t_907 : Cond.code ⟨"EditionEqualModel", "wrong", "(I)I"⟩ prog_7_method_17_code 2 (some .int) ∈ ez_T := ez_r4 (List.mem_of_getElem? (i := 137) rfl) rfl
theorem t_908 : Cond.methodLink "EditionEqualModel" 102 ⟨"EditionEqualModel", "fault", "(I)I"⟩ ∈ ez_T := ez_r4 (List.mem_of_getElem? (i := 138) rfl) rfl
theorem t_910 : Cond.instanceMethod ⟨"EditionEqualModel", "fault", "(I)I"⟩ ∈ ez_T := ez_r4 (List.mem_of_getElem? (i := 140) rfl) rfl
theorem t_911 : Cond.code ⟨"EditionEqualModel", "fault", "(I)I"⟩ prog_7_method_16_code 4 (some .int) ∈ ez_T := ez_r4 (List.mem_of_getElem? (i := 141) rfl) rfl
theorem t_912 : Cond.methodLink "EditionEqualModel" 96 ⟨"EditionEqualModel", "needs", "(I)I"⟩ ∈ ez_T := ez_r4 (List.mem_of_getElem? (i := 142) rfl) rfl
theorem t_913 : Cond.static ⟨"EditionEqualModel", "needs", "(I)I"⟩ ∈ ez_T := ez_r4 (List.mem_of_getElem? (i := 143) rfl) rfl
theorem t_914 : Cond.code ⟨"EditionEqualModel", "needs", "(I)I"⟩ prog_7_method_7_code 1 (some .int) ∈ ez_T := ez_r4 (List.mem_of_getElem? (i := 144) rfl) rfl
theorem t_915 : Cond.methodLink "EditionEqualModel" 99 ⟨"EditionEqualModel", "isRound", "(II)Z"⟩ ∈ ez_T := ez_r4 (List.mem_of_getElem? (i := 145) rfl) rfl
theorem t_917 : Cond.instanceMethod ⟨"EditionEqualModel", "isRound", "(II)Z"⟩ ∈ ez_T := ez_r4 (List.mem_of_getElem? (i := 147) rfl) rfl
theorem t_918 : Cond.code ⟨"EditionEqualModel", "isRound", "(II)Z"⟩ prog_7_method_14_code 5 (some .boolean) ∈ ez_T := ez_r4 (List.mem_of_getElem? (i := 148) rfl) rfl
theorem t_919 : Cond.methodLink "EditionEqualModel" 93 ⟨"EditionEqualModel", "mark", "(II)Z"⟩ ∈ ez_T := ez_r4 (List.mem_of_getElem? (i := 149) rfl) rfl
theorem t_921 : Cond.instanceMethod ⟨"EditionEqualModel", "mark", "(II)Z"⟩ ∈ ez_T := ez_r4 (List.mem_of_getElem? (i := 151) rfl) rfl
theorem t_922 : Cond.code ⟨"EditionEqualModel", "mark", "(II)Z"⟩ prog_7_method_15_code 7 (some .boolean) ∈ ez_T := ez_r4 (List.mem_of_getElem? (i := 152) rfl) rfl
theorem t_926 : Cond.code ⟨"EditionEqualModel", "value", "(IIII)I"⟩ prog_7_method_23_code 5 (some .int) ∈ ez_T := ez_r4 (List.mem_of_getElem? (i := 156) rfl) rfl
theorem t_927 : Cond.methodLink "EditionEqualModel" 105 ⟨"EditionEqualModel", "isRight", "(I)Z"⟩ ∈ ez_T := ez_r4 (List.mem_of_getElem? (i := 157) rfl) rfl
theorem t_929 : Cond.instanceMethod ⟨"EditionEqualModel", "isRight", "(I)Z"⟩ ∈ ez_T := ez_r4 (List.mem_of_getElem? (i := 159) rfl) rfl
theorem t_930 : Cond.code ⟨"EditionEqualModel", "isRight", "(I)Z"⟩ prog_7_method_18_code 2 (some .boolean) ∈ ez_T := ez_r4 (List.mem_of_getElem? (i := 160) rfl) rfl
theorem t_931 : Cond.methodLink "EditionEqualModel" 112 ⟨"EditionEqualModel", "settle", "(III)V"⟩ ∈ ez_T := ez_r4 (List.mem_of_getElem? (i := 161) rfl) rfl
theorem t_933 : Cond.instanceMethod ⟨"EditionEqualModel", "settle", "(III)V"⟩ ∈ ez_T := ez_r4 (List.mem_of_getElem? (i := 163) rfl) rfl
theorem t_934 : Cond.code ⟨"EditionEqualModel", "settle", "(III)V"⟩ prog_7_method_20_code 7 none ∈ ez_T := ez_r4 (List.mem_of_getElem? (i := 164) rfl) rfl
theorem t_935 : Cond.methodLink "EditionEqualModel" 108 ⟨"EditionEqualModel", "reckon", "(II)I"⟩ ∈ ez_T := ez_r4 (List.mem_of_getElem? (i := 165) rfl) rfl
theorem t_937 : Cond.instanceMethod ⟨"EditionEqualModel", "reckon", "(II)I"⟩ ∈ ez_T := ez_r4 (List.mem_of_getElem? (i := 167) rfl) rfl
theorem t_938 : Cond.code ⟨"EditionEqualModel", "reckon", "(II)I"⟩ prog_7_method_21_code 6 (some .int) ∈ ez_T := ez_r4 (List.mem_of_getElem? (i := 168) rfl) rfl
theorem t_942 : Cond.code ⟨"EditionEqualModel", "tick", "(III)I"⟩ prog_7_method_24_code 4 (some .int) ∈ ez_T := ez_r4 (List.mem_of_getElem? (i := 172) rfl) rfl
theorem t_943 : Cond.methodLink "EditionEqualModel" 116 ⟨"EditionEqualModel", "answer", "(III)I"⟩ ∈ ez_T := ez_r4 (List.mem_of_getElem? (i := 173) rfl) rfl
theorem t_945 : Cond.instanceMethod ⟨"EditionEqualModel", "answer", "(III)I"⟩ ∈ ez_T := ez_r4 (List.mem_of_getElem? (i := 175) rfl) rfl
theorem t_946 : Cond.code ⟨"EditionEqualModel", "answer", "(III)I"⟩ prog_7_method_22_code 7 (some .int) ∈ ez_T := ez_r4 (List.mem_of_getElem? (i := 176) rfl) rfl
theorem t_950 : Cond.code ⟨"EditionEqualModel", "reached", "(I)I"⟩ prog_7_method_27_code 2 (some .int) ∈ ez_T := ez_r4 (List.mem_of_getElem? (i := 180) rfl) rfl
theorem t_951 : Cond.methodLink "EditionEqualModel" 119 ⟨"EditionEqualModel", "explore", "(I)V"⟩ ∈ ez_T := ez_r4 (List.mem_of_getElem? (i := 181) rfl) rfl
theorem t_953 : Cond.instanceMethod ⟨"EditionEqualModel", "explore", "(I)V"⟩ ∈ ez_T := ez_r4 (List.mem_of_getElem? (i := 183) rfl) rfl
theorem t_954 : Cond.code ⟨"EditionEqualModel", "explore", "(I)V"⟩ prog_7_method_25_code 7 none ∈ ez_T := ez_r4 (List.mem_of_getElem? (i := 184) rfl) rfl
theorem t_955 : Cond.methodLink "EditionEqualModel" 123 ⟨"EditionEqualModel", "reachedCount", "(I)I"⟩ ∈ ez_T := ez_r4 (List.mem_of_getElem? (i := 185) rfl) rfl
theorem t_957 : Cond.instanceMethod ⟨"EditionEqualModel", "reachedCount", "(I)I"⟩ ∈ ez_T := ez_r4 (List.mem_of_getElem? (i := 187) rfl) rfl
theorem t_958 : Cond.code ⟨"EditionEqualModel", "reachedCount", "(I)I"⟩ prog_7_method_26_code 4 (some .int) ∈ ez_T := ez_r4 (List.mem_of_getElem? (i := 188) rfl) rfl
theorem t_962 : Cond.code ⟨"EditionEqualModel", "state", "(II)I"⟩ prog_7_method_28_code 5 (some .int) ∈ ez_T := ez_r4 (List.mem_of_getElem? (i := 192) rfl) rfl
theorem t_966 : Cond.code ⟨"EditionEqualModel", "least", "(I)I"⟩ prog_7_method_30_code 8 (some .int) ∈ ez_T := ez_r4 (List.mem_of_getElem? (i := 196) rfl) rfl
theorem t_967 : Cond.methodLink "EditionEqualModel" 126 ⟨"EditionEqualModel", "tells", "(III)Z"⟩ ∈ ez_T := ez_r4 (List.mem_of_getElem? (i := 197) rfl) rfl
theorem t_969 : Cond.instanceMethod ⟨"EditionEqualModel", "tells", "(III)Z"⟩ ∈ ez_T := ez_r4 (List.mem_of_getElem? (i := 199) rfl) rfl
theorem t_970 : Cond.code ⟨"EditionEqualModel", "tells", "(III)Z"⟩ prog_7_method_29_code 8 (some .boolean) ∈ ez_T := ez_r4 (List.mem_of_getElem? (i := 200) rfl) rfl
theorem t_974 : Cond.code ⟨"EditionEqualModel", "compare", "()I"⟩ prog_7_method_34_code 1 (some .int) ∈ ez_T := ez_r4 (List.mem_of_getElem? (i := 204) rfl) rfl
theorem t_975 : Cond.methodLink "EditionEqualModel" 141 ⟨"EditionEqualModel", "areRight", "()Z"⟩ ∈ ez_T := ez_r4 (List.mem_of_getElem? (i := 205) rfl) rfl
theorem t_977 : Cond.instanceMethod ⟨"EditionEqualModel", "areRight", "()Z"⟩ ∈ ez_T := ez_r4 (List.mem_of_getElem? (i := 207) rfl) rfl
theorem t_978 : Cond.code ⟨"EditionEqualModel", "areRight", "()Z"⟩ prog_7_method_19_code 1 (some .boolean) ∈ ez_T := ez_r4 (List.mem_of_getElem? (i := 208) rfl) rfl
theorem t_979 : Cond.methodLink "EditionEqualModel" 145 ⟨"EditionEqualModel", "goOver", "()V"⟩ ∈ ez_T := ez_r4 (List.mem_of_getElem? (i := 209) rfl) rfl
theorem t_981 : Cond.instanceMethod ⟨"EditionEqualModel", "goOver", "()V"⟩ ∈ ez_T := ez_r4 (List.mem_of_getElem? (i := 211) rfl) rfl
theorem t_982 : Cond.code ⟨"EditionEqualModel", "goOver", "()V"⟩ prog_7_method_32_code 5 none ∈ ez_T := ez_r4 (List.mem_of_getElem? (i := 212) rfl) rfl
theorem t_983 : Cond.methodLink "EditionEqualModel" 135 ⟨"EditionEqualModel", "meet", "(III)V"⟩ ∈ ez_T := ez_r4 (List.mem_of_getElem? (i := 213) rfl) rfl
theorem t_985 : Cond.instanceMethod ⟨"EditionEqualModel", "meet", "(III)V"⟩ ∈ ez_T := ez_r4 (List.mem_of_getElem? (i := 215) rfl) rfl
theorem t_986 : Cond.code ⟨"EditionEqualModel", "meet", "(III)V"⟩ prog_7_method_31_code 4 none ∈ ez_T := ez_r4 (List.mem_of_getElem? (i := 216) rfl) rfl
theorem t_987 : Cond.methodLink "EditionEqualModel" 148 ⟨"EditionEqualModel", "shownCount", "()I"⟩ ∈ ez_T := ez_r4 (List.mem_of_getElem? (i := 217) rfl) rfl
theorem t_989 : Cond.instanceMethod ⟨"EditionEqualModel", "shownCount", "()I"⟩ ∈ ez_T := ez_r4 (List.mem_of_getElem? (i := 219) rfl) rfl
theorem t_990 : Cond.code ⟨"EditionEqualModel", "shownCount", "()I"⟩ prog_7_method_33_code 3 (some .int) ∈ ez_T := ez_r4 (List.mem_of_getElem? (i := 220) rfl) rfl
theorem t_994 : Cond.code ⟨"EditionEqualModel", "shown", "(I)I"⟩ prog_7_method_35_code 6 (some .int) ∈ ez_T := ez_r4 (List.mem_of_getElem? (i := 224) rfl) rfl
theorem t_998 : Cond.code ⟨"EditionEqualModel", "last", "(I)I"⟩ prog_7_method_36_code 3 (some .int) ∈ ez_T := ez_r4 (List.mem_of_getElem? (i := 228) rfl) rfl
theorem t_1002 : Cond.code ⟨"EditionEqualModel", "pairs", "()I"⟩ prog_7_method_37_code 1 (some .int) ∈ ez_T := ez_r4 (List.mem_of_getElem? (i := 232) rfl) rfl
theorem t_1006 : Cond.code ⟨"EditionEqualModel", "same", "()Z"⟩ prog_7_method_40_code 1 (some .boolean) ∈ ez_T := ez_r4 (List.mem_of_getElem? (i := 236) rfl) rfl
theorem t_1007 : Cond.methodLink "EditionEqualModel" 155 ⟨"EditionEqualModel", "areSame", "()Z"⟩ ∈ ez_T := ez_r4 (List.mem_of_getElem? (i := 237) rfl) rfl
theorem t_1009 : Cond.instanceMethod ⟨"EditionEqualModel", "areSame", "()Z"⟩ ∈ ez_T := ez_r4 (List.mem_of_getElem? (i := 239) rfl) rfl
theorem t_1010 : Cond.code ⟨"EditionEqualModel", "areSame", "()Z"⟩ prog_7_method_38_code 8 (some .boolean) ∈ ez_T := ez_r5 (List.mem_of_getElem? (i := 0) rfl) rfl
theorem t_1011 : Cond.methodLink "EditionEqualModel" 152 ⟨"EditionEqualModel", "areSingle", "()Z"⟩ ∈ ez_T := ez_r5 (List.mem_of_getElem? (i := 1) rfl) rfl
theorem t_1013 : Cond.instanceMethod ⟨"EditionEqualModel", "areSingle", "()Z"⟩ ∈ ez_T := ez_r5 (List.mem_of_getElem? (i := 3) rfl) rfl
theorem t_1014 : Cond.code ⟨"EditionEqualModel", "areSingle", "()Z"⟩ prog_7_method_39_code 6 (some .boolean) ∈ ez_T := ez_r5 (List.mem_of_getElem? (i := 4) rfl) rfl
theorem t_1018 : Cond.code ⟨"EditionEqualModel", "matched", "(I)I"⟩ prog_7_method_41_code 4 (some .int) ∈ ez_T := ez_r5 (List.mem_of_getElem? (i := 8) rfl) rfl
theorem t_1022 : Cond.code ⟨"EditionEqualModel", "idle", "(II)I"⟩ prog_7_method_42_code 7 (some .int) ∈ ez_T := ez_r5 (List.mem_of_getElem? (i := 12) rfl) rfl
theorem t_1026 : Cond.code ⟨"EditionEqualModel", "blocks", "(I)I"⟩ prog_7_method_43_code 2 (some .int) ∈ ez_T := ez_r5 (List.mem_of_getElem? (i := 16) rfl) rfl
