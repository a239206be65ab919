section
-- ===== PART A: goes FIRST, ahead of the names: the tables' words, and 'selects' of the private methods out of them =====
/-- a private method of a class that the tables say can be made, by its rows of tables_1 -/
def lw_okq (q : MethodName × Nat) : Prop := (q.1.cls ≠ "java/lang/invoke/MethodHandle" ∧ q.1.cls ≠ "java/lang/invoke/VarHandle") ∧ Cond.instantiable q.1.cls q.2 ∈ tables_1 ∧ Cond.privateMethod q.1 ∈ tables_1 ∧ Cond.instanceMethod q.1 ∈ tables_1
theorem lw_p0 : lw_okq (⟨"EditionEqual", "editionOf", "(I)LEditionEqual$Edition;"⟩, 9) := ⟨⟨by decide +kernel, by decide +kernel⟩, List.mem_of_getElem? (i := 17) (by decide +kernel), List.mem_of_getElem? (i := 229) (by decide +kernel), List.mem_of_getElem? (i := 230) (by decide +kernel)⟩
theorem lw_p1 : lw_okq (⟨"java/lang/Throwable", "fillInStackTrace", "(I)Ljava/lang/Throwable;"⟩, 6) := ⟨⟨by decide +kernel, by decide +kernel⟩, List.mem_of_getElem? (i := 276) (by decide +kernel), List.mem_of_getElem? (i := 274) (by decide +kernel), List.mem_of_getElem? (i := 275) (by decide +kernel)⟩
theorem lw_p2 : lw_okq (⟨"EditionEqual", "isNumberOfKind", "(II)Z"⟩, 9) := ⟨⟨by decide +kernel, by decide +kernel⟩, List.mem_of_getElem? (i := 17) (by decide +kernel), List.mem_of_getElem? (i := 306) (by decide +kernel), List.mem_of_getElem? (i := 307) (by decide +kernel)⟩
theorem lw_p3 : lw_okq (⟨"EditionEqual", "forgetAnswers", "()V"⟩, 9) := ⟨⟨by decide +kernel, by decide +kernel⟩, List.mem_of_getElem? (i := 17) (by decide +kernel), List.mem_of_getElem? (i := 331) (by decide +kernel), List.mem_of_getElem? (i := 332) (by decide +kernel)⟩
theorem lw_p4 : lw_okq (⟨"EditionEqual", "checkRow", "(I)V"⟩, 9) := ⟨⟨by decide +kernel, by decide +kernel⟩, List.mem_of_getElem? (i := 17) (by decide +kernel), List.mem_of_getElem? (i := 403) (by decide +kernel), List.mem_of_getElem? (i := 404) (by decide +kernel)⟩
theorem lw_p5 : lw_okq (⟨"EditionEqual$Edition", "firstUnwired", "()I"⟩, 10) := ⟨⟨by decide +kernel, by decide +kernel⟩, List.mem_of_getElem? (i := 31) (by decide +kernel), List.mem_of_getElem? (i := 419) (by decide +kernel), List.mem_of_getElem? (i := 420) (by decide +kernel)⟩
theorem lw_p6 : lw_okq (⟨"EditionEqual$Edition", "firstComingBack", "()I"⟩, 10) := ⟨⟨by decide +kernel, by decide +kernel⟩, List.mem_of_getElem? (i := 31) (by decide +kernel), List.mem_of_getElem? (i := 423) (by decide +kernel), List.mem_of_getElem? (i := 424) (by decide +kernel)⟩
theorem lw_p7 : lw_okq (⟨"EditionEqual", "behaviourOf", "(I)LEditionEqual$Behaviour;"⟩, 9) := ⟨⟨by decide +kernel, by decide +kernel⟩, List.mem_of_getElem? (i := 17) (by decide +kernel), List.mem_of_getElem? (i := 445) (by decide +kernel), List.mem_of_getElem? (i := 446) (by decide +kernel)⟩
theorem lw_p8 : lw_okq (⟨"EditionEqual", "openRows", "()I"⟩, 9) := ⟨⟨by decide +kernel, by decide +kernel⟩, List.mem_of_getElem? (i := 17) (by decide +kernel), List.mem_of_getElem? (i := 450) (by decide +kernel), List.mem_of_getElem? (i := 451) (by decide +kernel)⟩
theorem lw_p9 : lw_okq (⟨"EditionEqual$Behaviour", "orderBlocks", "()V"⟩, 13) := ⟨⟨by decide +kernel, by decide +kernel⟩, List.mem_of_getElem? (i := 72) (by decide +kernel), List.mem_of_getElem? (i := 462) (by decide +kernel), List.mem_of_getElem? (i := 463) (by decide +kernel)⟩
theorem lw_p10 : lw_okq (⟨"EditionEqual$Behaviour", "fillColumns", "(I)V"⟩, 13) := ⟨⟨by decide +kernel, by decide +kernel⟩, List.mem_of_getElem? (i := 72) (by decide +kernel), List.mem_of_getElem? (i := 473) (by decide +kernel), List.mem_of_getElem? (i := 474) (by decide +kernel)⟩
theorem lw_p11 : lw_okq (⟨"EditionEqual$Behaviour", "workOutColumn", "(II)I"⟩, 13) := ⟨⟨by decide +kernel, by decide +kernel⟩, List.mem_of_getElem? (i := 72) (by decide +kernel), List.mem_of_getElem? (i := 477) (by decide +kernel), List.mem_of_getElem? (i := 478) (by decide +kernel)⟩
theorem lw_p12 : lw_okq (⟨"EditionEqual$Behaviour", "columnAt", "(II)I"⟩, 13) := ⟨⟨by decide +kernel, by decide +kernel⟩, List.mem_of_getElem? (i := 72) (by decide +kernel), List.mem_of_getElem? (i := 486) (by decide +kernel), List.mem_of_getElem? (i := 487) (by decide +kernel)⟩
theorem lw_p13 : lw_okq (⟨"EditionEqual$Behaviour", "fillTicks", "(I)V"⟩, 13) := ⟨⟨by decide +kernel, by decide +kernel⟩, List.mem_of_getElem? (i := 72) (by decide +kernel), List.mem_of_getElem? (i := 497) (by decide +kernel), List.mem_of_getElem? (i := 498) (by decide +kernel)⟩
theorem lw_p14 : lw_okq (⟨"EditionEqual$Behaviour", "findReached", "(I)V"⟩, 13) := ⟨⟨by decide +kernel, by decide +kernel⟩, List.mem_of_getElem? (i := 72) (by decide +kernel), List.mem_of_getElem? (i := 510) (by decide +kernel), List.mem_of_getElem? (i := 511) (by decide +kernel)⟩
theorem lw_p15 : lw_okq (⟨"EditionEqual$Behaviour", "placeOf", "(II)I"⟩, 13) := ⟨⟨by decide +kernel, by decide +kernel⟩, List.mem_of_getElem? (i := 72) (by decide +kernel), List.mem_of_getElem? (i := 518) (by decide +kernel), List.mem_of_getElem? (i := 519) (by decide +kernel)⟩
def lw_privs_1 : List (MethodName × Nat) := [(⟨"EditionEqual", "editionOf", "(I)LEditionEqual$Edition;"⟩, 9), (⟨"java/lang/Throwable", "fillInStackTrace", "(I)Ljava/lang/Throwable;"⟩, 6), (⟨"EditionEqual", "isNumberOfKind", "(II)Z"⟩, 9), (⟨"EditionEqual", "forgetAnswers", "()V"⟩, 9), (⟨"EditionEqual", "checkRow", "(I)V"⟩, 9), (⟨"EditionEqual$Edition", "firstUnwired", "()I"⟩, 10), (⟨"EditionEqual$Edition", "firstComingBack", "()I"⟩, 10), (⟨"EditionEqual", "behaviourOf", "(I)LEditionEqual$Behaviour;"⟩, 9), (⟨"EditionEqual", "openRows", "()I"⟩, 9), (⟨"EditionEqual$Behaviour", "orderBlocks", "()V"⟩, 13), (⟨"EditionEqual$Behaviour", "fillColumns", "(I)V"⟩, 13), (⟨"EditionEqual$Behaviour", "workOutColumn", "(II)I"⟩, 13), (⟨"EditionEqual$Behaviour", "columnAt", "(II)I"⟩, 13), (⟨"EditionEqual$Behaviour", "fillTicks", "(I)V"⟩, 13), (⟨"EditionEqual$Behaviour", "findReached", "(I)V"⟩, 13), (⟨"EditionEqual$Behaviour", "placeOf", "(II)I"⟩, 13)]
theorem lw_r1 : ∀ q ∈ lw_privs_1, lw_okq q := List.forall_mem_cons.mpr ⟨lw_p0, List.forall_mem_cons.mpr ⟨lw_p1, List.forall_mem_cons.mpr ⟨lw_p2, List.forall_mem_cons.mpr ⟨lw_p3, List.forall_mem_cons.mpr ⟨lw_p4, List.forall_mem_cons.mpr ⟨lw_p5, List.forall_mem_cons.mpr ⟨lw_p6, List.forall_mem_cons.mpr ⟨lw_p7, List.forall_mem_cons.mpr ⟨lw_p8, List.forall_mem_cons.mpr ⟨lw_p9, List.forall_mem_cons.mpr ⟨lw_p10, List.forall_mem_cons.mpr ⟨lw_p11, List.forall_mem_cons.mpr ⟨lw_p12, List.forall_mem_cons.mpr ⟨lw_p13, List.forall_mem_cons.mpr ⟨lw_p14, List.forall_mem_cons.mpr ⟨lw_p15, fun _ h => absurd h List.not_mem_nil⟩⟩⟩⟩⟩⟩⟩⟩⟩⟩⟩⟩⟩⟩⟩⟩
theorem lw_p16 : lw_okq (⟨"EditionEqual$Behaviour", "partByOuts", "(I)I"⟩, 13) := ⟨⟨by decide +kernel, by decide +kernel⟩, List.mem_of_getElem? (i := 72) (by decide +kernel), List.mem_of_getElem? (i := 576) (by decide +kernel), List.mem_of_getElem? (i := 577) (by decide +kernel)⟩
theorem lw_p17 : lw_okq (⟨"EditionEqual$Behaviour", "partByKeys", "()I"⟩, 13) := ⟨⟨by decide +kernel, by decide +kernel⟩, List.mem_of_getElem? (i := 72) (by decide +kernel), List.mem_of_getElem? (i := 581) (by decide +kernel), List.mem_of_getElem? (i := 582) (by decide +kernel)⟩
theorem lw_p18 : lw_okq (⟨"EditionEqual$Behaviour", "firstLike", "(I)I"⟩, 13) := ⟨⟨by decide +kernel, by decide +kernel⟩, List.mem_of_getElem? (i := 72) (by decide +kernel), List.mem_of_getElem? (i := 585) (by decide +kernel), List.mem_of_getElem? (i := 586) (by decide +kernel)⟩
theorem lw_p19 : lw_okq (⟨"EditionEqual$Behaviour", "partByNextClass", "(I)I"⟩, 13) := ⟨⟨by decide +kernel, by decide +kernel⟩, List.mem_of_getElem? (i := 72) (by decide +kernel), List.mem_of_getElem? (i := 592) (by decide +kernel), List.mem_of_getElem? (i := 593) (by decide +kernel)⟩
theorem lw_p20 : lw_okq (⟨"EditionEqual", "searchOfBoth", "()LEditionEqual$PairSearch;"⟩, 9) := ⟨⟨by decide +kernel, by decide +kernel⟩, List.mem_of_getElem? (i := 17) (by decide +kernel), List.mem_of_getElem? (i := 603) (by decide +kernel), List.mem_of_getElem? (i := 604) (by decide +kernel)⟩
theorem lw_p21 : lw_okq (⟨"EditionEqual", "checkBothRight", "()V"⟩, 9) := ⟨⟨by decide +kernel, by decide +kernel⟩, List.mem_of_getElem? (i := 17) (by decide +kernel), List.mem_of_getElem? (i := 607) (by decide +kernel), List.mem_of_getElem? (i := 608) (by decide +kernel)⟩
theorem lw_p22 : lw_okq (⟨"EditionEqual$PairSearch", "meet", "(IIII)V"⟩, 13) := ⟨⟨by decide +kernel, by decide +kernel⟩, List.mem_of_getElem? (i := 118) (by decide +kernel), List.mem_of_getElem? (i := 617) (by decide +kernel), List.mem_of_getElem? (i := 618) (by decide +kernel)⟩
theorem lw_p23 : lw_okq (⟨"EditionEqual$PairSearch", "goOnFrom", "(II)V"⟩, 13) := ⟨⟨by decide +kernel, by decide +kernel⟩, List.mem_of_getElem? (i := 118) (by decide +kernel), List.mem_of_getElem? (i := 624) (by decide +kernel), List.mem_of_getElem? (i := 625) (by decide +kernel)⟩
theorem lw_p24 : lw_okq (⟨"EditionEqual$PairSearch", "keepShown", "(II)V"⟩, 13) := ⟨⟨by decide +kernel, by decide +kernel⟩, List.mem_of_getElem? (i := 118) (by decide +kernel), List.mem_of_getElem? (i := 629) (by decide +kernel), List.mem_of_getElem? (i := 630) (by decide +kernel)⟩
theorem lw_p25 : lw_okq (⟨"EditionEqual$Matching", "matchBoth", "(II)Z"⟩, 6) := ⟨⟨by decide +kernel, by decide +kernel⟩, List.mem_of_getElem? (i := 164) (by decide +kernel), List.mem_of_getElem? (i := 686) (by decide +kernel), List.mem_of_getElem? (i := 687) (by decide +kernel)⟩
theorem lw_p26 : lw_okq (⟨"EditionEqual$Matching", "areOfOneSort", "(II)Z"⟩, 6) := ⟨⟨by decide +kernel, by decide +kernel⟩, List.mem_of_getElem? (i := 164) (by decide +kernel), List.mem_of_getElem? (i := 691) (by decide +kernel), List.mem_of_getElem? (i := 692) (by decide +kernel)⟩
theorem lw_p27 : lw_okq (⟨"EditionEqual$Edition", "liveBlocks", "()I"⟩, 10) := ⟨⟨by decide +kernel, by decide +kernel⟩, List.mem_of_getElem? (i := 31) (by decide +kernel), List.mem_of_getElem? (i := 722) (by decide +kernel), List.mem_of_getElem? (i := 723) (by decide +kernel)⟩
theorem lw_p28 : lw_okq (⟨"EditionEqualModel", "delays", "(I)I"⟩, 22) := ⟨⟨by decide +kernel, by decide +kernel⟩, List.mem_of_getElem? (i := 734) (by decide +kernel), List.mem_of_getElem? (i := 819) (by decide +kernel), List.mem_of_getElem? (i := 820) (by decide +kernel)⟩
theorem lw_p29 : lw_okq (⟨"EditionEqualModel", "goes", "(ZZ)Z"⟩, 22) := ⟨⟨by decide +kernel, by decide +kernel⟩, List.mem_of_getElem? (i := 734) (by decide +kernel), List.mem_of_getElem? (i := 823) (by decide +kernel), List.mem_of_getElem? (i := 824) (by decide +kernel)⟩
theorem lw_p30 : lw_okq (⟨"EditionEqualModel", "isBlock", "(II)Z"⟩, 22) := ⟨⟨by decide +kernel, by decide +kernel⟩, List.mem_of_getElem? (i := 734) (by decide +kernel), List.mem_of_getElem? (i := 831) (by decide +kernel), List.mem_of_getElem? (i := 832) (by decide +kernel)⟩
theorem lw_p31 : lw_okq (⟨"EditionEqualModel", "input", "(III)I"⟩, 22) := ⟨⟨by decide +kernel, by decide +kernel⟩, List.mem_of_getElem? (i := 734) (by decide +kernel), List.mem_of_getElem? (i := 835) (by decide +kernel), List.mem_of_getElem? (i := 836) (by decide +kernel)⟩
def lw_privs_2 : List (MethodName × Nat) := [(⟨"EditionEqual$Behaviour", "partByOuts", "(I)I"⟩, 13), (⟨"EditionEqual$Behaviour", "partByKeys", "()I"⟩, 13), (⟨"EditionEqual$Behaviour", "firstLike", "(I)I"⟩, 13), (⟨"EditionEqual$Behaviour", "partByNextClass", "(I)I"⟩, 13), (⟨"EditionEqual", "searchOfBoth", "()LEditionEqual$PairSearch;"⟩, 9), (⟨"EditionEqual", "checkBothRight", "()V"⟩, 9), (⟨"EditionEqual$PairSearch", "meet", "(IIII)V"⟩, 13), (⟨"EditionEqual$PairSearch", "goOnFrom", "(II)V"⟩, 13), (⟨"EditionEqual$PairSearch", "keepShown", "(II)V"⟩, 13), (⟨"EditionEqual$Matching", "matchBoth", "(II)Z"⟩, 6), (⟨"EditionEqual$Matching", "areOfOneSort", "(II)Z"⟩, 6), (⟨"EditionEqual$Edition", "liveBlocks", "()I"⟩, 10), (⟨"EditionEqualModel", "delays", "(I)I"⟩, 22), (⟨"EditionEqualModel", "goes", "(ZZ)Z"⟩, 22), (⟨"EditionEqualModel", "isBlock", "(II)Z"⟩, 22), (⟨"EditionEqualModel", "input", "(III)I"⟩, 22)]
theorem lw_r2 : ∀ q ∈ lw_privs_2, lw_okq q := List.forall_mem_cons.mpr ⟨lw_p16, List.forall_mem_cons.mpr ⟨lw_p17, List.forall_mem_cons.mpr ⟨lw_p18, List.forall_mem_cons.mpr ⟨lw_p19, List.forall_mem_cons.mpr ⟨lw_p20, List.forall_mem_cons.mpr ⟨lw_p21, List.forall_mem_cons.mpr ⟨lw_p22, List.forall_mem_cons.mpr ⟨lw_p23, List.forall_mem_cons.mpr ⟨lw_p24, List.forall_mem_cons.mpr ⟨lw_p25, List.forall_mem_cons.mpr ⟨lw_p26, List.forall_mem_cons.mpr ⟨lw_p27, List.forall_mem_cons.mpr ⟨lw_p28, List.forall_mem_cons.mpr ⟨lw_p29, List.forall_mem_cons.mpr ⟨lw_p30, List.forall_mem_cons.mpr ⟨lw_p31, fun _ h => absurd h List.not_mem_nil⟩⟩⟩⟩⟩⟩⟩⟩⟩⟩⟩⟩⟩⟩⟩⟩
theorem lw_p32 : lw_okq (⟨"EditionEqualModel", "isRow", "(I)Z"⟩, 22) := ⟨⟨by decide +kernel, by decide +kernel⟩, List.mem_of_getElem? (i := 734) (by decide +kernel), List.mem_of_getElem? (i := 847) (by decide +kernel), List.mem_of_getElem? (i := 848) (by decide +kernel)⟩
theorem lw_p33 : lw_okq (⟨"EditionEqualModel", "fault", "(I)I"⟩, 22) := ⟨⟨by decide +kernel, by decide +kernel⟩, List.mem_of_getElem? (i := 734) (by decide +kernel), List.mem_of_getElem? (i := 855) (by decide +kernel), List.mem_of_getElem? (i := 856) (by decide +kernel)⟩
theorem lw_p34 : lw_okq (⟨"EditionEqualModel", "isRound", "(II)Z"⟩, 22) := ⟨⟨by decide +kernel, by decide +kernel⟩, List.mem_of_getElem? (i := 734) (by decide +kernel), List.mem_of_getElem? (i := 862) (by decide +kernel), List.mem_of_getElem? (i := 863) (by decide +kernel)⟩
theorem lw_p35 : lw_okq (⟨"EditionEqualModel", "mark", "(II)Z"⟩, 22) := ⟨⟨by decide +kernel, by decide +kernel⟩, List.mem_of_getElem? (i := 734) (by decide +kernel), List.mem_of_getElem? (i := 866) (by decide +kernel), List.mem_of_getElem? (i := 867) (by decide +kernel)⟩
theorem lw_p36 : lw_okq (⟨"EditionEqualModel", "isRight", "(I)Z"⟩, 22) := ⟨⟨by decide +kernel, by decide +kernel⟩, List.mem_of_getElem? (i := 734) (by decide +kernel), List.mem_of_getElem? (i := 874) (by decide +kernel), List.mem_of_getElem? (i := 875) (by decide +kernel)⟩
theorem lw_p37 : lw_okq (⟨"EditionEqualModel", "settle", "(III)V"⟩, 22) := ⟨⟨by decide +kernel, by decide +kernel⟩, List.mem_of_getElem? (i := 734) (by decide +kernel), List.mem_of_getElem? (i := 878) (by decide +kernel), List.mem_of_getElem? (i := 879) (by decide +kernel)⟩
theorem lw_p38 : lw_okq (⟨"EditionEqualModel", "reckon", "(II)I"⟩, 22) := ⟨⟨by decide +kernel, by decide +kernel⟩, List.mem_of_getElem? (i := 734) (by decide +kernel), List.mem_of_getElem? (i := 882) (by decide +kernel), List.mem_of_getElem? (i := 883) (by decide +kernel)⟩
theorem lw_p39 : lw_okq (⟨"EditionEqualModel", "answer", "(III)I"⟩, 22) := ⟨⟨by decide +kernel, by decide +kernel⟩, List.mem_of_getElem? (i := 734) (by decide +kernel), List.mem_of_getElem? (i := 890) (by decide +kernel), List.mem_of_getElem? (i := 891) (by decide +kernel)⟩
theorem lw_p40 : lw_okq (⟨"EditionEqualModel", "explore", "(I)V"⟩, 22) := ⟨⟨by decide +kernel, by decide +kernel⟩, List.mem_of_getElem? (i := 734) (by decide +kernel), List.mem_of_getElem? (i := 898) (by decide +kernel), List.mem_of_getElem? (i := 899) (by decide +kernel)⟩
theorem lw_p41 : lw_okq (⟨"EditionEqualModel", "reachedCount", "(I)I"⟩, 22) := ⟨⟨by decide +kernel, by decide +kernel⟩, List.mem_of_getElem? (i := 734) (by decide +kernel), List.mem_of_getElem? (i := 902) (by decide +kernel), List.mem_of_getElem? (i := 903) (by decide +kernel)⟩
theorem lw_p42 : lw_okq (⟨"EditionEqualModel", "tells", "(III)Z"⟩, 22) := ⟨⟨by decide +kernel, by decide +kernel⟩, List.mem_of_getElem? (i := 734) (by decide +kernel), List.mem_of_getElem? (i := 914) (by decide +kernel), List.mem_of_getElem? (i := 915) (by decide +kernel)⟩
theorem lw_p43 : lw_okq (⟨"EditionEqualModel", "areRight", "()Z"⟩, 22) := ⟨⟨by decide +kernel, by decide +kernel⟩, List.mem_of_getElem? (i := 734) (by decide +kernel), List.mem_of_getElem? (i := 922) (by decide +kernel), List.mem_of_getElem? (i := 923) (by decide +kernel)⟩
theorem lw_p44 : lw_okq (⟨"EditionEqualModel", "goOver", "()V"⟩, 22) := ⟨⟨by decide +kernel, by decide +kernel⟩, List.mem_of_getElem? (i := 734) (by decide +kernel), List.mem_of_getElem? (i := 926) (by decide +kernel), List.mem_of_getElem? (i := 927) (by decide +kernel)⟩
theorem lw_p45 : lw_okq (⟨"EditionEqualModel", "meet", "(III)V"⟩, 22) := ⟨⟨by decide +kernel, by decide +kernel⟩, List.mem_of_getElem? (i := 734) (by decide +kernel), List.mem_of_getElem? (i := 930) (by decide +kernel), List.mem_of_getElem? (i := 931) (by decide +kernel)⟩
theorem lw_p46 : lw_okq (⟨"EditionEqualModel", "shownCount", "()I"⟩, 22) := ⟨⟨by decide +kernel, by decide +kernel⟩, List.mem_of_getElem? (i := 734) (by decide +kernel), List.mem_of_getElem? (i := 934) (by decide +kernel), List.mem_of_getElem? (i := 935) (by decide +kernel)⟩
theorem lw_p47 : lw_okq (⟨"EditionEqualModel", "areSame", "()Z"⟩, 22) := ⟨⟨by decide +kernel, by decide +kernel⟩, List.mem_of_getElem? (i := 734) (by decide +kernel), List.mem_of_getElem? (i := 954) (by decide +kernel), List.mem_of_getElem? (i := 955) (by decide +kernel)⟩
def lw_privs_3 : List (MethodName × Nat) := [(⟨"EditionEqualModel", "isRow", "(I)Z"⟩, 22), (⟨"EditionEqualModel", "fault", "(I)I"⟩, 22), (⟨"EditionEqualModel", "isRound", "(II)Z"⟩, 22), (⟨"EditionEqualModel", "mark", "(II)Z"⟩, 22), (⟨"EditionEqualModel", "isRight", "(I)Z"⟩, 22), (⟨"EditionEqualModel", "settle", "(III)V"⟩, 22), (⟨"EditionEqualModel", "reckon", "(II)I"⟩, 22), (⟨"EditionEqualModel", "answer", "(III)I"⟩, 22), (⟨"EditionEqualModel", "explore", "(I)V"⟩, 22), (⟨"EditionEqualModel", "reachedCount", "(I)I"⟩, 22), (⟨"EditionEqualModel", "tells", "(III)Z"⟩, 22), (⟨"EditionEqualModel", "areRight", "()Z"⟩, 22), (⟨"EditionEqualModel", "goOver", "()V"⟩, 22), (⟨"EditionEqualModel", "meet", "(III)V"⟩, 22), (⟨"EditionEqualModel", "shownCount", "()I"⟩, 22), (⟨"EditionEqualModel", "areSame", "()Z"⟩, 22)]
theorem lw_r3 : ∀ q ∈ lw_privs_3, lw_okq q := List.forall_mem_cons.mpr ⟨lw_p32, List.forall_mem_cons.mpr ⟨lw_p33, List.forall_mem_cons.mpr ⟨lw_p34, List.forall_mem_cons.mpr ⟨lw_p35, List.forall_mem_cons.mpr ⟨lw_p36, List.forall_mem_cons.mpr ⟨lw_p37, List.forall_mem_cons.mpr ⟨lw_p38, List.forall_mem_cons.mpr ⟨lw_p39, List.forall_mem_cons.mpr ⟨lw_p40, List.forall_mem_cons.mpr ⟨lw_p41, List.forall_mem_cons.mpr ⟨lw_p42, List.forall_mem_cons.mpr ⟨lw_p43, List.forall_mem_cons.mpr ⟨lw_p44, List.forall_mem_cons.mpr ⟨lw_p45, List.forall_mem_cons.mpr ⟨lw_p46, List.forall_mem_cons.mpr ⟨lw_p47, fun _ h => absurd h List.not_mem_nil⟩⟩⟩⟩⟩⟩⟩⟩⟩⟩⟩⟩⟩⟩⟩⟩
theorem lw_p48 : lw_okq (⟨"EditionEqualModel", "areSingle", "()Z"⟩, 22) := ⟨⟨by decide +kernel, by decide +kernel⟩, List.mem_of_getElem? (i := 734) (by decide +kernel), List.mem_of_getElem? (i := 958) (by decide +kernel), List.mem_of_getElem? (i := 959) (by decide +kernel)⟩
def lw_privs_4 : List (MethodName × Nat) := [(⟨"EditionEqualModel", "areSingle", "()Z"⟩, 22)]
theorem lw_r4 : ∀ q ∈ lw_privs_4, lw_okq q := List.forall_mem_cons.mpr ⟨lw_p48, fun _ h => absurd h List.not_mem_nil⟩
def lw_privs : List (MethodName × Nat) := lw_privs_1 ++ (lw_privs_2 ++ (lw_privs_3 ++ (lw_privs_4)))
def lw_tbl : List Cond := k2_sels lw_privs ++ tables_1
theorem lw_privs_ok : ∀ q ∈ lw_privs, lw_okq q := by
  show ∀ q ∈ lw_privs_1 ++ (lw_privs_2 ++ (lw_privs_3 ++ (lw_privs_4))), lw_okq q
  exact List.forall_mem_append.mpr ⟨lw_r1, List.forall_mem_append.mpr ⟨lw_r2, List.forall_mem_append.mpr ⟨lw_r3, lw_r4⟩⟩⟩
end
section
/-! the laws of exceptions, out of the printed names of this claim (claim/NAMES.whole.lean.txt) -/
section
def vx_T (XC : String → State → State → Prop) (st : State) (q : Addr) (t : State) (mc ms : Nat) (free : Addr → Prop) : Prop :=
  ∃ (E : String) (ce : Cell) (L : List Loc), XC E st t ∧ t.heap[q]? = some ce ∧ ce.vm = .none ∧ st.vm.findClass E = some ce.cls ∧ st.WarmedH t.vm ∧ st.sameButNew ({ t with vm := st.vm } : State) L mc ms ∧ ∀ z ∈ L, free z.base
end
section
def vx_Q (Qc : Array Value → State → Outcome → State → Prop) (XC : String → State → State → Prop) (mc ms : Nat) (free : Addr → Prop) : Array Value → State → Outcome → State → Prop := fun a st o t =>
  (Qc a st o t ∧ ∃ L, FrameEnd st o t L mc ms ∧ ∀ q ∈ L, free q.base) ∨ ∃ q, o = .threw q ∧ vx_T XC st q t mc ms free
end
section
def vx_W (p : Program) (l : Launch) (e : Env) (R : Room) (s : State) (m : MethodId) (args : Array Value) (below : List Frame) (meth : Method) (c : Code) (H : Heap) (locs : List Loc) (cells slots : Nat) (Q : State → Prop) (g : JFrame) (q : Addr) : Prop :=
  ∀ T : State, T.heap = H → Stand p l e R s m args below meth c T locs cells slots → ∃ t, Steps p.tables e below ((T.setTop g).pushFrame (.throwing q)) t ∧ Q t
end
section
variable {p : Program} {l : Launch} {e : Env} {R : Room} {s : State} {m : MethodId} {args : Array Value} {below : List Frame} {meth : Method} {c : Code} {H : Heap} {locs : List Loc} {cells slots : Nat} {Q : State → Prop}
variable {mc ms : Nat} {free : Addr → Prop} {A0 A1 : Nat → Prop} {H0 : Heap} {a : Array Value} {pc : Nat} {ls : Array Slot} {st0 rest : List Value}
theorem vx_catch {own name : String} {E : String} {ce : Cell} {q : Addr} (hown : s.vm.findClass own = some m.cls) (pre : List ExceptionTableEntry) (x : ExceptionTableEntry) (suf : List ExceptionTableEntry) (hsplit : c.exceptionTable.toList = pre ++ x :: suf)
    (hpass : ∀ z ∈ pre, covers z pc = false ∨ (z.catchType ≠ 0 ∧ ∃ nm : String, (Cond.classLink own z.catchType nm).before args s = true ∧ va_Nc E nm s)) (hx : covers x pc = true) (h0 : x.catchType ≠ 0)
    (hlink : (Cond.classLink own x.catchType name).before args s = true) (hcast : (Cond.castable E name).before args s = true) (hcell : H[q]? = some ce) (hv : ce.vm = .none) (hcl : s.vm.findClass E = some ce.cls)
    (kk : W p l e R s m args below meth c H locs cells slots Q (F0 m x.handlerPc ls [.ref q])) : vx_W p l e R s m args below meth c H locs cells slots Q (F0 m pc ls rest) q := by
  intro T hT X
  have hpl : e.platform.magicAccessors = ({} : Platform).magicAccessors := by rw [X.admits.platform]
  obtain ⟨c3, c4, hc3, hc4, hasg⟩ := Cond.castable_spec hcast
  cases Option.some.inj (hc3.symm.trans hcl)
  obtain ⟨c5, hc5, hcl5⟩ := Cond.classLink_spec hown hlink e.platform hpl
  cases Option.some.inj (hc4.symm.trans hc5)
  obtain ⟨vm', X', st⟩ := X.thenCaughtThrough q (g := F0 m pc ls rest) rfl (Steps.refl _) (by rw [hT]; exact hcell) (by rw [hv]; rfl) (by obtain ⟨k9, h9, -⟩ := Vm.findClass_spec hcl; exact ⟨k9, h9⟩) pre x suf hsplit
    (fun z hz => by
      rcases hpass z hz with h | ⟨hz0, nm, hl1, hn1⟩
      · exact Or.inl h
      · obtain ⟨c6, hc6, hcl6⟩ := Cond.classLink_spec hown hl1 e.platform hpl
        obtain ⟨a8, b8, h1, h2, h3⟩ := hn1
        cases Option.some.inj (h1.symm.trans hcl)
        cases Option.some.inj (h2.symm.trans hc6)
        exact Or.inr ⟨hz0, _, hcl6, h3⟩) hx (Or.inr ⟨h0, c4, hcl5, hasg⟩)
  obtain ⟨t, a1, b1⟩ := kk (T.setVm vm') hT X'
  exact ⟨t, st.trans a1, b1⟩
end
section
variable {p : Program} {l : Launch} {e : Env} {R : Room} {s : State} {m : MethodId} {args : Array Value} {below : List Frame} {meth : Method} {c : Code} {H : Heap} {locs : List Loc} {cells slots : Nat} {Q : State → Prop}
variable {mc ms : Nat} {free : Addr → Prop} {A0 A1 : Nat → Prop} {H0 : Heap} {a : Array Value} {ls : Array Slot} {st0 rest : List Value}
variable {Qc : Array Value → State → Outcome → State → Prop} {XC : String → State → State → Prop}
def vx_MQ (below : List Frame) (Qc : Array Value → State → Outcome → State → Prop) (XC : String → State → State → Prop) (a : Array Value) (s : State) (mc ms : Nat) (free : Addr → Prop) : State → Prop := fun t =>
  ∃ o, t.status = .running ∧ Ended t below o ∧ vx_Q Qc XC mc ms free a s o t
end
section
variable {p : Program} {l : Launch} {e : Env} {R : Room} {s : State} {m : MethodId} {args : Array Value} {below : List Frame} {meth : Method} {c : Code} {H : Heap} {locs : List Loc} {cells slots : Nat} {Q : State → Prop}
variable {mc ms : Nat} {free : Addr → Prop} {A0 A1 : Nat → Prop} {H0 : Heap} {a : Array Value} {ls : Array Slot} {st0 rest : List Value}
variable {Qc : Array Value → State → Outcome → State → Prop} {XC : String → State → State → Prop}
theorem vx_frame {U : State} {k n : Nat} (h : s.sameButNew ({ U with vm := s.vm } : State) locs k n) : s.heap.size ≤ U.heap.size ∧ ∀ q : Nat, q < s.heap.size → (∀ z ∈ locs, z.base ≠ q) → U.heap[q]? = s.heap[q]? := by
  obtain ⟨-, h2, -, -, -, h6⟩ := h
  refine ⟨h2, fun q hq hz => ?_⟩
  obtain ⟨c9, e1, e2, e3, e4⟩ := h6 q _ (Array.getElem?_eq_getElem hq)
  have hs : c9.slots = (s.heap[q]).slots := Array.ext_getElem? fun i => e4 i fun hm => hz _ hm rfl
  have h9 : c9 = s.heap[q] := by
    rw [hs] at e2
    exact e2
  have e5 : U.heap[q]? = some c9 := e1
  rw [e5, h9, Array.getElem?_eq_getElem hq]
end
section
variable {p : Program} {l : Launch} {e : Env} {R : Room} {s : State} {m : MethodId} {args : Array Value} {below : List Frame} {meth : Method} {c : Code} {H : Heap} {locs : List Loc} {cells slots : Nat} {Q : State → Prop}
variable {mc ms : Nat} {free : Addr → Prop} {A0 A1 : Nat → Prop} {H0 : Heap} {a : Array Value} {ls : Array Slot} {st0 rest : List Value}
variable {Qc : Array Value → State → Outcome → State → Prop} {XC : String → State → State → Prop}
def vx_no (w : Cond) : Bool := decide (w ≠ .isRef (.static Bundle.tN "UNASSIGNED_STACK" Bundle.steD)) && decide (w ≠ .isRef (.static Bundle.tN "SUPPRESSED_SENTINEL" Bundle.listD)) && decide (w ≠ .laysStatic Bundle.tN "UNASSIGNED_STACK" Bundle.steD) && decide (w ≠ .laysStatic Bundle.tN "SUPPRESSED_SENTINEL" Bundle.listD)
end
section
variable {p : Program} {l : Launch} {e : Env} {R : Room} {s : State} {m : MethodId} {args : Array Value} {below : List Frame} {meth : Method} {c : Code} {H : Heap} {locs : List Loc} {cells slots : Nat} {Q : State → Prop}
variable {mc ms : Nat} {free : Addr → Prop} {A0 A1 : Nat → Prop} {H0 : Heap} {a : Array Value} {ls : Array Slot} {st0 rest : List Value}
variable {Qc : Array Value → State → Outcome → State → Prop} {XC : String → State → State → Prop}
def vx_atS (own : String) (ic : Nat) (X : String) (names : List String) : List Cond := (Bundle.ownAtoms own ic X names).filter vx_no
end
section
variable {p : Program} {l : Launch} {e : Env} {R : Room} {s : State} {m : MethodId} {args : Array Value} {below : List Frame} {meth : Method} {c : Code} {H : Heap} {locs : List Loc} {cells slots : Nat} {Q : State → Prop}
variable {mc ms : Nat} {free : Addr → Prop} {A0 A1 : Nat → Prop} {H0 : Heap} {a : Array Value} {ls : Array Slot} {st0 rest : List Value}
variable {Qc : Array Value → State → Outcome → State → Prop} {XC : String → State → State → Prop}
def vx_ot (w : Cond) : Bool := w.onTables || goodWord w
end
section
variable {p : Program} {l : Launch} {e : Env} {R : Room} {s : State} {m : MethodId} {args : Array Value} {below : List Frame} {meth : Method} {c : Code} {H : Heap} {locs : List Loc} {cells slots : Nat} {Q : State → Prop}
variable {mc ms : Nat} {free : Addr → Prop} {A0 A1 : Nat → Prop} {H0 : Heap} {a : Array Value} {ls : Array Slot} {st0 rest : List Value}
variable {Qc : Array Value → State → Outcome → State → Prop} {XC : String → State → State → Prop}
theorem vx_ot_at {args a' : Array Value} {s U : State} {w : Cond} (hW : s.WarmedH U.vm) (hvm : s.vm = U.vm) (hg : vx_ot w = true) (h : w.before args s = true) : w.before a' U = true := by
  simp only [vx_ot, Bool.or_eq_true] at hg
  rcases hg with hg | hg
  · exact va_tabs hg hvm h
  · exact word_at hW (good_of_word hg) h
end
section
variable {p : Program} {l : Launch} {e : Env} {R : Room} {s : State} {m : MethodId} {args : Array Value} {below : List Frame} {meth : Method} {c : Code} {H : Heap} {locs : List Loc} {cells slots : Nat} {Q : State → Prop}
variable {mc ms : Nat} {free : Addr → Prop} {A0 A1 : Nat → Prop} {H0 : Heap} {a : Array Value} {ls : Array Slot} {st0 rest : List Value}
variable {Qc : Array Value → State → Outcome → State → Prop} {XC : String → State → State → Prop}
theorem vx_own {args : Array Value} {s : State} {L : List Cond} (h1 : ∀ w ∈ L.filter vx_no, w.before args s = true)
    (hU : (Cond.isRef (.static Bundle.tN "UNASSIGNED_STACK" Bundle.steD)).before args s = true) (hN : (Cond.isRef (.static Bundle.tN "SUPPRESSED_SENTINEL" Bundle.listD)).before args s = true)
    (lU : (Cond.laysStatic Bundle.tN "UNASSIGNED_STACK" Bundle.steD).before args s = true) (lN : (Cond.laysStatic Bundle.tN "SUPPRESSED_SENTINEL" Bundle.listD).before args s = true) : ∀ w ∈ L, w.before args s = true := by
  intro w hw
  by_cases e1 : w = .isRef (.static Bundle.tN "UNASSIGNED_STACK" Bundle.steD)
  · rw [e1]; exact hU
  · by_cases e2 : w = .isRef (.static Bundle.tN "SUPPRESSED_SENTINEL" Bundle.listD)
    · rw [e2]; exact hN
    · by_cases e3 : w = .laysStatic Bundle.tN "UNASSIGNED_STACK" Bundle.steD
      · rw [e3]; exact lU
      · by_cases e4 : w = .laysStatic Bundle.tN "SUPPRESSED_SENTINEL" Bundle.listD
        · rw [e4]; exact lN
        · exact h1 w (List.mem_filter.mpr ⟨hw, by unfold vx_no; rw [decide_eq_true e1, decide_eq_true e2, decide_eq_true e3, decide_eq_true e4]; rfl⟩)
end
section
variable {p : Program} {l : Launch} {e : Env} {R : Room} {s : State} {m : MethodId} {args : Array Value} {below : List Frame} {meth : Method} {c : Code} {H : Heap} {locs : List Loc} {cells slots : Nat} {Q : State → Prop}
variable {mc ms : Nat} {free : Addr → Prop} {A0 A1 : Nat → Prop} {H0 : Heap} {a : Array Value} {ls : Array Slot} {st0 rest : List Value}
variable {Qc : Array Value → State → Outcome → State → Prop} {XC : String → State → State → Prop}
def vx_L (C n d : String) (A : Nat → Prop) (U : State) (H : Heap) : Prop := ∃ (c : ClassId) (k : Class) (i : Nat) (f : Field) (a : Nat) (cell : Cell), U.vm.findClass C = some c ∧ U.fieldFound? C n d = some (c, k, i, f) ∧ f.isStatic = true ∧ k.statics = some a ∧ H[a]? = some cell ∧ cell.vm.isStatics = true ∧ cell.cls = c ∧ f.slot < cell.slots.size ∧ k.staticTypes[f.slot]? = some f.type ∧ ¬ A a
end
section
variable {p : Program} {l : Launch} {e : Env} {R : Room} {s : State} {m : MethodId} {args : Array Value} {below : List Frame} {meth : Method} {c : Code} {H : Heap} {locs : List Loc} {cells slots : Nat} {Q : State → Prop}
variable {mc ms : Nat} {free : Addr → Prop} {A0 A1 : Nat → Prop} {H0 : Heap} {a : Array Value} {ls : Array Slot} {st0 rest : List Value}
variable {Qc : Array Value → State → Outcome → State → Prop} {XC : String → State → State → Prop}
theorem vx_L.moved {C n d : String} {A : Nat → Prop} {u U : State} {H : Heap} (hvm : u.vm.Alike U.vm) (h : vx_L C n d A u H) : vx_L C n d A U H := by
  obtain ⟨c, k, i, f, a, cell, h1, h2, h3, h4, h5, h6, h7, h8, h9, h10⟩ := h
  obtain ⟨k', hi', he⟩ := State.fieldFound?_setVm hvm h2
  exact ⟨c, k', i, f, a, cell, by rw [hvm.findClass]; exact h1, hi', h3, by rw [he]; exact h4, h5, h6, h7, h8, by rw [he]; exact h9, h10⟩
end
section
variable {p : Program} {l : Launch} {e : Env} {R : Room} {s : State} {m : MethodId} {args : Array Value} {below : List Frame} {meth : Method} {c : Code} {H : Heap} {locs : List Loc} {cells slots : Nat} {Q : State → Prop}
variable {mc ms : Nat} {free : Addr → Prop} {A0 A1 : Nat → Prop} {H0 : Heap} {a : Array Value} {ls : Array Slot} {st0 rest : List Value}
variable {Qc : Array Value → State → Outcome → State → Prop} {XC : String → State → State → Prop}
theorem vx_L.kept {C n d : String} {A : Nat → Prop} {U : State} {H H1 : Heap} (h : vx_L C n d A U H) (hq : ∀ a : Nat, a < H.size → ¬ A a → H1[a]? = H[a]?) : vx_L C n d A U H1 := by
  obtain ⟨c, k, i, f, a, cell, h1, h2, h3, h4, h5, h6, h7, h8, h9, h10⟩ := h
  exact ⟨c, k, i, f, a, cell, h1, h2, h3, h4, by rw [hq a (Array.getElem?_eq_some_iff.mp h5).1 h10]; exact h5, h6, h7, h8, h9, h10⟩
end
section
variable {p : Program} {l : Launch} {e : Env} {R : Room} {s : State} {m : MethodId} {args : Array Value} {below : List Frame} {meth : Method} {c : Code} {H : Heap} {locs : List Loc} {cells slots : Nat} {Q : State → Prop}
variable {mc ms : Nat} {free : Addr → Prop} {A0 A1 : Nat → Prop} {H0 : Heap} {a : Array Value} {ls : Array Slot} {st0 rest : List Value}
variable {Qc : Array Value → State → Outcome → State → Prop} {XC : String → State → State → Prop}
theorem vx_L.narrow {C n d : String} {A B : Nat → Prop} {U : State} {H : Heap} (h : vx_L C n d A U H) (hAB : ∀ q, B q → A q) : vx_L C n d B U H := by
  obtain ⟨c, k, i, f, a, cell, h1, h2, h3, h4, h5, h6, h7, h8, h9, h10⟩ := h
  exact ⟨c, k, i, f, a, cell, h1, h2, h3, h4, h5, h6, h7, h8, h9, fun z => h10 (hAB _ z)⟩
end
section
variable {p : Program} {l : Launch} {e : Env} {R : Room} {s : State} {m : MethodId} {args : Array Value} {below : List Frame} {meth : Method} {c : Code} {H : Heap} {locs : List Loc} {cells slots : Nat} {Q : State → Prop}
variable {mc ms : Nat} {free : Addr → Prop} {A0 A1 : Nat → Prop} {H0 : Heap} {a : Array Value} {ls : Array Slot} {st0 rest : List Value}
variable {Qc : Array Value → State → Outcome → State → Prop} {XC : String → State → State → Prop}
theorem vx_L.word {C n d : String} {A : Nat → Prop} {s : State} {args : Array Value} (h : vx_L C n d A s s.heap) : (Cond.laysStatic C n d).before args s = true := by
  obtain ⟨c, k, i, f, a, cell, h1, h2, h3, h4, h5, h6, h7, h8, h9, -⟩ := h
  show (Cond.laysStatic C n d).holds args s none s [] = true
  exact Cond.laysStatic_of h1 h2 h3 h4 h5 h6 h7 h8 h9
end
section
variable {p : Program} {l : Launch} {e : Env} {R : Room} {s : State} {m : MethodId} {args : Array Value} {below : List Frame} {meth : Method} {c : Code} {H : Heap} {locs : List Loc} {cells slots : Nat} {Q : State → Prop}
variable {mc ms : Nat} {free : Addr → Prop} {A0 A1 : Nat → Prop} {H0 : Heap} {a : Array Value} {ls : Array Slot} {st0 rest : List Value}
variable {Qc : Array Value → State → Outcome → State → Prop} {XC : String → State → State → Prop}
def vx_Zq (C n d : String) (A : Nat → Prop) (U : State) (H : Heap) : Prop := va_Zq C n d A U H ∧ vx_L C n d A U H
end
section
variable {p : Program} {l : Launch} {e : Env} {R : Room} {s : State} {m : MethodId} {args : Array Value} {below : List Frame} {meth : Method} {c : Code} {H : Heap} {locs : List Loc} {cells slots : Nat} {Q : State → Prop}
variable {mc ms : Nat} {free : Addr → Prop} {A0 A1 : Nat → Prop} {H0 : Heap} {a : Array Value} {ls : Array Slot} {st0 rest : List Value}
variable {Qc : Array Value → State → Outcome → State → Prop} {XC : String → State → State → Prop}
theorem vx_Zq.moved {C n d : String} {A : Nat → Prop} {u U : State} {H : Heap} (hvm : u.vm.Alike U.vm) (h : vx_Zq C n d A u H) : vx_Zq C n d A U H := ⟨va_Zq.moved hvm h.1, vx_L.moved hvm h.2⟩
end
section
variable {p : Program} {l : Launch} {e : Env} {R : Room} {s : State} {m : MethodId} {args : Array Value} {below : List Frame} {meth : Method} {c : Code} {H : Heap} {locs : List Loc} {cells slots : Nat} {Q : State → Prop}
variable {mc ms : Nat} {free : Addr → Prop} {A0 A1 : Nat → Prop} {H0 : Heap} {a : Array Value} {ls : Array Slot} {st0 rest : List Value}
variable {Qc : Array Value → State → Outcome → State → Prop} {XC : String → State → State → Prop}
theorem vx_Zq.kept {C n d : String} {A : Nat → Prop} {U : State} {H H1 : Heap} (h : vx_Zq C n d A U H) (hq : ∀ a : Nat, a < H.size → ¬ A a → H1[a]? = H[a]?) : vx_Zq C n d A U H1 := ⟨va_Zq.kept h.1 hq, vx_L.kept h.2 hq⟩
end
section
variable {p : Program} {l : Launch} {e : Env} {R : Room} {s : State} {m : MethodId} {args : Array Value} {below : List Frame} {meth : Method} {c : Code} {H : Heap} {locs : List Loc} {cells slots : Nat} {Q : State → Prop}
variable {mc ms : Nat} {free : Addr → Prop} {A0 A1 : Nat → Prop} {H0 : Heap} {a : Array Value} {ls : Array Slot} {st0 rest : List Value}
variable {Qc : Array Value → State → Outcome → State → Prop} {XC : String → State → State → Prop}
theorem vx_Zq.narrow {C n d : String} {A B : Nat → Prop} {U : State} {H : Heap} (h : vx_Zq C n d A U H) (hAB : ∀ q, B q → A q) : vx_Zq C n d B U H := ⟨va_Zq.narrow h.1 hAB, vx_L.narrow h.2 hAB⟩
end
section
variable {p : Program} {l : Launch} {e : Env} {R : Room} {s : State} {m : MethodId} {args : Array Value} {below : List Frame} {meth : Method} {c : Code} {H : Heap} {locs : List Loc} {cells slots : Nat} {Q : State → Prop}
variable {mc ms : Nat} {free : Addr → Prop} {A0 A1 : Nat → Prop} {H0 : Heap} {a : Array Value} {ls : Array Slot} {st0 rest : List Value}
variable {Qc : Array Value → State → Outcome → State → Prop} {XC : String → State → State → Prop}
theorem vx_Zqof {args : Array Value} {s : State} {C n d : String} {A : Nat → Prop} (hl : (Cond.laysStatic C n d).before args s = true) (hini : (Cond.initialized C).before args s = true) (h : (Cond.isRef (.static C n d)).before args s = true) (hA : ∀ a : Nat, a < s.heap.size → ¬ A a) : vx_Zq C n d A s s.heap := by
  refine ⟨va_Zqof hl hini h hA, ?_⟩
  obtain ⟨c, k, i, f, a, cell, h1, h2, h3, h4, h5, h6, h7, h8, h9⟩ := Cond.laysStatic_spec hl
  exact ⟨c, k, i, f, a, cell, h1, h2, h3, h4, h5, h6, h7, h8, h9, hA a (Array.getElem?_eq_some_iff.mp h5).1⟩
end
section
variable {p : Program} {l : Launch} {e : Env} {R : Room} {s : State} {m : MethodId} {args : Array Value} {below : List Frame} {meth : Method} {c : Code} {H : Heap} {locs : List Loc} {cells slots : Nat} {Q : State → Prop}
variable {mc ms : Nat} {free : Addr → Prop} {A0 A1 : Nat → Prop} {H0 : Heap} {a : Array Value} {ls : Array Slot} {st0 rest : List Value}
variable {Qc : Array Value → State → Outcome → State → Prop} {XC : String → State → State → Prop}
theorem vx_isRef {C n d : String} {v : Value} {A : Nat → Prop} {s : State} {args : Array Value} (h : va_Z C n d v A s s.heap) (hv : v.isRef = true) : (Cond.isRef (.static C n d)).before args s = true := by
  obtain ⟨cf, kf, fi, f, a, cell, h1, h2, h3, h4, h5, h6, h7, -⟩ := h
  have he : (Term.static C n d).eval args s none [] s = some v := by
    simp [Term.eval, State.fieldNamed?, h1, h2, h4, h5, h6, h7]
  simp only [Cond.before, Cond.holds, Cond.value, he]
  cases v <;> simp_all [Value.isRef]
end
section
variable {p : Program} {l : Launch} {e : Env} {R : Room} {s : State} {m : MethodId} {args : Array Value} {below : List Frame} {meth : Method} {c : Code} {H : Heap} {locs : List Loc} {cells slots : Nat} {Q : State → Prop}
variable {mc ms : Nat} {free : Addr → Prop} {A0 A1 : Nat → Prop} {H0 : Heap} {a : Array Value} {ls : Array Slot} {st0 rest : List Value}
variable {Qc : Array Value → State → Outcome → State → Prop} {XC : String → State → State → Prop}
theorem vx_isRefq {C n d : String} {A : Nat → Prop} {s : State} {args : Array Value} (h : va_Zq C n d A s s.heap) : (Cond.isRef (.static C n d)).before args s = true := by
  rcases h with h | ⟨t, h⟩
  · exact vx_isRef h rfl
  · exact vx_isRef h rfl
end
section
variable {p : Program} {l : Launch} {e : Env} {R : Room} {s : State} {m : MethodId} {args : Array Value} {below : List Frame} {meth : Method} {c : Code} {H : Heap} {locs : List Loc} {cells slots : Nat} {Q : State → Prop}
variable {mc ms : Nat} {free : Addr → Prop} {A0 A1 : Nat → Prop} {H0 : Heap} {a : Array Value} {ls : Array Slot} {st0 rest : List Value}
variable {Qc : Array Value → State → Outcome → State → Prop} {XC : String → State → State → Prop}
theorem vx_rebase {T : State} (X : Stand p l e R s m args below meth c T locs cells slots) {R' : Room} (hf : R'.frames ≤ R.frames) (hl : R'.locals ≤ R.locals) (hc : cells + R'.cells ≤ R.cells) (hs : slots + R'.slots ≤ R.slots) :
    Stand p l e R' ((T.setVm s.vm).setFrames (.invoking m args :: below)) m args below meth c T [] 0 0 := by
  have htop : (T.setVm s.vm).topJava?.isSome := X.here.top
  have hF : ((T.setVm s.vm).setFrames (.invoking m args :: below)).frames = .invoking m args :: below := State.frames_setFrames _ (State.cur_lt_of_top htop)
  obtain ⟨g₀, hg0⟩ := Option.isSome_iff_exists.mp htop
  obtain ⟨r, hr⟩ := State.topJava?_eq_some.mp hg0
  have hl9 : e.platform.stackLimits (T.setVm s.vm).me = e.platform.stackLimits s.me := X.limits
  have hb9 : (T.setVm s.vm).me.stackBytes = s.me.stackBytes := X.bytes
  refine ⟨X.admits, X.cas, X.clock, hF, ?_, X.hears, X.method, X.code, X.here, X.tail, X.warmed, ?_, ?_, ?_⟩
  · have h := X.room
    have hU : ((T.setVm s.vm).setFrames (.invoking m args :: below)).localsInUse = s.localsInUse := by
      rw [State.localsInUse_invoking hF (meth := meth) (c := c) X.method X.code, State.localsInUse_invoking X.frames X.method X.code]
    simp only [State.hasRoom, Bool.and_eq_true, decide_eq_true_eq] at h ⊢
    obtain ⟨⟨⟨⟨h1, h2, h3, h4, h5, h6⟩, h7⟩, h8⟩, h9⟩ := h
    rw [X.frames, List.length_cons] at h2 h3
    have q1 := X.heapSize
    have q2 := X.used
    simp only [hF, hU, List.length_cons, State.stackLimits_setFrames, State.stackBytes_setFrames, hl9, hb9]
    refine ⟨⟨⟨⟨by omega, by omega, by omega, by omega, by omega, h6⟩, ?_⟩, ?_⟩, X.book⟩
    · show T.heap.size + R'.cells ≤ e.platform.maxCells
      omega
    · show T.slotsUsed + R'.slots ≤ e.platform.maxSlots
      omega
  · rw [State.stackLimits_setFrames]; rfl
  · rw [State.stackBytes_setFrames]; rfl
  · refine ⟨?_, Nat.le_refl _, Nat.le_refl _, ?_, ?_, fun a c9 h9 => ⟨c9, h9, rfl, rfl, fun _ _ => rfl⟩⟩
    · obtain ⟨t, ht, -⟩ := State.frames_cons hr
      show T.setVm s.vm = { ((T.setVm s.vm).setFrames (.invoking m args :: below)).setFrames (T.setVm s.vm).frames with heap := T.heap, slotsUsed := T.slotsUsed }
      rw [State.setFrames_setFrames, State.setFrames_self ht]
      rfl
    · show T.slotsUsed = T.slotsUsed + ((T.heap.toList.drop T.heap.size).map (·.slots.size)).sum
      rw [List.drop_eq_nil_of_le (Nat.le_of_eq Array.length_toList)]
      rfl
    · show ((T.heap.toList.drop T.heap.size).map (·.slots.size)).sum ≤ 0
      rw [List.drop_eq_nil_of_le (Nat.le_of_eq Array.length_toList)]
      exact Nat.le_refl _
end
section
variable {p : Program} {l : Launch} {e : Env} {R : Room} {s : State} {m : MethodId} {args : Array Value} {below : List Frame} {meth : Method} {c : Code} {H : Heap} {locs : List Loc} {cells slots : Nat} {Q : State → Prop}
variable {mc ms : Nat} {free : Addr → Prop} {A0 A1 : Nat → Prop} {H0 : Heap} {a : Array Value} {ls : Array Slot} {st0 rest : List Value}
variable {Qc : Array Value → State → Outcome → State → Prop} {XC : String → State → State → Prop}
theorem vx_throwS {cc : ByteArray} {pc : Nat} (hexec : p.tables.exec = Jvm.exec) (hb : c.code = cc) (hl : l.stackTraces = false) {own cls text : String} {names : List String} {ik is ic mc ms sa : Nat} {A : Nat → Prop}
    (hown : s.vm.findClass own = some m.cls) (hcls : Bundle.fit cls = true) (hnames : ∀ n ∈ names, Bundle.fit n = true)
    (hk : (Cond.classLink own ik cls).before args s = true) (hini : (Cond.initialized cls).before args s = true) (hstr : vk_R own is text sa s) (hat : ∀ w ∈ vx_atS own ic cls names, w.before args s = true)
    (hgood : ∀ w ∈ Cond.classLink own ik cls :: Cond.initialized cls :: vx_atS own ic cls names, vx_ot w = true)
    (hU : vx_Zq Bundle.tN "UNASSIGNED_STACK" Bundle.steD A s s.heap) (hN : vx_Zq Bundle.tN "SUPPRESSED_SENTINEL" Bundle.listD A s s.heap) (hS : va_S A s.heap H locs) (hsize : ls.size = c.maxLocals)
    (d0 : decode cc pc = .ok (.new ik, 3)) (d3 : decode cc (pc + 3) = .ok (.dup, 1)) (d4 : decode cc (pc + 4) = .ok (.ldc is, 2)) (d6 : decode cc (pc + 6) = .ok (.invokespecial ic, 3)) (d9 : decode cc (pc + 9) = .ok (.athrow, 1))
    (hout : ∀ x ∈ c.exceptionTable.toList, covers x (pc + 9) = false)
    (hRframes : names.length + 3 < R.frames) (hRlocals : (rest.map fun v => v.category).sum + (13 * (names.length + 1) + 43) ≤ R.locals) (hRcells : cells + 1 ≤ R.cells) (hRslots : slots + 6 ≤ R.slots) (hlocks : meth.locks = false)
    (hx : ∀ t : State, s.vm.Alike t.vm → H.size ≤ t.heap.size → (∀ q : Nat, q < H.size → t.heap[q]? = H[q]?) → XC cls s t)
    (hf : ∀ z ∈ locs, free z.base) (hc : cells + 1 ≤ mc) (hs : slots + 6 ≤ ms) :
    W p l e R s m args below meth c H locs cells slots (vx_MQ below Qc XC args s mc ms free) (F0 m pc ls rest) := by
  intro T hT X
  have htr : e.platform.stackTraces = false := (show e.platform.stackTraces = l.stackTraces by rw [X.admits.platform]).trans hl
  have Y := vx_rebase X (R' := { frames := R.frames, locals := R.locals, cells := 1, slots := 6 }) (Nat.le_refl _) (Nat.le_refl _) hRcells hRslots
  obtain ⟨s', hA⟩ : ∃ z, z = (T.setVm s.vm).setFrames (.invoking m args :: below) := ⟨_, rfl⟩
  rw [← hA] at Y
  have hvm : s'.vm = s.vm := by rw [hA]; rfl
  have hhp : s'.heap = H := by rw [hA]; exact hT
  have hW0 : s.WarmedH s'.vm := by rw [hvm]; exact State.WarmedH.refl s
  have hat' : ∀ w ∈ vx_atS own ic cls names, w.before args s' = true := fun w hw => vx_ot_at hW0 hvm.symm (hgood w (List.mem_cons_of_mem _ (List.mem_cons_of_mem _ hw))) (hat w hw)
  have hk' : (Cond.classLink own ik cls).before args s' = true := vx_ot_at hW0 hvm.symm (hgood _ List.mem_cons_self) hk
  have hini' : (Cond.initialized cls).before args s' = true := vx_ot_at hW0 hvm.symm (hgood _ (List.mem_cons_of_mem _ List.mem_cons_self)) hini
  have hU' : vx_Zq Bundle.tN "UNASSIGNED_STACK" Bundle.steD A s' s'.heap := by rw [hhp]; exact vx_Zq.moved hW0.alike (hU.kept hS.2.1)
  have hN' : vx_Zq Bundle.tN "SUPPRESSED_SENTINEL" Bundle.listD A s' s'.heap := by rw [hhp]; exact vx_Zq.moved hW0.alike (hN.kept hS.2.1)
  have h : ∀ w ∈ Bundle.ownAtoms own ic cls names, w.before args s' = true := vx_own hat' (vx_isRefq hU'.1) (vx_isRefq hN'.1) hU'.2.word hN'.2.word
  have hown' : s'.vm.findClass own = some m.cls := by rw [hvm]; exact hown
  have hins : (Cond.instantiable cls 6).before args s' = true := h _ (by simp [Bundle.ownAtoms])
  obtain ⟨vm₁, cX, kX, hfX, hkX, -, -, X₁, st1⟩ := Y.newCold hexec (own := own) (C := cls) (index := ik) (n := 6) hown' hk' hins hini'
    (g := F0 m pc ls rest) rfl (by rw [hb]; exact d0) (Nat.le_refl _) (Nat.le_refl _)
  generalize hT1 : (T.setVm vm₁).pushCell { cls := cX, slots := kX.instanceTypes.map defaultValue, vm := .none } = T1 at X₁ st1
  have hcat : (Value.ref T.heap.size).category = 1 := rfl
  have hcellA : T1.heap[T.heap.size]? = some (freshCell cX kX) := by rw [← hT1]; exact State.heap_pushCell_size _ _
  have d3' : decode c.code (pc + 3) = .ok (.dup, 1) := by rw [hb]; exact d3
  have d4' : decode c.code (pc + 4) = .ok (.ldc is, 2) := by rw [hb]; exact d4
  have hstr' : vk_R own is text sa s' := vk_R.warm hW0 hstr
  obtain ⟨U, hsteps, hrun, hend, hW, hsame, ce, hce, hO⟩ := X₁.ctorThrowS hexec htr (own := own) (cls := cls) (names := names) (ic := ic) hown' hcls hnames h (fun x hx => nomatch hx) hfX hkX hcellA (by rw [hhp, hT]; exact Nat.le_refl _) (msg := .ref sa) rfl
    (g := { method := m, pc := pc + 6, locals := ls, stack := .ref sa :: .ref T.heap.size :: .ref T.heap.size :: rest, locked := none }) rfl hsize rfl rfl (rest := rest) rfl
    (by rw [hb]; exact d6) (by rw [hb]; exact d9) hout hRframes (by simp only [List.map_cons, List.sum_cons, hcat]; omega) hlocks
  obtain ⟨f1, f2⟩ := vx_frame hsame
  rw [hhp] at f1 f2
  have hWs : s.WarmedH U.vm := State.WarmedH.trans hW0 hW
  have hcl : s.vm.findClass cls = some ce.cls := by
    have h9 := hO.cls
    rw [hvm] at h9
    exact h9
  have hall : s.sameButNew ({ U with vm := s.vm } : State) locs mc ms := by
    subst hA
    obtain ⟨e1, e2⟩ := hsame
    rw [State.setFrames_setFrames] at e1
    have h2 : (T.setVm s.vm).sameButNew ({ U with vm := s.vm } : State) [] (0 + 1) (0 + 6) := ⟨e1, e2⟩
    have h3 := X.same.trans h2
    rw [List.append_nil] at h3
    exact h3.mono hc hs
  refine ⟨U, ?_, .threw T.heap.size, hrun, hend, Or.inr ⟨T.heap.size, rfl, cls, ce, locs, hx U hWs.alike f1 (fun q hq => f2 q hq (fun z hz => nomatch hz)), hce, hO.vm, hcl, hWs, hall, hf⟩⟩
  refine st1 _ ?_
  show Steps p.tables e below (T1.setTop { method := m, pc := pc + 3, locals := ls, stack := .ref T.heap.size :: rest, locked := none }) _
  jvm_step X₁.here [X₁.here.top, hexec, d3', Value.category]
  exact X₁.ldcString hexec (own := own) (text := text) (index := is) (a := sa) hown' hstr'.1 hstr'.2
    (g := { method := m, pc := pc + 4, locals := ls, stack := .ref T.heap.size :: .ref T.heap.size :: rest, locked := none }) rfl d4' _ hsteps
end
end
section
/-! ===== classes: their fields; methods: name, bytes, locals, answer, handlers, room ===== -/
def T_EE : u_T := fun k => match k with
  | 0 => ("EditionEqual", "pointCount", "I", true)
  | 1 => ("EditionEqual", "rowCount", "I", true)
  | 2 => ("EditionEqual", "firstEdition", "LEditionEqual$Edition;", true)
  | 3 => ("EditionEqual", "secondEdition", "LEditionEqual$Edition;", true)
  | 4 => ("EditionEqual", "firstBehaviour", "LEditionEqual$Behaviour;", true)
  | 5 => ("EditionEqual", "secondBehaviour", "LEditionEqual$Behaviour;", true)
  | 6 => ("EditionEqual", "search", "LEditionEqual$PairSearch;", true)
  | 7 => ("EditionEqual", "matching", "LEditionEqual$Matching;", true)
  | _ => ("EditionEqual", "barredRows", "I", false)
def ty_EE : Nat → FieldType := fun k => match k with
  | 0 => .int
  | 1 => .int
  | 2 => .object "EditionEqual$Edition"
  | 3 => .object "EditionEqual$Edition"
  | 4 => .object "EditionEqual$Behaviour"
  | 5 => .object "EditionEqual$Behaviour"
  | 6 => .object "EditionEqual$PairSearch"
  | 7 => .object "EditionEqual$Matching"
  | _ => .int
theorem nm_EE : ∀ a, a < 9 → ∀ b, b < 9 → a ≠ b → (T_EE a).2.1 ≠ (T_EE b).2.1 := by decide +kernel
theorem tp_EE : ∀ k, k < 9 → parseFieldDescriptor (T_EE k).2.2.1 = some (ty_EE k) := by decide +kernel
def T_ED : u_T := fun k => match k with
  | 0 => ("EditionEqual$Edition", "kinds", "[I", true)
  | 1 => ("EditionEqual$Edition", "numbers", "[I", true)
  | 2 => ("EditionEqual$Edition", "neededInputs", "[I", true)
  | 3 => ("EditionEqual$Edition", "wires", "[I", true)
  | 4 => ("EditionEqual$Edition", "neededBlocks", "[I", true)
  | 5 => ("EditionEqual$Edition", "outputs", "[I", true)
  | 6 => ("EditionEqual$Edition", "delays", "[I", true)
  | 7 => ("EditionEqual$Edition", "ahead", "[I", true)
  | 8 => ("EditionEqual$Edition", "blockCount", "I", false)
  | _ => ("EditionEqual$Edition", "delayCount", "I", false)
def ty_ED : Nat → FieldType := fun k => match k with
  | 0 => .array .int
  | 1 => .array .int
  | 2 => .array .int
  | 3 => .array .int
  | 4 => .array .int
  | 5 => .array .int
  | 6 => .array .int
  | 7 => .array .int
  | 8 => .int
  | _ => .int
theorem nm_ED : ∀ a, a < 10 → ∀ b, b < 10 → a ≠ b → (T_ED a).2.1 ≠ (T_ED b).2.1 := by decide +kernel
theorem tp_ED : ∀ k, k < 10 → parseFieldDescriptor (T_ED k).2.2.1 = some (ty_ED k) := by decide +kernel
def T_BH : u_T := fun k => match k with
  | 0 => ("EditionEqual$Behaviour", "edition", "LEditionEqual$Edition;", true)
  | 1 => ("EditionEqual$Behaviour", "order", "[I", true)
  | 2 => ("EditionEqual$Behaviour", "columns", "[I", true)
  | 3 => ("EditionEqual$Behaviour", "outs", "[I", true)
  | 4 => ("EditionEqual$Behaviour", "nextStates", "[I", true)
  | 5 => ("EditionEqual$Behaviour", "queue", "[I", true)
  | 6 => ("EditionEqual$Behaviour", "classes", "[I", true)
  | 7 => ("EditionEqual$Behaviour", "keys", "[I", true)
  | 8 => ("EditionEqual$Behaviour", "newClasses", "[I", true)
  | 9 => ("EditionEqual$Behaviour", "orderedCount", "I", false)
  | 10 => ("EditionEqual$Behaviour", "stateCount", "I", false)
  | 11 => ("EditionEqual$Behaviour", "reachedStates", "I", false)
  | _ => ("EditionEqual$Behaviour", "known", "Z", false)
def ty_BH : Nat → FieldType := fun k => match k with
  | 0 => .object "EditionEqual$Edition"
  | 1 => .array .int
  | 2 => .array .int
  | 3 => .array .int
  | 4 => .array .int
  | 5 => .array .int
  | 6 => .array .int
  | 7 => .array .int
  | 8 => .array .int
  | 9 => .int
  | 10 => .int
  | 11 => .int
  | _ => .boolean
theorem nm_BH : ∀ a, a < 13 → ∀ b, b < 13 → a ≠ b → (T_BH a).2.1 ≠ (T_BH b).2.1 := by decide +kernel
theorem tp_BH : ∀ k, k < 13 → parseFieldDescriptor (T_BH k).2.2.1 = some (ty_BH k) := by decide +kernel
def T_PS : u_T := fun k => match k with
  | 0 => ("EditionEqual$PairSearch", "first", "LEditionEqual$Behaviour;", true)
  | 1 => ("EditionEqual$PairSearch", "second", "LEditionEqual$Behaviour;", true)
  | 2 => ("EditionEqual$PairSearch", "met", "[I", true)
  | 3 => ("EditionEqual$PairSearch", "queue", "[I", true)
  | 4 => ("EditionEqual$PairSearch", "cameFrom", "[I", true)
  | 5 => ("EditionEqual$PairSearch", "cameBy", "[I", true)
  | 6 => ("EditionEqual$PairSearch", "pairCount", "I", false)
  | 7 => ("EditionEqual$PairSearch", "shownCount", "I", false)
  | 8 => ("EditionEqual$PairSearch", "shownFrom", "I", false)
  | 9 => ("EditionEqual$PairSearch", "shownLast", "I", false)
  | 10 => ("EditionEqual$PairSearch", "firstOuts", "I", false)
  | 11 => ("EditionEqual$PairSearch", "secondOuts", "I", false)
  | _ => ("EditionEqual$PairSearch", "known", "Z", false)
def ty_PS : Nat → FieldType := fun k => match k with
  | 0 => .object "EditionEqual$Behaviour"
  | 1 => .object "EditionEqual$Behaviour"
  | 2 => .array .int
  | 3 => .array .int
  | 4 => .array .int
  | 5 => .array .int
  | 6 => .int
  | 7 => .int
  | 8 => .int
  | 9 => .int
  | 10 => .int
  | 11 => .int
  | _ => .boolean
theorem nm_PS : ∀ a, a < 13 → ∀ b, b < 13 → a ≠ b → (T_PS a).2.1 ≠ (T_PS b).2.1 := by decide +kernel
theorem tp_PS : ∀ k, k < 13 → parseFieldDescriptor (T_PS k).2.2.1 = some (ty_PS k) := by decide +kernel
def T_MT : u_T := fun k => match k with
  | 0 => ("EditionEqual$Matching", "first", "LEditionEqual$Edition;", true)
  | 1 => ("EditionEqual$Matching", "second", "LEditionEqual$Edition;", true)
  | 2 => ("EditionEqual$Matching", "partners", "[I", true)
  | 3 => ("EditionEqual$Matching", "partnersBack", "[I", true)
  | 4 => ("EditionEqual$Matching", "queue", "[I", true)
  | _ => ("EditionEqual$Matching", "matchCount", "I", false)
def ty_MT : Nat → FieldType := fun k => match k with
  | 0 => .object "EditionEqual$Edition"
  | 1 => .object "EditionEqual$Edition"
  | 2 => .array .int
  | 3 => .array .int
  | 4 => .array .int
  | _ => .int
theorem nm_MT : ∀ a, a < 6 → ∀ b, b < 6 → a ≠ b → (T_MT a).2.1 ≠ (T_MT b).2.1 := by decide +kernel
theorem tp_MT : ∀ k, k < 6 → parseFieldDescriptor (T_MT k).2.2.1 = some (ty_MT k) := by decide +kernel
def T_MD : u_T := fun k => match k with
  | 0 => ("EditionEqualModel", "thrown", "I", false)
  | 1 => ("EditionEqualModel", "points", "I", true)
  | 2 => ("EditionEqualModel", "barred", "[Z", true)
  | 3 => ("EditionEqualModel", "counts", "[I", true)
  | 4 => ("EditionEqualModel", "kinds", "[I", true)
  | 5 => ("EditionEqualModel", "numbers", "[I", true)
  | 6 => ("EditionEqualModel", "firsts", "[I", true)
  | 7 => ("EditionEqualModel", "seconds", "[I", true)
  | 8 => ("EditionEqualModel", "outs", "[I", true)
  | 9 => ("EditionEqualModel", "come", "[Z", true)
  | 10 => ("EditionEqualModel", "values", "[I", true)
  | 11 => ("EditionEqualModel", "table", "[I", true)
  | 12 => ("EditionEqualModel", "reached", "[Z", true)
  | 13 => ("EditionEqualModel", "apart", "[Z", true)
  | 14 => ("EditionEqualModel", "pairCount", "I", false)
  | 15 => ("EditionEqualModel", "pairs", "[I", true)
  | 16 => ("EditionEqualModel", "cameFrom", "[I", true)
  | 17 => ("EditionEqualModel", "cameBy", "[I", true)
  | 18 => ("EditionEqualModel", "seen", "[Z", true)
  | 19 => ("EditionEqualModel", "differsAt", "I", false)
  | 20 => ("EditionEqualModel", "differsBy", "I", false)
  | _ => ("EditionEqualModel", "match", "[Z", true)
def ty_MD : Nat → FieldType := fun k => match k with
  | 0 => .int
  | 1 => .int
  | 2 => .array .boolean
  | 3 => .array .int
  | 4 => .array .int
  | 5 => .array .int
  | 6 => .array .int
  | 7 => .array .int
  | 8 => .array .int
  | 9 => .array .boolean
  | 10 => .array .int
  | 11 => .array .int
  | 12 => .array .boolean
  | 13 => .array .boolean
  | 14 => .int
  | 15 => .array .int
  | 16 => .array .int
  | 17 => .array .int
  | 18 => .array .boolean
  | 19 => .int
  | 20 => .int
  | _ => .array .boolean
theorem nm_MD : ∀ a, a < 22 → ∀ b, b < 22 → a ≠ b → (T_MD a).2.1 ≠ (T_MD b).2.1 := by decide +kernel
theorem tp_MD : ∀ k, k < 22 → parseFieldDescriptor (T_MD k).2.2.1 = some (ty_MD k) := by decide +kernel
def ez_cl : List vw_C := [("EditionEqual", T_EE, 9), ("EditionEqual$Edition", T_ED, 10), ("EditionEqual$Behaviour", T_BH, 13), ("EditionEqual$PairSearch", T_PS, 13), ("EditionEqual$Matching", T_MT, 6), ("EditionEqualModel", T_MD, 22)]
/-- classes' numbers and slots; the arrays' classes; addresses of what nobody writes (900: the class's table of columns, 901: the script); the script -/
abbrev ez_G : Type := va_G × (FieldType → ClassId) × (Nat → Nat) × (Nat × (Nat → Int32))
def ez_str : List (String × Nat × String) := [("EditionEqual", 215, "no such edition"), ("EditionEqual", 81, "no such kind, or no such number of the kind"), ("EditionEqual", 92, "no more blocks, or no more delays"), ("EditionEqual", 107, "no such block or input"), ("EditionEqual", 113, "no such output or block"), ("EditionEqual", 211, "no such row"), ("EditionEqual", 217, "no such block"), ("EditionEqual", 199, "the edition is not right"), ("EditionEqual", 146, "a place is not below 0"), ("EditionEqual", 213, "one of the editions is not right"), ("EditionEqual", 165, "rows are counted from 0"), ("EditionEqual", 167, "so many rows are not shown"), ("EditionEqual", 191, "idle blocks are counted from 0")]
def ez_dc (j : Nat) : Int32 := match j with
  | 0 => 0xAAAAAAAA
  | 1 => 0xCCCCCCCC
  | 2 => 0xF0F0F0F0
  | 3 => 0xFF00FF00
  | _ => 0xFFFF0000
def ez_tU : String := "UNASSIGNED_STACK"
/-- what nobody writes -/
def ez_Ro (G : ez_G) (A : Nat → Prop) (U : State) (H : Heap) : Prop :=
  (va_Z "EditionEqual" "DELAY_COLUMNS" "[I" (.ref (G.2.2.1 900)) A U H ∧ va_T .int (G.2.2.1 900) 5 (fun j => .int (ez_dc j)) A U H) ∧ (vx_Zq Bundle.tN "UNASSIGNED_STACK" Bundle.steD A U H ∧ vx_Zq Bundle.tN "SUPPRESSED_SENTINEL" Bundle.listD A U H) ∧
  (∀ q ∈ ez_str, ∃ a, vk_R q.1 q.2.1 q.2.2 a U) ∧ va_Nc "java/lang/IllegalStateException" "java/lang/IllegalArgumentException" U ∧ va_T .int (G.2.2.1 901) G.2.2.2.1 (fun j => .int (G.2.2.2.2 j)) A U H
theorem ez_Ro.moved {G : ez_G} {A : Nat → Prop} {u U : State} {H : Heap} (hW : u.WarmedH U.vm) (h : ez_Ro G A u H) : ez_Ro G A U H :=
  ⟨⟨va_Z.moved hW.alike h.1.1, va_T.moved hW.alike h.1.2⟩, ⟨vx_Zq.moved hW.alike h.2.1.1, vx_Zq.moved hW.alike h.2.1.2⟩, fun q hq => (h.2.2.1 q hq).elim fun a ha => ⟨a, vk_R.warm hW ha⟩, va_Nc.moved hW.alike h.2.2.2.1, va_T.moved hW.alike h.2.2.2.2⟩
theorem ez_Ro.kept {G : ez_G} {A : Nat → Prop} {U : State} {H H1 : Heap} (h : ez_Ro G A U H) (hq : ∀ a : Nat, a < H.size → ¬ A a → H1[a]? = H[a]?) : ez_Ro G A U H1 :=
  ⟨⟨va_Z.kept h.1.1 hq, va_T.kept h.1.2 hq⟩, ⟨vx_Zq.kept h.2.1.1 hq, vx_Zq.kept h.2.1.2 hq⟩, h.2.2.1, h.2.2.2.1, va_T.kept h.2.2.2.2 hq⟩
theorem ez_Ro.narrow {G : ez_G} {A B : Nat → Prop} {U : State} {H : Heap} (h : ez_Ro G A U H) (hAB : ∀ q, B q → A q) : ez_Ro G B U H :=
  ⟨⟨va_Z.narrow h.1.1 hAB, va_T.narrow h.1.2 hAB⟩, ⟨vx_Zq.narrow h.2.1.1 hAB, vx_Zq.narrow h.2.1.2 hAB⟩, h.2.2.1, h.2.2.2.1, va_T.narrow h.2.2.2.2 hAB⟩
end
section
/-! ===== THE LAYER: a method's run over a world that is a list of cells, each known by its place ===== -/
/-- a cell: an array (its type, its length and contents), or an object (its class's number, its fields); '.ref k' in it is the cell at place k -/
abbrev ez_Cell : Type := (FieldType × vp_A) ⊕ (Nat × List Value)
abbrev ez_H : Type := List ez_Cell
/-- a method: name, bytes, number of locals, what it returns, handlers; its room: frames, words; cells, slots that must be free; cells, slots that it makes where it returns (one of six slots more where it throws) -/
abbrev ez_X : Type := MethodName × ByteArray × Nat × Option FieldType × List (Nat × Nat × Nat × Nat) × (Nat × Nat × Nat × Nat × Nat × Nat)
abbrev ez_hs (X : ez_X) : List (Nat × Nat × Nat × Nat) := X.2.2.2.2.1
abbrev ez_fr (X : ez_X) : Nat := X.2.2.2.2.2.1
abbrev ez_lo (X : ez_X) : Nat := X.2.2.2.2.2.2.1
abbrev ez_rc (X : ez_X) : Nat := X.2.2.2.2.2.2.2.1
abbrev ez_rs (X : ez_X) : Nat := X.2.2.2.2.2.2.2.2.1
abbrev ez_mc (X : ez_X) : Nat := X.2.2.2.2.2.2.2.2.2.1
abbrev ez_ms (X : ez_X) : Nat := X.2.2.2.2.2.2.2.2.2.2
def ez_rm (X : ez_X) : Room := { frames := ez_fr X, cells := ez_rc X, slots := ez_rs X, locals := ez_lo X }
def ez_kc (X : ez_X) (o : Outcome) : Nat := match o with
  | .returned _ => ez_mc X
  | .threw _ => ez_mc X + 1
def ez_ks (X : ez_X) (o : Outcome) : Nat := match o with
  | .returned _ => ez_ms X
  | .threw _ => ez_ms X + 6
/-- how a method ends: a value, or an exception of a kind; and the world then -/
abbrev ez_R : Type := (Option Value ⊕ Nat) × ez_H
def ez_v (ad : Nat → Nat) (v : Value) : Value := match v with
  | .ref k => .ref (ad k)
  | w => w
def ez_e (cA : FieldType → ClassId) (ad : Nat → Nat) (q : ez_Cell) : va_E := match q with
  | .inl a => .inl (cA a.1, a.2)
  | .inr o => .inr (o.1, o.2.map (ez_v ad))
def ez_ws (G : ez_G) (ad : Nat → Nat) (h : ez_H) : va_W := h.mapIdx fun k q => (ad k, ez_e G.2.1 ad q)
theorem ez_cat (ad : Nat → Nat) (v : Value) : (ez_v ad v).category = v.category := by cases v <;> rfl
theorem ez_ws_get (G : ez_G) (ad : Nat → Nat) {h : ez_H} {k : Nat} {q : ez_Cell} (hk : h[k]? = some q) : (ez_ws G ad h)[k]? = some (ad k, ez_e G.2.1 ad q) := by
  simp [ez_ws, hk]
theorem ez_ws_of (G : ez_G) (ad : Nat → Nat) {h : ez_H} {k : Nat} {q : Nat × va_E} (hk : (ez_ws G ad h)[k]? = some q) : ∃ c, h[k]? = some c ∧ q = (ad k, ez_e G.2.1 ad c) := by
  simp only [ez_ws, List.getElem?_mapIdx] at hk
  cases hc : h[k]? with
  | none => rw [hc] at hk; cases hk
  | some c => rw [hc] at hk; exact ⟨c, rfl, (Option.some.inj hk).symm⟩
theorem ez_ws_set (G : ez_G) (ad : Nat → Nat) (h : ez_H) (k : Nat) (q : ez_Cell) : ez_ws G ad (h.set k q) = (ez_ws G ad h).set k (ad k, ez_e G.2.1 ad q) := by
  apply List.ext_getElem?
  intro j
  simp only [ez_ws, List.getElem?_mapIdx, List.getElem?_set, List.length_mapIdx]
  by_cases hj : k = j
  · subst hj
    by_cases hl : k < h.length <;> simp [hl]
  · simp [hj]
theorem ez_ws_len (G : ez_G) (ad : Nat → Nat) (h : ez_H) : (ez_ws G ad h).length = h.length := by simp [ez_ws]
/-! the words that stay -/
def ez_gw (w : Cond) : Bool := goodWord w || (match w with
  | .fieldLinkNest .. => true
  | .methodLinkNest .. => true
  | .castable .. => true
  | .declares _ => true
  | _ => false)
def ez_T : List Cond := lw_tbl.filter ez_gw
theorem ez_gw_keep {w : Cond} (hw : ez_gw w = true) {args a' : Array Value} {s U : State} (hW : s.WarmedH U.vm) (h : w.before args s = true) : w.before a' U = true := by
  unfold ez_gw at hw
  rw [Bool.or_eq_true] at hw
  rcases hw with g | g
  · exact word_at hW (good_of_word g) h
  · cases w <;> first
      | exact absurd g Bool.false_ne_true
      | exact va_Nw.use rfl (va_Nw.warmF hW (va_Nw.of rfl h))
      | exact va_Nw.use rfl (va_Nw.warmM hW (va_Nw.of rfl h))
      | exact va_Nw.use rfl (va_Nw.warmC hW (va_Nw.of rfl h))
      | exact va_Nw.use rfl (va_Nw.warmD hW (va_Nw.of rfl h))
theorem ez_T_keep {args : Array Value} {s : State} (hts : ∀ w ∈ ez_T, w.before args s = true) : ∀ w ∈ ez_T, ∀ (a' : Array Value) (U : State), s.WarmedH U.vm → w.before a' U = true :=
  fun w hw _ _ hW => ez_gw_keep (List.mem_filter.mp hw).2 hW (hts w hw)
theorem ez_in (i : Nat) {w : Cond} (h : lw_tbl[i]? = some w) (hg : ez_gw w = true) : w ∈ ez_T := List.mem_filter.mpr ⟨List.mem_of_getElem? h, hg⟩
/-! a method's surroundings -/
def ez_tys (G : ez_G) : List (ClassId × FieldType) := [(G.2.1 .int, .int), (G.2.1 .boolean, .boolean), (G.2.1 .long, .long)]
def ez_ctx (G : ez_G) (X : ez_X) (p : Program) (s : State) (m : MethodId) (args : Array Value) (meth : Method) (c : Code) : Prop :=
  p.tables.exec = Jvm.exec ∧ c.code = X.2.1 ∧ c.maxLocals = X.2.2.1 ∧ s.vm.findClass X.1.cls = some m.cls ∧ (∀ w ∈ ez_T, w.before args s = true) ∧ meth.sig.returnType = X.2.2.2.1 ∧ meth.locks = false ∧
  c.exceptionTable.toList.map (fun h => (h.startPc, h.endPc, h.handlerPc, h.catchType)) = ez_hs X ∧ va_K G.1 ez_cl (ez_tys G) s ∧ meth.name = X.1.name
def ez_L (ad : Nat → Nat) (n : Nat) (ls : List (Option Value)) (L : Array Slot) : Prop :=
  L.size = n ∧ lv_wf L ∧ ∀ (i : Nat) (v : Value), ls[i]? = some (some v) → v.category = 1 ∧ L[i]? = some (.val (ez_v ad v))
def ez_In (G : ez_G) (X : ez_X) (uc us : Nat) (ls : List (Option Value)) (h : ez_H) (p : Program) (s : State) (m : MethodId) (args : Array Value) (meth : Method) (c : Code)
    (A : Nat → Prop) (n0 : Nat) (ad0 ad : Nat → Nat) (H : Heap) (locs : List Loc) (cells slots : Nat) (L : Array Slot) : Prop :=
  ez_ctx G X p s m args meth c ∧ (∀ q, s.heap.size ≤ q → A q) ∧ (ez_Ro G A s s.heap ∧ h.length ≤ 900 ∧ ∀ k, 900 ≤ k → ad k = G.2.2.1 k) ∧ n0 ≤ h.length ∧ (∀ k, ¬ (n0 ≤ k ∧ k < h.length) → ad k = ad0 k) ∧
  va_P G.1 ez_cl (ez_ws G ad h) H ∧ va_D A (ez_ws G ad h) ∧ va_S A s.heap H locs ∧ ez_L ad X.2.2.1 ls L ∧ cells ≤ uc ∧ slots ≤ us
def ez_exN (k : Nat) : String := if k = 0 then "java/lang/IllegalArgumentException" else "java/lang/IllegalStateException"
def ez_out (ad : Nat → Nat) (r : Option Value ⊕ Nat) (o : Outcome) (t : State) : Prop := match r with
  | .inl v => o = .returned (v.map (ez_v ad))
  | .inr k => ∃ (x : Addr) (cell : Cell), o = .threw x ∧ t.heap[x]? = some cell ∧ cell.vm = .none ∧ t.vm.findClass (ez_exN k) = some cell.cls
def ez_Fin (G : ez_G) (A : Nat → Prop) (n0 : Nat) (ad0 : Nat → Nat) (Q : ez_R → Prop) (o : Outcome) (t : State) : Prop :=
  ∃ (r : ez_R) (ad : Nat → Nat), Q r ∧ (n0 ≤ r.2.length ∧ r.2.length ≤ 900) ∧ (∀ k, ¬ (n0 ≤ k ∧ k < r.2.length) → ad k = ad0 k) ∧ va_P G.1 ez_cl (ez_ws G ad r.2) t.heap ∧ va_D A (ez_ws G ad r.2) ∧ ez_out ad r.1 o t
def ez_MQ (X : ez_X) (below : List Frame) (s : State) (A : Nat → Prop) (F : Outcome → State → Prop) : State → Prop := fun t =>
  ∃ o, t.status = .running ∧ Ended t below o ∧ F o t ∧ va_F A s t ∧ ∃ L, (s.WarmedH t.vm ∧ s.sameButNew ({ t with vm := s.vm } : State) L (ez_kc X o) (ez_ks X o)) ∧ ∀ q ∈ L, A q.base
/-- from this frame, over this world, the method comes to its end, and Q is true of how it ends -/
def ez_Ev (l : Launch) (G : ez_G) (X : ez_X) (uc us pc : Nat) (ls : List (Option Value)) (st : List Value) (h : ez_H) (Q : ez_R → Prop) : Prop :=
  ∀ (p : Program) (e : Env) (s : State) (m : MethodId) (args : Array Value) (below : List Frame) (meth : Method) (c : Code) (A : Nat → Prop) (n0 : Nat) (ad0 ad : Nat → Nat) (H : Heap) (locs : List Loc) (cells slots : Nat) (L : Array Slot),
    ez_In G X uc us ls h p s m args meth c A n0 ad0 ad H locs cells slots L →
    W p l e (ez_rm X) s m args below meth c H locs cells slots (ez_MQ X below s A (ez_Fin G A n0 ad0 Q)) (F0 m pc L (st.map (ez_v ad)))
/-! a contract -/
def ez_Met (l : Launch) (X : ez_X) (Pc : Array Value → State → Prop) (Qc : State → Outcome → State → Prop) (free : Addr → Prop) : Prop :=
  MetFree l X.1 (headSpec ez_T (ez_rm X)) Pc (fun _ _ _ _ _ => True) (fun _ st o t => Qc st o t ∧ ∃ L, (st.WarmedH t.vm ∧ st.sameButNew ({ t with vm := st.vm } : State) L (ez_kc X o) (ez_ks X o)) ∧ ∀ q ∈ L, free q.base)
def ez_Pre (G : ez_G) (ad : Nat → Nat) (sz : Nat) (as : List Value) (h : ez_H) (a : Array Value) (U : State) : Prop :=
  a = (as.map (ez_v ad)).toArray ∧ U.heap.size = sz ∧ va_P G.1 ez_cl (ez_ws G ad h) U.heap ∧ va_D (fun _ => True) (ez_ws G ad h) ∧ va_K G.1 ez_cl (ez_tys G) U ∧ ez_Ro G (va_A (ez_ws G ad h) sz) U U.heap ∧ h.length ≤ 900 ∧ ∀ k, 900 ≤ k → ad k = G.2.2.1 k
/-- the method's contract at these arguments over this world -/
def ez_Ct (l : Launch) (G : ez_G) (X : ez_X) (as : List Value) (h : ez_H) (Q : ez_R → Prop) : Prop :=
  ∀ (ad : Nat → Nat) (sz : Nat), ez_Met l X (ez_Pre G ad sz as h) (fun st o t => ez_Fin G (va_A (ez_ws G ad h) sz) h.length ad Q o t ∧ va_F (va_A (ez_ws G ad h) sz) st t) (va_A (ez_ws G ad h) sz)
/-! from a walk to a contract -/
def ez_code (X : ez_X) : Cond := match X.2.2.2.2.1 with
  | [] => .code X.1 X.2.1 X.2.2.1 X.2.2.2.1
  | q :: hs => .codeWith X.1 X.2.1 X.2.2.1 X.2.2.2.1 (q :: hs)
theorem ez_code_spec {X : ez_X} {args : Array Value} {s : State} {m : MethodId} (hn : s.methodNamed? X.1 = some m) (h : (ez_code X).before args s = true) :
    ∃ meth c, s.vm.method? m = some meth ∧ meth.code = some c ∧ c.code = X.2.1 ∧ c.maxLocals = X.2.2.1 ∧ meth.sig.returnType = X.2.2.2.1 ∧ meth.locks = false ∧
      c.exceptionTable.toList.map (fun h => (h.startPc, h.endPc, h.handlerPc, h.catchType)) = ez_hs X ∧ parseMethodDescriptor X.1.desc = some meth.sig := by
  obtain ⟨y, cc, n, ret, hs, rm⟩ := X
  cases hs with
  | nil =>
    obtain ⟨meth, c, h1, h2, h3, h4, h5, h6, h7, h8⟩ := Cond.code_spec (x := y) (bytes := cc) (maxLocals := n) (ret := ret) hn h
    refine ⟨meth, c, h1, h2, h3, h4, h5, h6, ?_, h8⟩
    rw [Array.isEmpty_iff] at h7
    rw [h7]
    rfl
  | cons q hs =>
    obtain ⟨m', meth, c, h0, h1, h2, h3, h4, h7, h5, h6, h8⟩ := Cond.codeWith_spec (x := y) (bytes := cc) (maxLocals := n) (ret := ret) (handlers := q :: hs) h
    cases hn.symm.trans h0
    exact ⟨meth, c, h1, h2, h3, h4, h5, h6, h7, h8⟩
def ez_ok (X : ez_X) (n : Nat) : Prop :=
  plainName X.1.cls = true ∧ ez_code X ∈ ez_T ∧ Cond.initialized X.1.cls ∈ ez_T ∧ (X.1.cls ≠ "java/lang/invoke/MethodHandle" ∧ X.1.cls ≠ "java/lang/invoke/VarHandle") ∧ (parseMethodDescriptor X.1.desc).map (fun d => d.parameters.length) = some n
def ez_ls (X : ez_X) (as : List Value) : List (Option Value) := as.map some ++ List.replicate (X.2.2.1 - as.length) none
theorem ez_args : ∀ (vs : List Value) (k i : Nat) (v : Value), (∀ w ∈ vs, w.category = 1) → vs[i]? = some v → (k + i, v) ∈ lv_args k vs := by
  intro vs
  induction vs with
  | nil => intro k i v _ h; simp at h
  | cons w vs ih =>
    intro k i v hc h
    have hw : ¬ w.category = 2 := by rw [hc w List.mem_cons_self]; decide
    simp only [lv_args, hw, if_false]
    cases i with
    | zero =>
      simp only [List.getElem?_cons_zero, Option.some.injEq] at h
      subst h
      exact List.mem_cons_self
    | succ i =>
      rw [List.getElem?_cons_succ] at h
      have := ih (k + 1) i v (fun x hx => hc x (List.mem_cons_of_mem _ hx)) h
      rw [show k + (i + 1) = k + 1 + i by omega]
      exact List.mem_cons_of_mem _ this
theorem ez_sl : ∀ (vs : List Value), (∀ w ∈ vs, w.category = 1) → (lg_sl vs).length = vs.length := by
  intro vs
  induction vs with
  | nil => intro _; rfl
  | cons w vs ih =>
    intro hc
    have hw : ¬ w.category = 2 := by rw [hc w List.mem_cons_self]; decide
    have e : lg_sl (w :: vs) = Slot.val w :: lg_sl vs := by simp [lg_sl, hw]
    rw [e, List.length_cons, ih (fun x hx => hc x (List.mem_cons_of_mem _ hx)), List.length_cons]
theorem ez_L_entry {X : ez_X} (ad : Nat → Nat) {as : List Value} (hc : ∀ w ∈ as, w.category = 1) (hl : as.length ≤ X.2.2.1) :
    ez_L ad X.2.2.1 (ez_ls X as) ((lg_sl (as.map (ez_v ad)) ++ List.replicate (X.2.2.1 - (lg_sl (as.map (ez_v ad))).length) Slot.unset).toArray) := by
  have hc' : ∀ w ∈ as.map (ez_v ad), w.category = 1 := by
    intro w hw
    obtain ⟨v, hv, rfl⟩ := List.mem_map.mp hw
    rw [ez_cat]
    exact hc v hv
  have hn := ez_sl _ hc'
  rw [List.length_map] at hn
  obtain ⟨h1, h2, h3⟩ := lv_entry (as.map (ez_v ad)) (n := X.2.2.1) (by rw [hn]; exact hl)
  refine ⟨h1, h2, fun i v hi => ?_⟩
  unfold ez_ls at hi
  by_cases hlt : i < as.length
  · rw [List.getElem?_append_left (by rw [List.length_map]; exact hlt), List.getElem?_map] at hi
    cases ha : as[i]? with
    | none => rw [ha] at hi; cases hi
    | some w =>
      rw [ha] at hi
      simp only [Option.map_some, Option.some.injEq] at hi
      subst hi
      refine ⟨hc w (List.mem_of_getElem? ha), ?_⟩
      have := h3 _ (ez_args (as.map (ez_v ad)) 0 i (ez_v ad w) hc' (by rw [List.getElem?_map, ha]; rfl))
      simpa using this
  · rw [List.getElem?_append_right (by rw [List.length_map]; omega), List.getElem?_replicate] at hi
    split at hi <;> cases hi
theorem ez_Ct_of {l : Launch} {G : ez_G} {X : ez_X} {n : Nat} {as : List Value} {h : ez_H} {Q : ez_R → Prop} (hok : ez_ok X n) (hcat : ∀ w ∈ as, w.category = 1) (hlen : as.length ≤ X.2.2.1)
    (body : ez_Ev l G X 0 0 0 (ez_ls X as) [] h Q) : ez_Ct l G X as h Q := by
  intro ad sz
  refine MetFree.of_bodyS (code := X.2.1) (maxLocals := X.2.2.1) (ret := X.2.2.2.1) hok.1 ?_ ?_
  · intro args s m hpre hn
    obtain ⟨meth, c, h1, h2, h3, h4, h5, h6, -, -⟩ := ez_code_spec hn (atoms_spec (ws := ez_T) hpre _ hok.2.1)
    exact ⟨meth, c, h1, h2, h3, h4, h5, h6⟩
  · intro p e s m args below meth c s₁ B hml hP _
    obtain ⟨rfl, hsz, hPw, hD, hK, hro, hap, had⟩ := hP
    have hts := atoms_spec (ws := ez_T) B.pre
    obtain ⟨meth', c', h1, h2, -, -, -, -, hh, -⟩ := ez_code_spec B.named (hts _ hok.2.1)
    cases B.method.symm.trans h1
    cases (Stand.of_body B).code.symm.trans h2
    have hh0 : s₁.heap = s.heap := by rw [B.state]; rfl
    have I : ez_In G X 0 0 (ez_ls X as) h p s m _ meth c (va_A (ez_ws G ad h) sz) h.length ad ad s.heap [] 0 0 _ :=
      ⟨⟨B.exec, B.bytes, hml, findClass_of_methodNamed B.named, hts, B.returns, B.notSynchronized, hh, hK, (name_of_methodNamed B.named B.method).1⟩, fun q hq => Or.inr (by rw [← hsz]; exact hq), ⟨hro, hap, had⟩, Nat.le_refl _, fun _ _ => rfl, hPw, hD.self, va_S.rf, ez_L_entry ad hcat hlen, Nat.le_refl _, Nat.le_refl _⟩
    obtain ⟨t, a1, o, b1, b2, b3, b4, b5⟩ := body p e s m _ below meth c _ _ _ _ _ _ _ _ _ I s₁ hh0 (Stand.of_body B)
    refine ⟨t, o, ?_, b1, b2, ⟨b3, b4⟩, b5⟩
    rw [lg_entry_eq]
    exact a1
/-! calls: whatever the outcome -/
theorem ez_any {l : Launch} {R : Room} {p : Program} {e : Env} {below : List Frame} {s : State} {sargs : Array Value} {X : ez_X} {Pc : Array Value → State → Prop} {Qc : State → Outcome → State → Prop} {free : Addr → Prop}
    (hM : ez_Met l X Pc Qc free) (hT : ∀ w ∈ ez_T, ∀ (a' : Array Value) (U : State), s.WarmedH U.vm → w.before a' U = true) (hcode : ez_code X ∈ ez_T) (hini : Cond.initialized X.1.cls ∈ ez_T) (hblind : FrameBlind Pc)
    (hfr : ez_fr X + 1 ≤ R.frames) (hlo : 8 + (X.2.2.1 + 11) + ez_lo X ≤ R.locals) {m : MethodId} {meth : Method} {c : Code} {U : State} {locs : List Loc} {cells slots : Nat} (S : Stand p l e R s m sargs below meth c U locs cells slots)
    {g : JFrame} {ig : Instr} {len : Nat} {mk : MethodId} {a : Array Value} (hg : g.method = m) (hsize : g.locals.size = c.maxLocals) (hdg : decode c.code g.pc = .ok (ig, len)) (hW : 2 * g.monitorRoom + (g.stack.map fun v => v.category).sum ≤ 8)
    (hn : U.methodNamed? X.1 = some mk) (hc : cells + ez_rc X ≤ R.cells) (hs : slots + ez_rs X ≤ R.slots) (hP : Pc a U) :
    ∃ (o : Outcome) (st t T' : State) (L : List Loc), st.heap = U.heap ∧ Stand p l e R s m sargs below meth c T' (locs ++ L) (cells + ez_kc X o) (slots + ez_ks X o) ∧ (∀ q ∈ L, free q.base) ∧ T'.heap = t.heap ∧ T'.vm = t.vm ∧ Qc st o t ∧
      (∀ v, o = .returned v → Steps p.tables e below (doInvoke e (U.setTop g) [] mk a).1 (T'.setTop { g with pc := g.pc + len, stack := v.toList ++ g.stack })) ∧
      (∀ x, o = .threw x → Steps p.tables e below (doInvoke e (U.setTop g) [] mk a).1 ((T'.setTop g).pushFrame (.throwing x))) := by
  obtain ⟨methY, cY, hmY, hcY, -, hlY, -, -, -, -⟩ := ez_code_spec hn (hT _ hcode a U S.warmed)
  obtain ⟨kY, hkY, -⟩ := className_of_methodNamed hn
  have hinitY : kY.init = .initialized := Cond.initialized_spec (findClass_of_methodNamed hn) hkY (hT _ hini a U S.warmed)
  have h : At U g.method c below := by rw [hg]; exact S.here
  have happ : (headSpec ez_T (ez_rm X)).appliesLoose X.1 e.platform (U.calling g mk a) = true :=
    Spec.appliesLoose_calling (g := g) h hdg hn hkY hinitY
      (S.room_calling (g := g) (R' := ez_rm X) hsize hmY hcY hfr (by rw [hlY]; show _ + ez_lo X ≤ _; omega) hc hs) (atoms_intro fun w hw => hT w hw a U S.warmed)
  obtain ⟨mid, hmid⟩ := h.above
  have hfr2 : (U.setTop g).frames = (.java g :: mid) ++ below := by rw [State.frames_setTop' g h.top, hmid]; rfl
  obtain ⟨o, s₂, hsteps, -, hend, hq⟩ := Steps.callFree hM p S.admits S.cas S.clock (acts := []) hfr2 happ (hblind _ _ _ _ hP) trivial
  obtain ⟨hqc, L, ⟨hW₂, e2, q2, q3, q4, q5, q6⟩, hL⟩ := hq
  rw [State.frames_setTop' g h.top] at hend
  have e3 : s₂ = ({ (U.calling g mk a).setFrames s₂.frames with heap := s₂.heap, slotsUsed := s₂.slotsUsed } : State).setVm s₂.vm := by
    have h9 : s₂ = ({ s₂ with vm := (U.calling g mk a).vm } : State).setVm s₂.vm := rfl
    have e2' : ({ s₂ with vm := (U.calling g mk a).vm } : State) = { (U.calling g mk a).setFrames s₂.frames with heap := s₂.heap, slotsUsed := s₂.slotsUsed } := e2
    rw [e2'] at h9
    exact h9
  have hW' : U.WarmedH s₂.vm := hW₂
  obtain ⟨g₀, hg0⟩ := Option.isSome_iff_exists.mp h.top
  obtain ⟨r, hr⟩ := State.topJava?_eq_some.mp hg0
  have hr' : (({ U with heap := s₂.heap, slotsUsed := s₂.slotsUsed } : State).setVm s₂.vm).frames = .java g₀ :: r := hr
  have hsame : U.sameButNew ({ U with heap := s₂.heap, slotsUsed := s₂.slotsUsed } : State) L (ez_kc X o) (ez_ks X o) := by
    refine ⟨?_, q2, q3, q4, q5, q6⟩
    obtain ⟨t, ht, -⟩ := State.frames_cons hr
    show ({ U with heap := s₂.heap, slotsUsed := s₂.slotsUsed } : State) = { U.setFrames U.frames with heap := s₂.heap, slotsUsed := s₂.slotsUsed }
    rw [State.setFrames_self ht]
  refine ⟨o, U.calling g mk a, s₂, ({ U with heap := s₂.heap, slotsUsed := s₂.slotsUsed } : State).setVm s₂.vm, L, rfl,
    ⟨S.admits, S.cas, S.clock, S.frames, S.room, S.hears, S.method, S.code, (S.here.setHeapUsed s₂.heap s₂.slotsUsed).setVm hW'.alike, S.tail, State.WarmedH.trans S.warmed hW', S.limits, S.bytes, S.same.trans (hsame.setVm s.vm)⟩, hL, rfl, rfl, hqc, ?_, ?_⟩
  · rintro v rfl
    obtain ⟨c₂, i₂, len₂, hc₂, hd₂, hf₂⟩ := hend
    have hcc : c₂ = c := by
      have h1 : s₂.code? g.method = U.code? g.method := by rw [State.code?_eq, State.code?_eq, hW'.alike.method?]
      exact Option.some.inj (hc₂.symm.trans (h1.trans h.code))
    subst hcc
    have hlen : len₂ = len := by rw [hdg] at hd₂; cases hd₂; rfl
    subst hlen
    have hs₂ : s₂ = (({ U with heap := s₂.heap, slotsUsed := s₂.slotsUsed } : State).setVm s₂.vm).setTop { g with pc := g.pc + len₂, stack := v.toList ++ g.stack } := by
      refine e3.trans ?_
      rw [hf₂, State.calling_eq h.top, State.setFrames_setFrames, State.setTop_of_frames _ hr', hr]
      rfl
    rw [← hs₂]
    exact hsteps
  · rintro x rfl
    have hf₂ : s₂.frames = .throwing x :: .java g :: U.frames.tail := hend
    have hs₂ : s₂ = ((({ U with heap := s₂.heap, slotsUsed := s₂.slotsUsed } : State).setVm s₂.vm).setTop g).pushFrame (.throwing x) := by
      refine e3.trans ?_
      rw [hf₂, State.calling_eq h.top, State.setFrames_setFrames, State.pushFrame, State.frames_setTop _ hr', State.setTop_of_frames _ hr', State.setFrames_setFrames, hr]
      rfl
    rw [← hs₂]
    exact hsteps
/-! the three kinds of call, to the callee's entry -/
section EzGo
variable {p : Program} {l : Launch} {e : Env} {R : Room} {s : State} {m : MethodId} {args : Array Value} {below : List Frame} {meth : Method} {c : Code} {T : State} {locs : List Loc} {cells slots : Nat}
def ez_link (own : String) (index : Nat) (y : MethodName) : Prop := Cond.methodLink own index y ∈ ez_T ∨ ∃ host, Cond.methodLinkNest own index y host ∈ ez_T
def ez_To (p : Program) (l : Launch) (e : Env) (R : Room) (s : State) (m : MethodId) (args : Array Value) (below : List Frame) (meth : Method) (c : Code) (T : State) (locs : List Loc) (cells slots : Nat) (y : MethodName) (g : JFrame) (rest : List Value) (a : Array Value) : Prop :=
  ∃ (vm₁ : Vm) (mk : MethodId), s.methodNamed? y = some mk ∧ Stand p l e R s m args below meth c (T.setVm vm₁) locs cells slots ∧ ∀ target, Steps p.tables e below (doInvoke e ((T.setVm vm₁).setTop { g with stack := rest }) [] mk a).1 target → Steps p.tables e below (T.setTop g) target
theorem ez_goS (X : Stand p l e R s m args below meth c T locs cells slots) (hexec : p.tables.exec = Jvm.exec) (hts : ∀ w ∈ ez_T, w.before args s = true) {own : String} {index n : Nat} {Y : ez_X} (hok : ez_ok Y n)
    (hown : s.vm.findClass own = some m.cls) (hl : ez_link own index Y.1) (hstat : Cond.static Y.1 ∈ ez_T)
    {g : JFrame} (hg : g.method = m) {argsL rest : List Value} (hn : argsL.length = n) (hstack : g.stack = argsL.reverse ++ rest) (hdg : decode c.code g.pc = .ok (.invokestatic index, 3)) :
    ez_To p l e R s m args below meth c T locs cells slots Y.1 g rest argsL.toArray := by
  obtain ⟨-, hcw, hiw, hy, hpar⟩ := hok
  have hcode := hts _ hcw
  obtain ⟨mk, hnamed⟩ : ∃ mk, s.methodNamed? Y.1 = some mk := by
    obtain ⟨y, cc, n, ret, hs, rm⟩ := Y
    cases hs with
    | nil => exact Cond.code_named hcode
    | cons q hs =>
      obtain ⟨m', meth, c, h0, -⟩ := Cond.codeWith_spec (x := y) (bytes := cc) (maxLocals := n) (ret := ret) (handlers := q :: hs) hcode
      exact ⟨m', h0⟩
  obtain ⟨methM, cM, hmethM, -, -, -, -, -, -, hsigM⟩ := ez_code_spec hnamed hcode
  have hstatic : methM.isStatic = true := Cond.static_spec hnamed hmethM (hts _ hstat)
  obtain ⟨kP, hkP, -⟩ := className_of_methodNamed hnamed
  have hinitP : kP.init = .initialized := Cond.initialized_spec (findClass_of_methodNamed hnamed) hkP (hts _ hiw)
  have hlen : argsL.length = methM.sig.parameters.length := by
    rw [hsigM] at hpar
    exact hn.trans (Option.some.inj hpar).symm
  rcases hl with hl | ⟨host, hl⟩
  · obtain ⟨vm₁, X₁, hstep₁⟩ := X.invokestatic hexec hown (hts _ hl) hnamed hmethM hstatic hkP hinitP hy (g := g) hg (argsL := argsL) (rest := rest) hlen hstack hdg
    exact ⟨vm₁, mk, hnamed, X₁, fun target h => hstep₁ _ fun acts => by rw [doInvoke_state]; exact h⟩
  · obtain ⟨vm₁, X₁, hstep₁⟩ := X.invokestaticNest hexec hown (hts _ hl) hnamed hmethM hstatic hkP hinitP hy (g := g) hg (argsL := argsL) (rest := rest) hlen hstack hdg
    exact ⟨vm₁, mk, hnamed, X₁, fun target h => hstep₁ _ fun acts => by rw [doInvoke_state]; exact h⟩
theorem ez_goV (X : Stand p l e R s m args below meth c T locs cells slots) (hexec : p.tables.exec = Jvm.exec) (hts : ∀ w ∈ ez_T, w.before args s = true) {own : String} {index n : Nat} {Y : ez_X} (hok : ez_ok Y n)
    (hown : s.vm.findClass own = some m.cls) (hl : ez_link own index Y.1) (hinst : Cond.instanceMethod Y.1 ∈ ez_T) (hsel : Cond.selects Y.1.cls Y.1 Y.1 ∈ ez_T)
    {b : Addr} {cellB : Cell} (hcell : T.heap[b]? = some cellB) (hobj : cellB.vm.isStatics = false) (hcls : s.vm.findClass Y.1.cls = some cellB.cls)
    {g : JFrame} (hg : g.method = m) {argsL rest : List Value} (hn : argsL.length = n) (hstack : g.stack = argsL.reverse ++ .ref b :: rest) (hdg : decode c.code g.pc = .ok (.invokevirtual index, 3)) :
    ez_To p l e R s m args below meth c T locs cells slots Y.1 g rest (Value.ref b :: argsL).toArray := by
  obtain ⟨-, hcw, -, hy, hpar⟩ := hok
  obtain ⟨mk, methM, hnamed, hmethM, hstM, habM⟩ := Cond.instanceMethod_spec (hts _ hinst)
  obtain ⟨methM', cM, hmethM', -, -, -, -, -, -, hsigM⟩ := ez_code_spec hnamed (hts _ hcw)
  cases hmethM.symm.trans hmethM'
  obtain ⟨c2, r2, m2, q1, q2, q3, q4, kP, hkP, hkPi⟩ := Cond.selects_spec (hts _ hsel)
  cases hcls.symm.trans q1
  cases (State.methodFound?_of_named hnamed hy).symm.trans q2
  cases hnamed.symm.trans q3
  have hselP : selectMethod e.platform s.vm cellB.cls mk = .method mk := by rw [Launch.admits_selectMethod X.admits]; exact q4
  have hlen : argsL.length = methM.sig.parameters.length := by
    rw [hsigM] at hpar
    exact hn.trans (Option.some.inj hpar).symm
  rcases hl with hl | ⟨host, hl⟩
  · obtain ⟨vm₁, X₁, hstep₁⟩ := X.invokevirtual hexec hown (hts _ hl) hnamed hmethM hstM hkP hkPi hy (a := b) (cell := cellB) hcell
      (fun z h => by rw [h] at hobj; cases hobj) hselP hmethM habM hkP hkPi (g := g) hg (argsL := argsL) (rest := rest) hlen hstack hdg
    exact ⟨vm₁, mk, hnamed, X₁, fun target h => hstep₁ _ fun acts => by rw [doInvoke_state]; exact h⟩
  · obtain ⟨vm₁, X₁, hstep₁⟩ := X.invokevirtualNest hexec hown (hts _ hl) hnamed hmethM hstM hkP hkPi hy (a := b) (cell := cellB) hcell
      (fun z h => by rw [h] at hobj; cases hobj) hselP hmethM habM hkP hkPi (g := g) hg (argsL := argsL) (rest := rest) hlen hstack hdg
    exact ⟨vm₁, mk, hnamed, X₁, fun target h => hstep₁ _ fun acts => by rw [doInvoke_state]; exact h⟩
theorem ez_goI (X : Stand p l e R s m args below meth c T locs cells slots) (hexec : p.tables.exec = Jvm.exec) (hts : ∀ w ∈ ez_T, w.before args s = true) {own : String} {index n : Nat} {Y : ez_X} (hok : ez_ok Y n) (hy1 : Y.1.name = "<init>") (hr : Y.2.2.2.1 = none) (hh : ez_hs Y = [])
    (hown : s.vm.findClass own = some m.cls) (hl : ez_link own index Y.1) (hinst : Cond.instanceMethod Y.1 ∈ ez_T)
    {a : Addr} {g : JFrame} (hg : g.method = m) {argsL rest : List Value} (hn : argsL.length = n) (hstack : g.stack = argsL.reverse ++ .ref a :: rest) (hdg : decode c.code g.pc = .ok (.invokespecial index, 3)) :
    ez_To p l e R s m args below meth c T locs cells slots Y.1 g rest (Value.ref a :: argsL).toArray := by
  obtain ⟨y, cc, nl, ret, hs, rm⟩ := Y
  cases hr
  cases hh
  obtain ⟨-, hcw, -, hy, hpar⟩ := hok
  have hcode : (Cond.code y cc nl none).before args s = true := hts _ hcw
  have hpl : e.platform.magicAccessors = ({} : Platform).magicAccessors := by rw [X.admits.platform]
  have hlen : ∀ sig, parseMethodDescriptor y.desc = some sig → argsL.length = sig.parameters.length := fun sig h => by
    rw [h] at hpar
    exact hn.trans (Option.some.inj hpar).symm
  subst hg
  rcases hl with hl | ⟨host, hl⟩
  · obtain ⟨mk, methM, cM, kP, vm₁, hnamed, hmethM, hcodeM, -, hlocalsM, -, hkP, -, hW₁, hstep₁⟩ := Steps.initColdArgs (e := e) X.here hexec X.warmed hpl hown hy1 hy (hts _ hl) (hts _ hinst) hcode (f := g) rfl hlen hstack hdg
    exact ⟨vm₁, mk, hnamed, X.noted hW₁, fun target h => hstep₁ _ fun acts => by rw [doInvoke_state]; exact h⟩
  · obtain ⟨mk, methM, cM, kP, vm₁, hnamed, hmethM, hcodeM, -, hlocalsM, -, hkP, -, hW₁, hstep₁⟩ := Steps.initColdArgsNest (e := e) X.here hexec X.warmed hpl hown hy1 hy (hts _ hl) (hts _ hinst) hcode (f := g) rfl hlen hstack hdg
    exact ⟨vm₁, mk, hnamed, X.noted hW₁, fun target h => hstep₁ _ fun acts => by rw [doInvoke_state]; exact h⟩
end EzGo
/-! a call, in the layer -/
def ez_still (n n' : Nat) (ls : List (Option Value)) (rest : List Value) : Prop := ∀ ad ad' : Nat → Nat, (∀ k, ¬ (n ≤ k ∧ k < n') → ad' k = ad k) → rest.map (ez_v ad') = rest.map (ez_v ad) ∧ ∀ (i : Nat) (v : Value), ls[i]? = some (some v) → ez_v ad' v = ez_v ad v
theorem ez_still_eq (n : Nat) (ls : List (Option Value)) (rest : List Value) : ez_still n n ls rest := by
  intro ad ad' h
  have e : ad' = ad := funext fun k => h k (by omega)
  subst e
  exact ⟨rfl, fun _ _ _ => rfl⟩
def ez_old (n n' : Nat) (v : Value) : Bool := match v with
  | .ref k => !(decide (n ≤ k) && decide (k < n'))
  | _ => true
theorem ez_old_eq {n n' : Nat} {v : Value} (hv : ez_old n n' v = true) {ad ad' : Nat → Nat} (h : ∀ k, ¬ (n ≤ k ∧ k < n') → ad' k = ad k) : ez_v ad' v = ez_v ad v := by
  cases v <;> try rfl
  rename_i k
  have hk : ¬ (n ≤ k ∧ k < n') := fun ⟨a, b⟩ => by simp [ez_old, a, b] at hv
  simp only [ez_v]
  rw [h k hk]
theorem ez_still_of {n n' : Nat} {ls : List (Option Value)} {rest : List Value} (h1 : rest.all (ez_old n n') = true) (h2 : ls.all (fun o => match o with | some v => ez_old n n' v | none => true) = true) : ez_still n n' ls rest := by
  intro ad ad' h
  refine ⟨List.map_congr_left fun v hv => ez_old_eq (List.all_eq_true.mp h1 v hv) h, fun i v hi => ?_⟩
  exact ez_old_eq (List.all_eq_true.mp h2 _ (List.mem_of_getElem? hi)) h
/-- an exception of a kind has just come to this frame -/
def ez_Th (l : Launch) (G : ez_G) (X : ez_X) (uc us pc : Nat) (ls : List (Option Value)) (h : ez_H) (kx : Nat) (Q : ez_R → Prop) : Prop :=
  ∀ (p : Program) (e : Env) (s : State) (m : MethodId) (args : Array Value) (below : List Frame) (meth : Method) (c : Code) (A : Nat → Prop) (n0 : Nat) (ad0 ad : Nat → Nat) (H : Heap) (locs : List Loc) (cells slots : Nat) (L : Array Slot) (st : List Value) (x : Addr) (cell : Cell) (T : State),
    ez_In G X uc us ls h p s m args meth c A n0 ad0 ad H locs cells slots L → H[x]? = some cell → cell.vm = .none → s.vm.findClass (ez_exN kx) = some cell.cls → T.heap = H → Stand p l e (ez_rm X) s m args below meth c T locs cells slots →
    ∃ t, Steps p.tables e below ((T.setTop (F0 m pc L st)).pushFrame (.throwing x)) t ∧ ez_MQ X below s A (ez_Fin G A n0 ad0 Q) t
theorem ez_blind (G : ez_G) (ad : Nat → Nat) (sz : Nat) (as : List Value) (h : ez_H) : FrameBlind (ez_Pre G ad sz as h) := fun _ _ _ _ hp => hp
/-- a callee's room is there -/
def ez_fits (X Y : ez_X) (uc us : Nat) : Prop := (ez_fr Y + 1 ≤ ez_fr X ∧ 8 + (Y.2.2.1 + 11) + ez_lo Y ≤ ez_lo X) ∧ uc + ez_rc Y ≤ ez_rc X ∧ us + ez_rs Y ≤ ez_rs X
section EzCall
variable {l : Launch} {G : ez_G} {X Y : ez_X} {uc us pc pc' n : Nat} {ls : List (Option Value)} {st rest as : List Value} {h : ez_H} {Q Qc : ez_R → Prop}
theorem ez_call (hok : ez_ok Y n) (hC : ez_Ct l G Y as h Qc) (hroom : ez_fits X Y uc us) (hrest : (rest.map fun v => v.category).sum ≤ 8)
    (hto : ∀ (p : Program) (e : Env) (s : State) (m : MethodId) (args : Array Value) (below : List Frame) (meth : Method) (c : Code) (A : Nat → Prop) (n0 : Nat) (ad0 ad : Nat → Nat) (H : Heap) (locs : List Loc) (cells slots : Nat) (L : Array Slot) (T : State),
      ez_In G X uc us ls h p s m args meth c A n0 ad0 ad H locs cells slots L → T.heap = H → Stand p l e (ez_rm X) s m args below meth c T locs cells slots →
      ez_To p l e (ez_rm X) s m args below meth c T locs cells slots Y.1 (F0 m pc L (st.map (ez_v ad))) (rest.map (ez_v ad)) (as.map (ez_v ad)).toArray)
    (hdg : ∃ ig, decode X.2.1 pc = .ok (ig, 3)) (hp : pc + 3 = pc')
    (kr : ∀ v h', Qc (.inl v, h') → ez_still h.length h'.length ls rest ∧ ez_Ev l G X (uc + ez_mc Y) (us + ez_ms Y) pc' ls (v.toList ++ rest) h' Q)
    (kt : ∀ k h', Qc (.inr k, h') → h'.length = h.length ∧ ez_Th l G X (uc + ez_mc Y + 1) (us + ez_ms Y + 6) pc ls h' k Q) : ez_Ev l G X uc us pc ls st h Q := by
  intro p e s m args below meth c A n0 ad0 ad H locs cells slots L I T hT S
  obtain ⟨vm₁, mk, hnamed, S₁, hgo⟩ := hto p e s m args below meth c A n0 ad0 ad H locs cells slots L T I hT S
  obtain ⟨hctx, hA, ⟨hRo, hh9, had⟩, hn0, hag, hPw, hD, hS, hL, hc1, hs1⟩ := I
  obtain ⟨hx, hb, hml, hown, hts, hret, hlk, hhand, hK, -⟩ := id hctx
  obtain ⟨ig, hdg⟩ := hdg
  have hAH : ∀ q, va_A (ez_ws G ad h) H.size q → A q := by
    intro q hq
    rcases hq with ⟨k, e2, hk⟩ | hq
    · exact hD.2 k _ hk
    · exact hA q (Nat.le_trans hS.1 hq)
  have hweigh : 2 * (F0 m pc L (rest.map (ez_v ad))).monitorRoom + ((F0 m pc L (rest.map (ez_v ad))).stack.map fun v => v.category).sum ≤ 8 := by
    have e1 : ((rest.map (ez_v ad)).map fun v => v.category) = rest.map fun v => v.category := by
      rw [List.map_map]
      exact List.map_congr_left fun v _ => ez_cat ad v
    show 2 * 0 + ((rest.map (ez_v ad)).map fun v => v.category).sum ≤ 8
    rw [e1]
    omega
  have hpre : ez_Pre G ad H.size as h (as.map (ez_v ad)).toArray (T.setVm vm₁) := by
    refine ⟨rfl, by show T.heap.size = _; rw [hT], by show va_P _ _ _ T.heap; rw [hT]; exact hPw, ⟨hD.1, fun _ _ _ => trivial⟩, hK.moved S₁.warmed.alike, ?_, hh9, had⟩
    show ez_Ro G _ _ T.heap
    rw [hT]
    exact ((hRo.kept (fun q h1 h2 => hS.2.1 q h1 h2)).narrow hAH).moved S₁.warmed
  obtain ⟨o, st0, t, T', Lc, h0, S', hLc, e1, e2, ⟨hfin, hF⟩, hr, hth⟩ := ez_any (hC ad H.size) (ez_T_keep hts) hok.2.1 hok.2.2.1 (ez_blind G ad H.size as h) (R := ez_rm X) hroom.1.1 hroom.1.2 S₁
    (g := F0 m pc L (rest.map (ez_v ad))) (ig := ig) (len := 3) (mk := mk) (a := (as.map (ez_v ad)).toArray) rfl (by rw [hml]; exact hL.1) (by rw [hb]; exact hdg) hweigh (S₁.named hnamed) (by show cells + ez_rc Y ≤ ez_rc X; have := hroom.2.1; omega) (by show slots + ez_rs Y ≤ ez_rs X; have := hroom.2.2; omega) hpre
  have h0' : st0.heap = H := h0.trans hT
  obtain ⟨⟨r, h'⟩, ad', hq, ⟨hl', hl9⟩, hag', hP', hD', ho⟩ := hfin
  have hF1 : H.size ≤ T'.heap.size := by rw [e1, ← h0']; exact hF.1
  have hF2 : ∀ q : Nat, q < H.size → ¬ va_A (ez_ws G ad h) H.size q → T'.heap[q]? = H[q]? := fun q h1 h2 => by rw [e1, ← h0']; exact hF.2 q (by rw [h0']; exact h1) h2
  have hS' : va_S A s.heap T'.heap (locs ++ Lc) := by
    refine ⟨Nat.le_trans hS.1 hF1, fun q h1 h2 => ?_, fun q hq => ?_⟩
    · rw [hF2 q (Nat.lt_of_lt_of_le h1 hS.1) (fun z => h2 (hAH q z))]
      exact hS.2.1 q h1 h2
    · rcases List.mem_append.mp hq with h1 | h1
      · exact hS.2.2 q h1
      · exact hAH _ (hLc q h1)
  have hDA : va_D A (ez_ws G ad' h') := ⟨hD'.1, fun k q hk => hAH _ (hD'.2 k q hk)⟩
  have hPT : va_P G.1 ez_cl (ez_ws G ad' h') T'.heap := by rw [e1]; exact hP'
  have hag2 : ∀ k, ¬ (n0 ≤ k ∧ k < h'.length) → ad' k = ad0 k := fun k hk => (hag' k (by dsimp only; omega)).trans (hag k (by dsimp only at hl'; omega))
  have had2 : ∀ k, 900 ≤ k → ad' k = G.2.2.1 k := fun k hk => (hag' k (by dsimp only at hl9 ⊢; omega)).trans (had k hk)
  cases r with
  | inl v =>
    obtain ⟨hst, hev⟩ := kr v h' hq
    obtain ⟨hr1, hr2⟩ := hst ad ad' hag'
    subst ho
    have I' : ez_In G X (uc + ez_mc Y) (us + ez_ms Y) ls h' p s m args meth c A n0 ad0 ad' T'.heap (locs ++ Lc) (cells + ez_mc Y) (slots + ez_ms Y) L :=
      ⟨hctx, hA, ⟨hRo, hl9, had2⟩, Nat.le_trans hn0 hl', hag2, hPT, hDA, hS', ⟨hL.1, hL.2.1, fun i w hi => by rw [hr2 i w hi]; exact hL.2.2 i w hi⟩, by omega, by omega⟩
    obtain ⟨t2, a1, b1⟩ := hev p e s m args below meth c A n0 ad0 ad' T'.heap (locs ++ Lc) (cells + ez_mc Y) (slots + ez_ms Y) L I' T' rfl S'
    refine ⟨t2, hgo t2 ((hr _ rfl).trans ?_), b1⟩
    have e3 : (v.map (ez_v ad')).toList ++ rest.map (ez_v ad) = (v.toList ++ rest).map (ez_v ad') := by
      rw [← hr1]
      cases v <;> simp
    subst hp
    show Steps p.tables e below (T'.setTop (F0 m (pc + 3) L ((v.map (ez_v ad')).toList ++ rest.map (ez_v ad)))) t2
    rw [e3]
    exact a1
  | inr k =>
    obtain ⟨hle, hev⟩ := kt k h' hq
    obtain ⟨x, cell, ho1, ho2, ho3, ho4⟩ := ho
    have hlh : h.length = h'.length := hle.symm
    have e : ad' = ad := funext fun k => hag' k (by dsimp only; omega)
    subst e
    subst ho1
    have I' : ez_In G X (uc + ez_mc Y + 1) (us + ez_ms Y + 6) ls h' p s m args meth c A n0 ad0 ad' T'.heap (locs ++ Lc) (cells + (ez_mc Y + 1)) (slots + (ez_ms Y + 6)) L :=
      ⟨hctx, hA, ⟨hRo, hl9, had2⟩, Nat.le_trans hn0 hl', hag2, hPT, hDA, hS', hL, by omega, by omega⟩
    obtain ⟨t2, a1, b1⟩ := hev p e s m args below meth c A n0 ad0 ad' T'.heap (locs ++ Lc) (cells + (ez_mc Y + 1)) (slots + (ez_ms Y + 6)) L (rest.map (ez_v ad')) x cell T' I' (by rw [e1]; exact ho2) ho3 (by rw [← ho4, ← e2]; exact (S'.warmed.alike.findClass _ _).symm) rfl S'
    exact ⟨t2, hgo t2 ((hth x rfl).trans a1), b1⟩
/-- an exception leaves a method that has no handlers -/
theorem ez_Th_out (hX : ez_hs X = []) (hu : uc ≤ ez_mc X + 1 ∧ us ≤ ez_ms X + 6) (hq : Q (.inr n, h)) : ez_Th l G X uc us pc ls h n Q := by
  intro p e s m args below meth c A n0 ad0 ad H locs cells slots L st x cell T I hx1 hx2 hx3 hT S
  obtain ⟨⟨hx, hb, hml, hown, hts, hret, hlk, hhand, hK, -⟩, hA, ⟨hRo, hh9, had⟩, hn0, hag, hPw, hD, hS, hL, hc1, hs1⟩ := I
  have hout : ∀ y ∈ c.exceptionTable.toList, covers y (F0 m pc L st).pc = false := by
    rw [hX] at hhand
    rw [List.map_eq_nil_iff.mp hhand]
    intro y hy
    cases hy
  have S2 := stand_widen S (show cells ≤ ez_mc X + 1 by omega) (show slots ≤ ez_ms X + 6 by omega)
  obtain ⟨w1, w2, w3, w4, w5⟩ := S2.leaveThrown x (g := F0 m pc L st) rfl rfl rfl hout hlk
  refine ⟨_, w1, .threw x, w2, w3, ⟨(.inr n, h), ad, hq, ⟨hn0, hh9⟩, hag, by show va_P _ _ _ T.heap; rw [hT]; exact hPw, hD, x, cell, rfl, by show T.heap[x]? = _; rw [hT]; exact hx1, hx2, ?_⟩, hS.F hT, locs, ⟨w4, w5⟩, hS.2.2⟩
  show T.vm.findClass _ = _
  rw [S.warmed.alike.findClass]
  exact hx3
end EzCall
end
section
/-! ===== the layer's rows ===== -/
section EzRows
variable {l : Launch} {G : ez_G} {X : ez_X} {uc us pc pc' tgt : Nat} {ls : List (Option Value)} {st : List Value} {h : ez_H} {Q : ez_R → Prop}
/-- an instruction of so many bytes stands here, the next one there -/
def ez_at (X : ez_X) (pc : Nat) (i : Instr) (n pc' : Nat) : Prop := decode X.2.1 pc = .ok (i, n) ∧ pc + n = pc'
/-- a branch: its instruction, the next one, its offset, its target -/
def ez_br (X : ez_X) (pc : Nat) (i : Instr) (n pc' : Nat) (off : Int) (tgt : Nat) : Prop := decode X.2.1 pc = .ok (i, n) ∧ pc + n = pc' ∧ (pc : Int) + off = (tgt : Int)
theorem ez_pure {st' : List Value}
    (hW : ∀ (p : Program) (e : Env) (s : State) (m : MethodId) (args : Array Value) (below : List Frame) (meth : Method) (c : Code) (ad : Nat → Nat) (H : Heap) (locs : List Loc) (cells slots : Nat) (Qz : State → Prop) (L : Array Slot), p.tables.exec = Jvm.exec → c.code = X.2.1 →
      W p l e (ez_rm X) s m args below meth c H locs cells slots Qz (F0 m pc' L (st'.map (ez_v ad))) → W p l e (ez_rm X) s m args below meth c H locs cells slots Qz (F0 m pc L (st.map (ez_v ad))))
    (k : ez_Ev l G X uc us pc' ls st' h Q) : ez_Ev l G X uc us pc ls st h Q :=
  fun p e s m args below meth c A n0 ad0 ad H locs cells slots L I => hW p e s m args below meth c ad H locs cells slots _ L I.1.1 I.1.2.1 (k p e s m args below meth c A n0 ad0 ad H locs cells slots L I)
theorem ev_iconst {n : Int} {v : Int32} (hd : ez_at X pc (.iconst n) 1 pc') (hv : Int32.ofInt n = v) (k : ez_Ev l G X uc us pc' ls (.int v :: st) h Q) : ez_Ev l G X uc us pc ls st h Q := by
  obtain ⟨hd, rfl⟩ := hd
  exact ez_pure (st' := .int v :: st) (fun p e s m args below meth c ad H locs cells slots Qz L hx hb kk => lv_iconst hx hb hd hv kk) k
theorem ev_bipush {n : Int} {v : Int32} (hd : ez_at X pc (.bipush n) 2 pc') (hv : (Int8.ofInt n).toInt32 = v) (k : ez_Ev l G X uc us pc' ls (.int v :: st) h Q) : ez_Ev l G X uc us pc ls st h Q := by
  obtain ⟨hd, rfl⟩ := hd
  exact ez_pure (st' := .int v :: st) (fun p e s m args below meth c ad H locs cells slots Qz L hx hb kk => lv_bipush hx hb hd hv kk) k
theorem ev_sipush {n : Int} {v : Int32} (hd : ez_at X pc (.sipush n) 3 pc') (hv : (Int16.ofInt n).toInt32 = v) (k : ez_Ev l G X uc us pc' ls (.int v :: st) h Q) : ez_Ev l G X uc us pc ls st h Q := by
  obtain ⟨hd, rfl⟩ := hd
  exact ez_pure (st' := .int v :: st) (fun p e s m args below meth c ad H locs cells slots Qz L hx hb kk => lv_sipush hx hb hd hv kk) k
theorem ev_iadd {x y : Int32} (hd : ez_at X pc .iadd 1 pc') (k : ez_Ev l G X uc us pc' ls (.int (x + y) :: st) h Q) : ez_Ev l G X uc us pc ls (.int y :: .int x :: st) h Q := by
  obtain ⟨hd, rfl⟩ := hd
  exact ez_pure (st' := .int (x + y) :: st) (fun p e s m args below meth c ad H locs cells slots Qz L hx hb kk => lv_iadd hx hb hd kk) k
theorem ev_isub {x y : Int32} (hd : ez_at X pc .isub 1 pc') (k : ez_Ev l G X uc us pc' ls (.int (x - y) :: st) h Q) : ez_Ev l G X uc us pc ls (.int y :: .int x :: st) h Q := by
  obtain ⟨hd, rfl⟩ := hd
  exact ez_pure (st' := .int (x - y) :: st) (fun p e s m args below meth c ad H locs cells slots Qz L hx hb kk => lv_isub hx hb hd kk) k
theorem ev_imul {x y : Int32} (hd : ez_at X pc .imul 1 pc') (k : ez_Ev l G X uc us pc' ls (.int (x * y) :: st) h Q) : ez_Ev l G X uc us pc ls (.int y :: .int x :: st) h Q := by
  obtain ⟨hd, rfl⟩ := hd
  exact ez_pure (st' := .int (x * y) :: st) (fun p e s m args below meth c ad H locs cells slots Qz L hx hb kk => lv_imul hx hb hd kk) k
theorem ev_iand {x y : Int32} (hd : ez_at X pc .iand 1 pc') (k : ez_Ev l G X uc us pc' ls (.int (x &&& y) :: st) h Q) : ez_Ev l G X uc us pc ls (.int y :: .int x :: st) h Q := by
  obtain ⟨hd, rfl⟩ := hd
  exact ez_pure (st' := .int (x &&& y) :: st) (fun p e s m args below meth c ad H locs cells slots Qz L hx hb kk => lv_iand hx hb hd kk) k
theorem ev_ior {x y : Int32} (hd : ez_at X pc .ior 1 pc') (k : ez_Ev l G X uc us pc' ls (.int (x ||| y) :: st) h Q) : ez_Ev l G X uc us pc ls (.int y :: .int x :: st) h Q := by
  obtain ⟨hd, rfl⟩ := hd
  exact ez_pure (st' := .int (x ||| y) :: st) (fun p e s m args below meth c ad H locs cells slots Qz L hx hb kk => lv_ior hx hb hd kk) k
theorem ev_ixor {x y : Int32} (hd : ez_at X pc .ixor 1 pc') (k : ez_Ev l G X uc us pc' ls (.int (x ^^^ y) :: st) h Q) : ez_Ev l G X uc us pc ls (.int y :: .int x :: st) h Q := by
  obtain ⟨hd, rfl⟩ := hd
  exact ez_pure (st' := .int (x ^^^ y) :: st) (fun p e s m args below meth c ad H locs cells slots Qz L hx hb kk => lv_ixor hx hb hd kk) k
theorem ev_ishl {x y : Int32} (hd : ez_at X pc .ishl 1 pc') (k : ez_Ev l G X uc us pc' ls (.int (x <<< (y &&& 31)) :: st) h Q) : ez_Ev l G X uc us pc ls (.int y :: .int x :: st) h Q := by
  obtain ⟨hd, rfl⟩ := hd
  exact ez_pure (st' := .int (x <<< (y &&& 31)) :: st) (fun p e s m args below meth c ad H locs cells slots Qz L hx hb kk => lv_ishl hx hb hd kk) k
theorem ev_ishr {x y : Int32} (hd : ez_at X pc .ishr 1 pc') (k : ez_Ev l G X uc us pc' ls (.int (x >>> (y &&& 31)) :: st) h Q) : ez_Ev l G X uc us pc ls (.int y :: .int x :: st) h Q := by
  obtain ⟨hd, rfl⟩ := hd
  exact ez_pure (st' := .int (x >>> (y &&& 31)) :: st) (fun p e s m args below meth c ad H locs cells slots Qz L hx hb kk => lv_ishr hx hb hd kk) k
theorem ev_iushr {x y : Int32} (hd : ez_at X pc .iushr 1 pc') (k : ez_Ev l G X uc us pc' ls (.int ((x.toUInt32 >>> (y.toUInt32 &&& Int32.toUInt32 31)).toInt32) :: st) h Q) : ez_Ev l G X uc us pc ls (.int y :: .int x :: st) h Q := by
  obtain ⟨hd, rfl⟩ := hd
  exact ez_pure (st' := .int ((x.toUInt32 >>> (y.toUInt32 &&& Int32.toUInt32 31)).toInt32) :: st) (fun p e s m args below meth c ad H locs cells slots Qz L hx hb kk => lv_iushr hx hb hd rfl kk) k
theorem ev_idiv {x y : Int32} (hd : ez_at X pc .idiv 1 pc') (hne : ¬ y = 0) (k : ez_Ev l G X uc us pc' ls (.int (x / y) :: st) h Q) : ez_Ev l G X uc us pc ls (.int y :: .int x :: st) h Q := by
  obtain ⟨hd, rfl⟩ := hd
  exact ez_pure (st' := .int (x / y) :: st) (fun p e s m args below meth c ad H locs cells slots Qz L hx hb kk => lv_idiv hx hb hd hne kk) k
theorem ev_irem {x y : Int32} (hd : ez_at X pc .irem 1 pc') (hne : ¬ y = 0) (k : ez_Ev l G X uc us pc' ls (.int (x - x / y * y) :: st) h Q) : ez_Ev l G X uc us pc ls (.int y :: .int x :: st) h Q := by
  obtain ⟨hd, rfl⟩ := hd
  exact ez_pure (st' := .int (x - x / y * y) :: st) (fun p e s m args below meth c ad H locs cells slots Qz L hx hb kk => lv_irem hx hb hd hne kk) k
theorem ev_ineg {x : Int32} (hd : ez_at X pc .ineg 1 pc') (k : ez_Ev l G X uc us pc' ls (.int (-x) :: st) h Q) : ez_Ev l G X uc us pc ls (.int x :: st) h Q := by
  obtain ⟨hd, rfl⟩ := hd
  exact ez_pure (st' := .int (-x) :: st) (fun p e s m args below meth c ad H locs cells slots Qz L hx hb kk => lv_ineg hx hb hd kk) k
theorem ev_goto {off : Int} {n : Nat} (hd : ez_br X pc (.goto off) 3 n off tgt) (k : ez_Ev l G X uc us tgt ls st h Q) : ez_Ev l G X uc us pc ls st h Q :=
  ez_pure (fun p e s m args below meth c ad H locs cells slots Qz L hx hb kk => lv_goto hx hb hd.1 hd.2.2 kk) k
theorem ev_dup {v : Value} (hd : ez_at X pc .dup 1 pc') (hc : v.category = 1) (k : ez_Ev l G X uc us pc' ls (v :: v :: st) h Q) : ez_Ev l G X uc us pc ls (v :: st) h Q := by
  obtain ⟨hd, rfl⟩ := hd
  exact ez_pure (st' := v :: v :: st) (fun p e s m args below meth c ad H locs cells slots Qz L hx hb kk => lv_dup hx hb hd ((ez_cat ad v).trans hc) kk) k
theorem ev_dup2 {v w : Value} (hd : ez_at X pc .dup2 1 pc') (hc : v.category = 1) (hc2 : w.category = 1) (k : ez_Ev l G X uc us pc' ls (v :: w :: v :: w :: st) h Q) : ez_Ev l G X uc us pc ls (v :: w :: st) h Q := by
  obtain ⟨hd, rfl⟩ := hd
  exact ez_pure (st' := v :: w :: v :: w :: st) (fun p e s m args below meth c ad H locs cells slots Qz L hx hb kk => lv_dup2_11 hx hb hd ((ez_cat ad v).trans hc) ((ez_cat ad w).trans hc2) kk) k
theorem ev_pop {v : Value} (hd : ez_at X pc .pop 1 pc') (hc : v.category = 1) (k : ez_Ev l G X uc us pc' ls st h Q) : ez_Ev l G X uc us pc ls (v :: st) h Q := by
  obtain ⟨hd, rfl⟩ := hd
  exact ez_pure (st' := st) (fun p e s m args below meth c ad H locs cells slots Qz L hx hb kk => lv_pop hx hb hd ((ez_cat ad v).trans hc) kk) k
theorem ev_icmp_eq {x y : Int32} {off : Int} (hd : ez_br X pc (.if_icmp .eq off) 3 pc' off tgt) (kt : x = y → ez_Ev l G X uc us tgt ls st h Q) (kf : ¬ x = y → ez_Ev l G X uc us pc' ls st h Q) : ez_Ev l G X uc us pc ls (.int y :: .int x :: st) h Q := by
  obtain ⟨hd, rfl, ht⟩ := hd
  intro p e s m args below meth c A n0 ad0 ad H locs cells slots L I
  exact lv_icmp_eq I.1.1 I.1.2.1 hd ht (fun hc => kt hc p e s m args below meth c A n0 ad0 ad H locs cells slots L I) (fun hc => kf hc p e s m args below meth c A n0 ad0 ad H locs cells slots L I)
theorem ev_icmp_ne {x y : Int32} {off : Int} (hd : ez_br X pc (.if_icmp .ne off) 3 pc' off tgt) (kt : ¬ x = y → ez_Ev l G X uc us tgt ls st h Q) (kf : x = y → ez_Ev l G X uc us pc' ls st h Q) : ez_Ev l G X uc us pc ls (.int y :: .int x :: st) h Q := by
  obtain ⟨hd, rfl, ht⟩ := hd
  intro p e s m args below meth c A n0 ad0 ad H locs cells slots L I
  exact lv_icmp_ne I.1.1 I.1.2.1 hd ht (fun hc => kt hc p e s m args below meth c A n0 ad0 ad H locs cells slots L I) (fun hc => kf hc p e s m args below meth c A n0 ad0 ad H locs cells slots L I)
theorem ev_icmp_lt {x y : Int32} {off : Int} (hd : ez_br X pc (.if_icmp .lt off) 3 pc' off tgt) (kt : x < y → ez_Ev l G X uc us tgt ls st h Q) (kf : ¬ x < y → ez_Ev l G X uc us pc' ls st h Q) : ez_Ev l G X uc us pc ls (.int y :: .int x :: st) h Q := by
  obtain ⟨hd, rfl, ht⟩ := hd
  intro p e s m args below meth c A n0 ad0 ad H locs cells slots L I
  exact lv_icmp_lt I.1.1 I.1.2.1 hd ht (fun hc => kt hc p e s m args below meth c A n0 ad0 ad H locs cells slots L I) (fun hc => kf hc p e s m args below meth c A n0 ad0 ad H locs cells slots L I)
theorem ev_icmp_ge {x y : Int32} {off : Int} (hd : ez_br X pc (.if_icmp .ge off) 3 pc' off tgt) (kt : y ≤ x → ez_Ev l G X uc us tgt ls st h Q) (kf : ¬ y ≤ x → ez_Ev l G X uc us pc' ls st h Q) : ez_Ev l G X uc us pc ls (.int y :: .int x :: st) h Q := by
  obtain ⟨hd, rfl, ht⟩ := hd
  intro p e s m args below meth c A n0 ad0 ad H locs cells slots L I
  exact lv_icmp_ge I.1.1 I.1.2.1 hd ht (fun hc => kt hc p e s m args below meth c A n0 ad0 ad H locs cells slots L I) (fun hc => kf hc p e s m args below meth c A n0 ad0 ad H locs cells slots L I)
theorem ev_icmp_gt {x y : Int32} {off : Int} (hd : ez_br X pc (.if_icmp .gt off) 3 pc' off tgt) (kt : y < x → ez_Ev l G X uc us tgt ls st h Q) (kf : ¬ y < x → ez_Ev l G X uc us pc' ls st h Q) : ez_Ev l G X uc us pc ls (.int y :: .int x :: st) h Q := by
  obtain ⟨hd, rfl, ht⟩ := hd
  intro p e s m args below meth c A n0 ad0 ad H locs cells slots L I
  exact lv_icmp_gt I.1.1 I.1.2.1 hd ht (fun hc => kt hc p e s m args below meth c A n0 ad0 ad H locs cells slots L I) (fun hc => kf hc p e s m args below meth c A n0 ad0 ad H locs cells slots L I)
theorem ev_icmp_le {x y : Int32} {off : Int} (hd : ez_br X pc (.if_icmp .le off) 3 pc' off tgt) (kt : x ≤ y → ez_Ev l G X uc us tgt ls st h Q) (kf : ¬ x ≤ y → ez_Ev l G X uc us pc' ls st h Q) : ez_Ev l G X uc us pc ls (.int y :: .int x :: st) h Q := by
  obtain ⟨hd, rfl, ht⟩ := hd
  intro p e s m args below meth c A n0 ad0 ad H locs cells slots L I
  exact lv_icmp_le I.1.1 I.1.2.1 hd ht (fun hc => kt hc p e s m args below meth c A n0 ad0 ad H locs cells slots L I) (fun hc => kf hc p e s m args below meth c A n0 ad0 ad H locs cells slots L I)
theorem ev_if_eq {x : Int32} {off : Int} (hd : ez_br X pc (.ifCond .eq off) 3 pc' off tgt) (kt : x = 0 → ez_Ev l G X uc us tgt ls st h Q) (kf : ¬ x = 0 → ez_Ev l G X uc us pc' ls st h Q) : ez_Ev l G X uc us pc ls (.int x :: st) h Q := by
  obtain ⟨hd, rfl, ht⟩ := hd
  intro p e s m args below meth c A n0 ad0 ad H locs cells slots L I
  exact lv_if_eq I.1.1 I.1.2.1 hd ht (fun hc => kt hc p e s m args below meth c A n0 ad0 ad H locs cells slots L I) (fun hc => kf hc p e s m args below meth c A n0 ad0 ad H locs cells slots L I)
theorem ev_if_ne {x : Int32} {off : Int} (hd : ez_br X pc (.ifCond .ne off) 3 pc' off tgt) (kt : ¬ x = 0 → ez_Ev l G X uc us tgt ls st h Q) (kf : x = 0 → ez_Ev l G X uc us pc' ls st h Q) : ez_Ev l G X uc us pc ls (.int x :: st) h Q := by
  obtain ⟨hd, rfl, ht⟩ := hd
  intro p e s m args below meth c A n0 ad0 ad H locs cells slots L I
  exact lv_if_ne I.1.1 I.1.2.1 hd ht (fun hc => kt hc p e s m args below meth c A n0 ad0 ad H locs cells slots L I) (fun hc => kf hc p e s m args below meth c A n0 ad0 ad H locs cells slots L I)
theorem ev_if_lt {x : Int32} {off : Int} (hd : ez_br X pc (.ifCond .lt off) 3 pc' off tgt) (kt : x < 0 → ez_Ev l G X uc us tgt ls st h Q) (kf : ¬ x < 0 → ez_Ev l G X uc us pc' ls st h Q) : ez_Ev l G X uc us pc ls (.int x :: st) h Q := by
  obtain ⟨hd, rfl, ht⟩ := hd
  intro p e s m args below meth c A n0 ad0 ad H locs cells slots L I
  exact lv_if_lt I.1.1 I.1.2.1 hd ht (fun hc => kt hc p e s m args below meth c A n0 ad0 ad H locs cells slots L I) (fun hc => kf hc p e s m args below meth c A n0 ad0 ad H locs cells slots L I)
theorem ev_if_ge {x : Int32} {off : Int} (hd : ez_br X pc (.ifCond .ge off) 3 pc' off tgt) (kt : 0 ≤ x → ez_Ev l G X uc us tgt ls st h Q) (kf : ¬ 0 ≤ x → ez_Ev l G X uc us pc' ls st h Q) : ez_Ev l G X uc us pc ls (.int x :: st) h Q := by
  obtain ⟨hd, rfl, ht⟩ := hd
  intro p e s m args below meth c A n0 ad0 ad H locs cells slots L I
  exact lv_if_ge I.1.1 I.1.2.1 hd ht (fun hc => kt hc p e s m args below meth c A n0 ad0 ad H locs cells slots L I) (fun hc => kf hc p e s m args below meth c A n0 ad0 ad H locs cells slots L I)
theorem ev_if_gt {x : Int32} {off : Int} (hd : ez_br X pc (.ifCond .gt off) 3 pc' off tgt) (kt : 0 < x → ez_Ev l G X uc us tgt ls st h Q) (kf : ¬ 0 < x → ez_Ev l G X uc us pc' ls st h Q) : ez_Ev l G X uc us pc ls (.int x :: st) h Q := by
  obtain ⟨hd, rfl, ht⟩ := hd
  intro p e s m args below meth c A n0 ad0 ad H locs cells slots L I
  exact lv_if_gt I.1.1 I.1.2.1 hd ht (fun hc => kt hc p e s m args below meth c A n0 ad0 ad H locs cells slots L I) (fun hc => kf hc p e s m args below meth c A n0 ad0 ad H locs cells slots L I)
theorem ev_if_le {x : Int32} {off : Int} (hd : ez_br X pc (.ifCond .le off) 3 pc' off tgt) (kt : x ≤ 0 → ez_Ev l G X uc us tgt ls st h Q) (kf : ¬ x ≤ 0 → ez_Ev l G X uc us pc' ls st h Q) : ez_Ev l G X uc us pc ls (.int x :: st) h Q := by
  obtain ⟨hd, rfl, ht⟩ := hd
  intro p e s m args below meth c A n0 ad0 ad H locs cells slots L I
  exact lv_if_le I.1.1 I.1.2.1 hd ht (fun hc => kt hc p e s m args below meth c A n0 ad0 ad H locs cells slots L I) (fun hc => kf hc p e s m args below meth c A n0 ad0 ad H locs cells slots L I)
theorem ev_iload_n {k : Fin 4} {i : Nat} {x : Int32} (hd : ez_at X pc (.iload_n k) 1 pc') (hi : (k : Nat) = i) (hl : ls[i]? = some (some (.int x))) (kk : ez_Ev l G X uc us pc' ls (.int x :: st) h Q) : ez_Ev l G X uc us pc ls st h Q := by
  obtain ⟨hd, rfl⟩ := hd
  intro p e s m args below meth c A n0 ad0 ad H locs cells slots L I
  exact lv_iload_n I.1.1 I.1.2.1 hd hi (I.2.2.2.2.2.2.2.2.1.2.2 i _ hl).2 (kk p e s m args below meth c A n0 ad0 ad H locs cells slots L I)
theorem ev_iload {i : Nat} {x : Int32} (hd : ez_at X pc (.iload i) 2 pc') (hl : ls[i]? = some (some (.int x))) (kk : ez_Ev l G X uc us pc' ls (.int x :: st) h Q) : ez_Ev l G X uc us pc ls st h Q := by
  obtain ⟨hd, rfl⟩ := hd
  intro p e s m args below meth c A n0 ad0 ad H locs cells slots L I
  exact lv_iload I.1.1 I.1.2.1 hd (I.2.2.2.2.2.2.2.2.1.2.2 i _ hl).2 (kk p e s m args below meth c A n0 ad0 ad H locs cells slots L I)
theorem ev_aload_n {k : Fin 4} {i : Nat} {x : Nat} (hd : ez_at X pc (.aload_n k) 1 pc') (hi : (k : Nat) = i) (hl : ls[i]? = some (some (.ref x))) (kk : ez_Ev l G X uc us pc' ls (.ref x :: st) h Q) : ez_Ev l G X uc us pc ls st h Q := by
  obtain ⟨hd, rfl⟩ := hd
  intro p e s m args below meth c A n0 ad0 ad H locs cells slots L I
  exact lv_aload_n I.1.1 I.1.2.1 hd hi (I.2.2.2.2.2.2.2.2.1.2.2 i _ hl).2 (kk p e s m args below meth c A n0 ad0 ad H locs cells slots L I)
theorem ev_aload {i : Nat} {x : Nat} (hd : ez_at X pc (.aload i) 2 pc') (hl : ls[i]? = some (some (.ref x))) (kk : ez_Ev l G X uc us pc' ls (.ref x :: st) h Q) : ez_Ev l G X uc us pc ls st h Q := by
  obtain ⟨hd, rfl⟩ := hd
  intro p e s m args below meth c A n0 ad0 ad H locs cells slots L I
  exact lv_aload I.1.1 I.1.2.1 hd (I.2.2.2.2.2.2.2.2.1.2.2 i _ hl).2 (kk p e s m args below meth c A n0 ad0 ad H locs cells slots L I)
/-- the known locals, listed -/
def ez_lv (ad : Nat → Nat) (ls : List (Option Value)) : List (Nat × Value) := (List.range ls.length).filterMap fun i => (ls[i]?.join).map fun v => (i, ez_v ad v)
theorem ez_lv_mem {ad : Nat → Nat} {ls : List (Option Value)} {q : Nat × Value} (hq : q ∈ ez_lv ad ls) : ∃ v, ls[q.1]? = some (some v) ∧ q.2 = ez_v ad v := by
  obtain ⟨i, -, hi⟩ := List.mem_filterMap.mp hq
  cases hj : ls[i]?.join with
  | none => rw [hj] at hi; cases hi
  | some v =>
    rw [hj] at hi
    cases hi
    refine ⟨v, ?_, rfl⟩
    cases hk : ls[i]? with
    | none => rw [hk] at hj; cases hj
    | some o => rw [hk] at hj; simp only [Option.join_some] at hj; rw [hj]
theorem ez_lv_in {ad : Nat → Nat} {ls : List (Option Value)} {i : Nat} {v : Value} (h : ls[i]? = some (some v)) : (i, ez_v ad v) ∈ ez_lv ad ls :=
  List.mem_filterMap.mpr ⟨i, List.mem_range.mpr (List.getElem?_eq_some_iff.mp h).1, by rw [h]; rfl⟩
theorem ez_lv_has {ad : Nat → Nat} {n : Nat} {ls : List (Option Value)} {L : Array Slot} (h : ez_L ad n ls L) : lv_has L n (ez_lv ad ls) := by
  refine ⟨h.1, h.2.1, fun q hq => ?_⟩
  obtain ⟨v, h1, h2⟩ := ez_lv_mem hq
  rw [h2]
  exact (h.2.2 q.1 v h1).2
theorem ez_L_put {ad : Nat → Nat} {n i : Nat} {ls : List (Option Value)} {L L' : Array Slot} {v : Value} (h : ez_L ad n ls L) (hc : v.category = 1)
    (h' : lv_has L' n ((i, ez_v ad v) :: (ez_lv ad ls).filter (fun q => !(q.1 == i) && !(q.1 + 1 == i && q.2.category == 2)))) : ez_L ad n (ls.set i (some v)) L' := by
  refine ⟨h'.1, h'.2.1, fun j w hj => ?_⟩
  rw [List.getElem?_set] at hj
  by_cases hij : i = j
  · subst hij
    rw [if_pos rfl] at hj
    split at hj
    · simp only [Option.some.injEq] at hj
      subst hj
      exact ⟨hc, h'.2.2 _ List.mem_cons_self⟩
    · cases hj
  · rw [if_neg hij] at hj
    have h1 := (h.2.2 j w hj).1
    refine ⟨h1, h'.2.2 (j, ez_v ad w) (List.mem_cons_of_mem _ (List.mem_filter.mpr ⟨ez_lv_in hj, ?_⟩))⟩
    have h2 : ¬ (ez_v ad w).category = 2 := by rw [ez_cat, h1]; decide
    simp [h2, Ne.symm hij]
theorem ez_In_ls {ls' : List (Option Value)} {h : ez_H} {p : Program} {s : State} {m : MethodId} {args : Array Value} {meth : Method} {c : Code} {A : Nat → Prop} {n0 : Nat} {ad0 ad : Nat → Nat} {H : Heap} {locs : List Loc} {cells slots : Nat} {L L' : Array Slot}
    (I : ez_In G X uc us ls h p s m args meth c A n0 ad0 ad H locs cells slots L) (hL : ez_L ad X.2.2.1 ls' L') : ez_In G X uc us ls' h p s m args meth c A n0 ad0 ad H locs cells slots L' :=
  ⟨I.1, I.2.1, I.2.2.1, I.2.2.2.1, I.2.2.2.2.1, I.2.2.2.2.2.1, I.2.2.2.2.2.2.1, I.2.2.2.2.2.2.2.1, hL, I.2.2.2.2.2.2.2.2.2⟩
theorem ev_istore_n {k : Fin 4} {i : Nat} {x : Int32} (hd : ez_at X pc (.istore_n k) 1 pc') (hi : (k : Nat) = i) (hn : i < X.2.2.1) (kk : ez_Ev l G X uc us pc' (ls.set i (some (.int x))) st h Q) : ez_Ev l G X uc us pc ls (.int x :: st) h Q := by
  obtain ⟨hd, rfl⟩ := hd
  intro p e s m args below meth c A n0 ad0 ad H locs cells slots L I
  exact lv_istore_n I.1.1 I.1.2.1 hd hi (ez_lv_has I.2.2.2.2.2.2.2.2.1) hn rfl (fun L' hL' => kk p e s m args below meth c A n0 ad0 ad H locs cells slots L' (ez_In_ls I (ez_L_put I.2.2.2.2.2.2.2.2.1 rfl hL')))
theorem ev_istore {i : Nat} {x : Int32} (hd : ez_at X pc (.istore i) 2 pc') (hn : i < X.2.2.1) (kk : ez_Ev l G X uc us pc' (ls.set i (some (.int x))) st h Q) : ez_Ev l G X uc us pc ls (.int x :: st) h Q := by
  obtain ⟨hd, rfl⟩ := hd
  intro p e s m args below meth c A n0 ad0 ad H locs cells slots L I
  exact lv_istore I.1.1 I.1.2.1 hd (ez_lv_has I.2.2.2.2.2.2.2.2.1) hn rfl (fun L' hL' => kk p e s m args below meth c A n0 ad0 ad H locs cells slots L' (ez_In_ls I (ez_L_put I.2.2.2.2.2.2.2.2.1 rfl hL')))
theorem ev_astore_n {k : Fin 4} {i : Nat} {x : Nat} (hd : ez_at X pc (.astore_n k) 1 pc') (hi : (k : Nat) = i) (hn : i < X.2.2.1) (kk : ez_Ev l G X uc us pc' (ls.set i (some (.ref x))) st h Q) : ez_Ev l G X uc us pc ls (.ref x :: st) h Q := by
  obtain ⟨hd, rfl⟩ := hd
  intro p e s m args below meth c A n0 ad0 ad H locs cells slots L I
  exact lv_astore_n I.1.1 I.1.2.1 hd hi (ez_lv_has I.2.2.2.2.2.2.2.2.1) hn rfl (fun L' hL' => kk p e s m args below meth c A n0 ad0 ad H locs cells slots L' (ez_In_ls I (ez_L_put I.2.2.2.2.2.2.2.2.1 rfl hL')))
theorem ev_astore {i : Nat} {x : Nat} (hd : ez_at X pc (.astore i) 2 pc') (hn : i < X.2.2.1) (kk : ez_Ev l G X uc us pc' (ls.set i (some (.ref x))) st h Q) : ez_Ev l G X uc us pc ls (.ref x :: st) h Q := by
  obtain ⟨hd, rfl⟩ := hd
  intro p e s m args below meth c A n0 ad0 ad H locs cells slots L I
  exact lv_astore I.1.1 I.1.2.1 hd (ez_lv_has I.2.2.2.2.2.2.2.2.1) hn rfl (fun L' hL' => kk p e s m args below meth c A n0 ad0 ad H locs cells slots L' (ez_In_ls I (ez_L_put I.2.2.2.2.2.2.2.2.1 rfl hL')))
theorem ev_iinc {i : Nat} {n : Int} {x v : Int32} (hd : ez_at X pc (.iinc i n) 3 pc') (hl : ls[i]? = some (some (.int x))) (hv : x + Int32.ofInt n = v) (hn : i < X.2.2.1) (kk : ez_Ev l G X uc us pc' (ls.set i (some (.int v))) st h Q) : ez_Ev l G X uc us pc ls st h Q := by
  obtain ⟨hd, rfl⟩ := hd
  intro p e s m args below meth c A n0 ad0 ad H locs cells slots L I
  obtain ⟨k, hk⟩ := List.getElem?_of_mem (ez_lv_in (ad := ad) hl)
  exact lv_iinc I.1.1 I.1.2.1 hd (ez_lv_has I.2.2.2.2.2.2.2.2.1) hk hv hn rfl (fun L' hL' => kk p e s m args below meth c A n0 ad0 ad H locs cells slots L' (ez_In_ls I (ez_L_put (v := .int v) I.2.2.2.2.2.2.2.2.1 rfl hL')))
/-- forget locals -/
theorem ev_ls (ls' : List (Option Value)) (hl : ∀ (i : Nat) (v : Value), ls'[i]? = some (some v) → ls[i]? = some (some v)) (kk : ez_Ev l G X uc us pc ls' st h Q) : ez_Ev l G X uc us pc ls st h Q := by
  intro p e s m args below meth c A n0 ad0 ad H locs cells slots L I
  exact kk p e s m args below meth c A n0 ad0 ad H locs cells slots L (ez_In_ls I ⟨I.2.2.2.2.2.2.2.2.1.1, I.2.2.2.2.2.2.2.2.1.2.1, fun i v hv => I.2.2.2.2.2.2.2.2.1.2.2 i v (hl i v hv)⟩)
def ez_mask : List Bool → List (Option Value) → List (Option Value)
  | true :: bs, o :: l => o :: ez_mask bs l
  | false :: bs, _ :: l => none :: ez_mask bs l
  | _, _ => []
theorem ez_mask_le : ∀ (bs : List Bool) (l : List (Option Value)) (i : Nat) (v : Value), (ez_mask bs l)[i]? = some (some v) → l[i]? = some (some v) := by
  intro bs
  induction bs with
  | nil => intro l i v h; cases l <;> simp [ez_mask] at h
  | cons b bs ih =>
    intro l i v h
    cases l with
    | nil => cases b <;> simp [ez_mask] at h
    | cons o l =>
      cases b <;> cases i <;> simp only [ez_mask, List.getElem?_cons_zero, List.getElem?_cons_succ] at h ⊢
      · cases h
      · exact ih l _ v h
      · exact h
      · exact ih l _ v h
theorem ev_mask (bm : List Bool) {ls' : List (Option Value)} (hl : ez_mask bm ls = ls') (kk : ez_Ev l G X uc us pc ls' st h Q) : ez_Ev l G X uc us pc ls st h Q :=
  ev_ls ls' (fun i v hv => ez_mask_le bm ls i v (by rw [hl]; exact hv)) kk
theorem ev_mono {Q' : ez_R → Prop} (hq : ∀ r, Q' r → Q r) (kk : ez_Ev l G X uc us pc ls st h Q') : ez_Ev l G X uc us pc ls st h Q := by
  intro p e s m args below meth c A n0 ad0 ad H locs cells slots L I T hT S
  obtain ⟨t, a1, o, b1, b2, ⟨r, ad', c1, c2⟩, b4⟩ := kk p e s m args below meth c A n0 ad0 ad H locs cells slots L I T hT S
  exact ⟨t, a1, o, b1, b2, ⟨r, ad', hq r c1, c2⟩, b4⟩
/-- more is taken as used -/
theorem ev_more {uc' us' : Nat} (h1 : uc ≤ uc') (h2 : us ≤ us') (kk : ez_Ev l G X uc' us' pc ls st h Q) : ez_Ev l G X uc us pc ls st h Q := by
  intro p e s m args below meth c A n0 ad0 ad H locs cells slots L I
  exact kk p e s m args below meth c A n0 ad0 ad H locs cells slots L ⟨I.1, I.2.1, I.2.2.1, I.2.2.2.1, I.2.2.2.2.1, I.2.2.2.2.2.1, I.2.2.2.2.2.2.1, I.2.2.2.2.2.2.2.1, I.2.2.2.2.2.2.2.2.1, Nat.le_trans I.2.2.2.2.2.2.2.2.2.1 h1, Nat.le_trans I.2.2.2.2.2.2.2.2.2.2 h2⟩
/-- a cell is written -/
theorem ez_In_set {k : Nat} {q : ez_Cell} {h : ez_H} {p : Program} {s : State} {m : MethodId} {args : Array Value} {meth : Method} {c : Code} {A : Nat → Prop} {n0 : Nat} {ad0 ad : Nat → Nat} {H H1 : Heap} {locs locs1 : List Loc} {cells slots : Nat} {L : Array Slot}
    (I : ez_In G X uc us ls h p s m args meth c A n0 ad0 ad H locs cells slots L) (hP1 : va_P G.1 ez_cl ((ez_ws G ad h).set k (ad k, ez_e G.2.1 ad q)) H1) (hD1 : va_D A ((ez_ws G ad h).set k (ad k, ez_e G.2.1 ad q))) (hS1 : va_S A s.heap H1 locs1) : ez_In G X uc us ls (h.set k q) p s m args meth c A n0 ad0 ad H1 locs1 cells slots L :=
  ⟨I.1, I.2.1, ⟨I.2.2.1.1, by rw [List.length_set]; exact I.2.2.1.2.1, I.2.2.1.2.2⟩, by rw [List.length_set]; exact I.2.2.2.1, by rw [List.length_set]; exact I.2.2.2.2.1, by rw [ez_ws_set]; exact hP1, by rw [ez_ws_set]; exact hD1, hS1, I.2.2.2.2.2.2.2.2.1, I.2.2.2.2.2.2.2.2.2⟩
theorem ev_iald {k n : Nat} {f : Nat → Int32} {i : Int32} (hd : ez_at X pc .iaload 1 pc') (hk : h[k]? = some (.inl (.int, (n, .inl f)))) (hin : vp_in i n) (kk : ez_Ev l G X uc us pc' ls (.int (f i.toNatClampNeg) :: st) h Q) : ez_Ev l G X uc us pc ls (.int i :: .ref k :: st) h Q := by
  obtain ⟨hd, rfl⟩ := hd
  intro p e s m args below meth c A n0 ad0 ad H locs cells slots L I
  exact va_iald I.1.1 I.1.2.1 I.1.2.2.2.2.2.2.2.2.1 I.2.2.2.2.2.1 k 0 (ez_ws_get G ad hk) rfl hin hd (kk p e s m args below meth c A n0 ad0 ad H locs cells slots L I)
theorem ev_zald {k n : Nat} {f : Nat → Int32} {i : Int32} (hd : ez_at X pc .baload 1 pc') (hk : h[k]? = some (.inl (.boolean, (n, .inl f)))) (hin : vp_in i n) (kk : ez_Ev l G X uc us pc' ls (.int (f i.toNatClampNeg) :: st) h Q) : ez_Ev l G X uc us pc ls (.int i :: .ref k :: st) h Q := by
  obtain ⟨hd, rfl⟩ := hd
  intro p e s m args below meth c A n0 ad0 ad H locs cells slots L I
  exact va_zald I.1.1 I.1.2.1 I.1.2.2.2.2.2.2.2.2.1 I.2.2.2.2.2.1 k 1 (ez_ws_get G ad hk) rfl hin hd (kk p e s m args below meth c A n0 ad0 ad H locs cells slots L I)
theorem ev_lald {k n : Nat} {f : Nat → Int64} {i : Int32} (hd : ez_at X pc .laload 1 pc') (hk : h[k]? = some (.inl (.long, (n, .inr (.inl f))))) (hin : vp_in i n) (kk : ez_Ev l G X uc us pc' ls (.long (f i.toNatClampNeg) :: st) h Q) : ez_Ev l G X uc us pc ls (.int i :: .ref k :: st) h Q := by
  obtain ⟨hd, rfl⟩ := hd
  intro p e s m args below meth c A n0 ad0 ad H locs cells slots L I
  exact va_lald I.1.1 I.1.2.1 I.1.2.2.2.2.2.2.2.2.1 I.2.2.2.2.2.1 k 2 (ez_ws_get G ad hk) rfl hin hd (kk p e s m args below meth c A n0 ad0 ad H locs cells slots L I)
theorem ev_iast {k n : Nat} {f : Nat → Int32} {i x : Int32} (hd : ez_at X pc .iastore 1 pc') (hk : h[k]? = some (.inl (.int, (n, .inl f)))) (hin : vp_in i n) (kk : ez_Ev l G X uc us pc' ls st (h.set k (.inl (.int, (n, .inl (upd f i.toNatClampNeg x))))) Q) : ez_Ev l G X uc us pc ls (.int x :: .int i :: .ref k :: st) h Q := by
  obtain ⟨hd, rfl⟩ := hd
  intro p e s m args below meth c A n0 ad0 ad H locs cells slots L I
  exact va_iast I.1.1 I.1.2.1 I.1.2.2.2.2.2.2.2.2.1 I.2.2.2.2.2.1 I.2.2.2.2.2.2.1 I.2.2.2.2.2.2.2.1 k 0 (ez_ws_get G ad hk) rfl hin hd (fun H1 locs1 hP1 hD1 hS1 => kk p e s m args below meth c A n0 ad0 ad H1 locs1 cells slots L (ez_In_set (q := .inl (.int, (n, .inl (upd f i.toNatClampNeg x)))) I hP1 hD1 hS1))
theorem ev_zast {k n : Nat} {f : Nat → Int32} {i x : Int32} (hd : ez_at X pc .bastore 1 pc') (hk : h[k]? = some (.inl (.boolean, (n, .inl f)))) (hin : vp_in i n) (kk : ez_Ev l G X uc us pc' ls st (h.set k (.inl (.boolean, (n, .inl (upd f i.toNatClampNeg (vp_nar .boolean x)))))) Q) : ez_Ev l G X uc us pc ls (.int x :: .int i :: .ref k :: st) h Q := by
  obtain ⟨hd, rfl⟩ := hd
  intro p e s m args below meth c A n0 ad0 ad H locs cells slots L I
  exact va_zast I.1.1 I.1.2.1 I.1.2.2.2.2.2.2.2.2.1 I.2.2.2.2.2.1 I.2.2.2.2.2.2.1 I.2.2.2.2.2.2.2.1 k 1 (ez_ws_get G ad hk) rfl hin hd (fun H1 locs1 hP1 hD1 hS1 => kk p e s m args below meth c A n0 ad0 ad H1 locs1 cells slots L (ez_In_set (q := .inl (.boolean, (n, .inl (upd f i.toNatClampNeg (vp_nar .boolean x))))) I hP1 hD1 hS1))
theorem ev_last {k n : Nat} {f : Nat → Int64} {i : Int32} {x : Int64} (hd : ez_at X pc .lastore 1 pc') (hk : h[k]? = some (.inl (.long, (n, .inr (.inl f))))) (hin : vp_in i n) (kk : ez_Ev l G X uc us pc' ls st (h.set k (.inl (.long, (n, .inr (.inl (vp_updL f i.toNatClampNeg x)))))) Q) : ez_Ev l G X uc us pc ls (.long x :: .int i :: .ref k :: st) h Q := by
  obtain ⟨hd, rfl⟩ := hd
  intro p e s m args below meth c A n0 ad0 ad H locs cells slots L I
  exact va_last I.1.1 I.1.2.1 I.1.2.2.2.2.2.2.2.2.1 I.2.2.2.2.2.1 I.2.2.2.2.2.2.1 I.2.2.2.2.2.2.2.1 k 2 (ez_ws_get G ad hk) rfl hin hd (fun H1 locs1 hP1 hD1 hS1 => kk p e s m args below meth c A n0 ad0 ad H1 locs1 cells slots L (ez_In_set (q := .inl (.long, (n, .inr (.inl (vp_updL f i.toNatClampNeg x))))) I hP1 hD1 hS1))
theorem ev_alen {k : Nat} {a : vp_A} {v : Int32} (hd : ez_at X pc .arraylength 1 pc') (hk : h[k]? = some (.inl (.int, a))) (hv : Int32.ofNat a.1 = v) (kk : ez_Ev l G X uc us pc' ls (.int v :: st) h Q) : ez_Ev l G X uc us pc ls (.ref k :: st) h Q := by
  obtain ⟨hd, rfl⟩ := hd
  intro p e s m args below meth c A n0 ad0 ad H locs cells slots L I
  exact va_alen I.1.1 I.1.2.1 I.1.2.2.2.2.2.2.2.2.1 I.2.2.2.2.2.1 k 0 (ez_ws_get G ad hk) rfl hv hd (kk p e s m args below meth c A n0 ad0 ad H locs cells slots L I)
theorem ev_i2l {x : Int32} (hd : ez_at X pc .i2l 1 pc') (k : ez_Ev l G X uc us pc' ls (.long x.toInt64 :: st) h Q) : ez_Ev l G X uc us pc ls (.int x :: st) h Q := by
  obtain ⟨hd, rfl⟩ := hd
  exact ez_pure (st' := .long x.toInt64 :: st) (fun p e s m args below meth c ad H locs cells slots Qz L hx hb kk => lv_i2l hx hb hd rfl kk) k
theorem ev_lconst {n : Fin 2} {v : Int64} (hd : ez_at X pc (.lconst n) 1 pc') (hv : Int64.ofNat (n : Nat) = v) (k : ez_Ev l G X uc us pc' ls (.long v :: st) h Q) : ez_Ev l G X uc us pc ls st h Q := by
  obtain ⟨hd, rfl⟩ := hd
  exact ez_pure (st' := .long v :: st) (fun p e s m args below meth c ad H locs cells slots Qz L hx hb kk => lv_lconst hx hb hd hv kk) k
theorem ev_lcmp {x y : Int64} (hd : ez_at X pc .lcmp 1 pc') (k : ez_Ev l G X uc us pc' ls (.int (lg_cmp x y) :: st) h Q) : ez_Ev l G X uc us pc ls (.long y :: .long x :: st) h Q := by
  obtain ⟨hd, rfl⟩ := hd
  exact ez_pure (st' := .int (lg_cmp x y) :: st) (fun p e s m args below meth c ad H locs cells slots Qz L hx hb kk => W.lcmp hx hb hd kk) k
theorem ev_ldc {index : Nat} {v : Int32} (hd : ez_at X pc (.ldc index) 2 pc') (hc : Cond.constant X.1.cls index v ∈ ez_T) (kk : ez_Ev l G X uc us pc' ls (.int v :: st) h Q) : ez_Ev l G X uc us pc ls st h Q := by
  obtain ⟨hd, rfl⟩ := hd
  intro p e s m args below meth c A n0 ad0 ad H locs cells slots L I
  exact lv_ldc I.1.1 I.1.2.1 I.1.2.2.2.1 (I.1.2.2.2.2.1 _ hc) hd (kk p e s m args below meth c A n0 ad0 ad H locs cells slots L I)
theorem ev_tableOut {dflt lo hi : Int} {offs : Array Int} {n : Nat} {x : Int32} (hd : decode X.2.1 pc = .ok (.tableswitch dflt lo hi offs, n)) (hx : x.toInt < lo ∨ hi < x.toInt) (ht : (pc : Int) + dflt = (tgt : Int)) (kk : ez_Ev l G X uc us tgt ls st h Q) : ez_Ev l G X uc us pc ls (.int x :: st) h Q := by
  intro p e s m args below meth c A n0 ad0 ad H locs cells slots L I
  exact lv_tableOut I.1.1 I.1.2.1 hd hx ht (kk p e s m args below meth c A n0 ad0 ad H locs cells slots L I)
theorem ev_tableIn {dflt lo hi off : Int} {offs : Array Int} {n : Nat} {x : Int32} (hd : decode X.2.1 pc = .ok (.tableswitch dflt lo hi offs, n)) (h1 : ¬ x.toInt < lo) (h2 : ¬ hi < x.toInt) (ho : offs[(x.toInt - lo).toNat]? = some off) (ht : (pc : Int) + off = (tgt : Int)) (kk : ez_Ev l G X uc us tgt ls st h Q) : ez_Ev l G X uc us pc ls (.int x :: st) h Q := by
  intro p e s m args below meth c A n0 ad0 ad H locs cells slots L I
  exact lv_tableIn I.1.1 I.1.2.1 hd h1 h2 ho ht (kk p e s m args below meth c A n0 ad0 ad H locs cells slots L I)
theorem ev_lookup {dflt off : Int} {ps : Array (Int × Int)} {n : Nat} {x : Int32} (hd : decode X.2.1 pc = .ok (.lookupswitch dflt ps, n)) (hp : (ps.toList.zip (ps.toList.drop 1)).all (fun (a, next) => a.1 < next.1) = true) (ho : Op.lookupswitch.offset ps.toList dflt x.toInt = off) (ht : (pc : Int) + off = (tgt : Int)) (kk : ez_Ev l G X uc us tgt ls st h Q) : ez_Ev l G X uc us pc ls (.int x :: st) h Q := by
  intro p e s m args below meth c A n0 ad0 ad H locs cells slots L I
  exact lv_lookup I.1.1 I.1.2.1 hd hp ho ht (kk p e s m args below meth c A n0 ad0 ad H locs cells slots L I)
/-! returns -/
theorem ez_end {v : Option Value} {p : Program} {s : State} {m : MethodId} {args : Array Value} {meth : Method} {c : Code} {A : Nat → Prop} {n0 : Nat} {ad0 ad : Nat → Nat} {H : Heap} {locs : List Loc} {cells slots : Nat} {L : Array Slot}
    (I : ez_In G X uc us ls h p s m args meth c A n0 ad0 ad H locs cells slots L) (hq : Q (.inl v, h)) {t : State} (ht : t.heap = H) : ez_Fin G A n0 ad0 Q (.returned (v.map (ez_v ad))) t ∧ va_F A s t :=
  ⟨⟨(.inl v, h), ad, hq, ⟨I.2.2.2.1, I.2.2.1.2.1⟩, I.2.2.2.2.1, by rw [ht]; exact I.2.2.2.2.2.1, I.2.2.2.2.2.2.1, rfl⟩, I.2.2.2.2.2.2.2.1.F ht⟩
theorem ez_Wret {p : Program} {l : Launch} {e : Env} {R : Room} {s : State} {m : MethodId} {args : Array Value} {below : List Frame} {meth : Method} {c : Code} {H : Heap} {locs : List Loc} {cells slots : Nat} {A : Nat → Prop} {F : Outcome → State → Prop} {g : JFrame}
    (h1 : cells ≤ ez_mc X) (h2 : slots ≤ ez_ms X) (k : W p l e R s m args below meth c H locs (ez_mc X) (ez_ms X) (MQ below (fun _ st o t => F o t ∧ va_F A st t) args s (ez_mc X) (ez_ms X) A) g) : W p l e R s m args below meth c H locs cells slots (ez_MQ X below s A F) g := by
  refine W.widen h1 h2 ?_
  intro T hT S
  obtain ⟨t, a1, o, b1, b2, ⟨b3, b4⟩, L, ⟨⟨v, rfl⟩, b5, b6⟩, b7⟩ := k T hT S
  exact ⟨t, a1, .returned v, b1, b2, b3, b4, L, ⟨b5, b6⟩, b7⟩
theorem ev_iret {v : Int32} (hd : ez_at X pc .ireturn 1 pc') (hr : X.2.2.2.1 = some .int) (hu : uc ≤ ez_mc X ∧ us ≤ ez_ms X) (hq : Q (.inl (some (.int v)), h)) : ez_Ev l G X uc us pc ls [.int v] h Q := by
  intro p e s m args below meth c A n0 ad0 ad H locs cells slots L I
  have hc := I.2.2.2.2.2.2.2.2.2
  exact ez_Wret (by omega) (by omega) (W.iret I.1.1 I.1.2.1 (I.1.2.2.2.2.2.1.trans hr) (fun t ht _ => ez_end I hq ht) I.2.2.2.2.2.2.2.1.2.2 hd.1 I.1.2.2.2.2.2.2.1)
theorem ev_zret {v : Int32} {ty : FieldType} (hd : ez_at X pc .ireturn 1 pc') (hr : X.2.2.2.1 = some ty) (hn : narrow ty (.int v) = .int v) (hu : uc ≤ ez_mc X ∧ us ≤ ez_ms X) (hq : Q (.inl (some (.int v)), h)) : ez_Ev l G X uc us pc ls [.int v] h Q := by
  intro p e s m args below meth c A n0 ad0 ad H locs cells slots L I
  have hc := I.2.2.2.2.2.2.2.2.2
  exact ez_Wret (by omega) (by omega) (W.zret I.1.1 I.1.2.1 (I.1.2.2.2.2.2.1.trans hr) hn (fun t ht _ => ez_end I hq ht) I.2.2.2.2.2.2.2.1.2.2 hd.1 I.1.2.2.2.2.2.2.1)
theorem ev_vret (hd : ez_at X pc .return_ 1 pc') (hr : X.2.2.2.1 = none) (hu : uc ≤ ez_mc X ∧ us ≤ ez_ms X) (hq : Q (.inl none, h)) : ez_Ev l G X uc us pc ls [] h Q := by
  intro p e s m args below meth c A n0 ad0 ad H locs cells slots L I
  have hc := I.2.2.2.2.2.2.2.2.2
  exact ez_Wret (by omega) (by omega) (W.vret I.1.1 I.1.2.1 (I.1.2.2.2.2.2.1.trans hr) (fun t ht _ => ez_end I hq ht) I.2.2.2.2.2.2.2.1.2.2 hd.1 I.1.2.2.2.2.2.2.1)
theorem ev_aret {k : Nat} {nm : String} (hd : ez_at X pc .areturn 1 pc') (hr : X.2.2.2.1 = some (.object nm)) (hu : uc ≤ ez_mc X ∧ us ≤ ez_ms X) (hq : Q (.inl (some (.ref k)), h)) : ez_Ev l G X uc us pc ls [.ref k] h Q := by
  intro p e s m args below meth c A n0 ad0 ad H locs cells slots L I
  have hc := I.2.2.2.2.2.2.2.2.2
  exact ez_Wret (by omega) (by omega) (W.aret I.1.1 I.1.2.1 (I.1.2.2.2.2.2.1.trans hr) (Or.inl ⟨nm, rfl⟩) (Or.inr ⟨_, rfl⟩) (fun t ht _ => ez_end I hq ht) I.2.2.2.2.2.2.2.1.2.2 hd.1 I.1.2.2.2.2.2.2.1)
/-! fields -/
def ez_fld (own : String) (index ci j : Nat) : Prop := ∃ (C : String) (T : u_T) (N : Nat), ez_cl[ci]? = some (C, T, N) ∧ j < N ∧ (∀ w ∈ u_ws C T N, w ∈ ez_T) ∧ (Cond.fieldLink own index (T j).1 (T j).2.1 (T j).2.2.1 ∈ ez_T ∨ ∃ host, Cond.fieldLinkNest own index (T j).1 (T j).2.1 (T j).2.2.1 host ∈ ez_T)
theorem ev_getf {index ci j k : Nat} {fs : List Value} {v : Value} (hd : ez_at X pc (.getfield index) 3 pc') (hf : ez_fld X.1.cls index ci j) (hk : h[k]? = some (.inr (ci, fs))) (hv : fs[j]? = some v) (kk : ez_Ev l G X uc us pc' ls (v :: st) h Q) : ez_Ev l G X uc us pc ls (.ref k :: st) h Q := by
  obtain ⟨hd, rfl⟩ := hd
  obtain ⟨C, T, N, hc, hj, hin, hl⟩ := hf
  intro p e s m args below meth c A n0 ad0 ad H locs cells slots L I
  have hv' : (fs.map (ez_v ad))[j]? = some (ez_v ad v) := by rw [List.getElem?_map, hv]; rfl
  rcases hl with hl | ⟨host, hl⟩
  · exact va_get I.1.1 I.1.2.1 I.1.2.2.2.2.1 hin I.1.2.2.2.1 I.1.2.2.2.2.2.2.2.2.1 I.2.2.2.2.2.1 k (ez_ws_get G ad hk) hc j hj (I.1.2.2.2.2.1 _ hl) (fun _ h => h) hv' hd (kk p e s m args below meth c A n0 ad0 ad H locs cells slots L I)
  · exact va_getN I.1.1 I.1.2.1 I.1.2.2.2.2.1 hin I.1.2.2.2.1 I.1.2.2.2.2.2.2.2.2.1 I.2.2.2.2.2.1 k (ez_ws_get G ad hk) hc j hj (I.1.2.2.2.2.1 _ hl) (fun _ h => h) hv' hd (kk p e s m args below meth c A n0 ad0 ad H locs cells slots L I)
def ez_fty (ci j : Nat) (fin : Bool) (ty : FieldType) : Prop := ∃ (C : String) (T : u_T) (N : Nat) (ty0 : Nat → FieldType), ez_cl[ci]? = some (C, T, N) ∧ (∀ k, k < N → parseFieldDescriptor (T k).2.2.1 = some (ty0 k)) ∧ (∀ a, a < N → ∀ b, b < N → a ≠ b → (T a).2.1 ≠ (T b).2.1) ∧ (T j).2.2.2 = fin ∧ parseFieldDescriptor (T j).2.2.1 = some ty ∧ (T j).1 = C
theorem ez_e_set (cA : FieldType → ClassId) (ad : Nat → Nat) (ci j : Nat) (fs : List Value) (v : Value) : (Sum.inr (ci, (fs.map (ez_v ad)).set j (ez_v ad v)) : va_E) = ez_e cA ad (.inr (ci, fs.set j v)) := by
  show _ = (Sum.inr (ci, (fs.set j v).map (ez_v ad)) : va_E)
  rw [List.map_set]
theorem ev_putf {index ci j k : Nat} {fs : List Value} {v : Value} {ty : FieldType} (hd : ez_at X pc (.putfield index) 3 pc') (hf : ez_fld X.1.cls index ci j) (hty : ez_fty ci j false ty) (hk : h[k]? = some (.inr (ci, fs))) (hl : j < fs.length) (hn : ∀ ad, narrow ty (ez_v ad v) = ez_v ad v ∧ fits ty (ez_v ad v) = true)
    (kk : ez_Ev l G X uc us pc' ls st (h.set k (.inr (ci, fs.set j v))) Q) : ez_Ev l G X uc us pc ls (v :: .ref k :: st) h Q := by
  obtain ⟨hd, rfl⟩ := hd
  obtain ⟨C, T, N, hc, hj, hin, hlk⟩ := hf
  obtain ⟨C', T', N', ty0, hc', ht0, hnm, hfin, hty, -⟩ := hty
  cases hc.symm.trans hc'
  intro p e s m args below meth c A n0 ad0 ad H locs cells slots L I
  have hlen : j < (fs.map (ez_v ad)).length := by rw [List.length_map]; exact hl
  have go : ∀ (H1 : Heap) (locs1 : List Loc), va_P G.1 ez_cl ((ez_ws G ad h).set k (ad k, .inr (ci, (fs.map (ez_v ad)).set j (ez_v ad v)))) H1 → va_D A ((ez_ws G ad h).set k (ad k, .inr (ci, (fs.map (ez_v ad)).set j (ez_v ad v)))) → va_S A s.heap H1 locs1 → W p l e (ez_rm X) s m args below meth c H1 locs1 cells slots (ez_MQ X below s A (ez_Fin G A n0 ad0 Q)) (F0 m (pc + 3) L (st.map (ez_v ad))) := fun H1 locs1 hP1 hD1 hS1 => by
    rw [ez_e_set G.2.1] at hP1 hD1
    exact kk p e s m args below meth c A n0 ad0 ad H1 locs1 cells slots L (ez_In_set I hP1 hD1 hS1)
  rcases hlk with hlk | ⟨host, hlk⟩
  · exact va_put I.1.1 I.1.2.1 I.1.2.2.2.2.1 hin ty0 ht0 hnm I.1.2.2.2.1 I.1.2.2.2.2.2.2.2.2.1 I.2.2.2.2.2.1 I.2.2.2.2.2.2.1 I.2.2.2.2.2.2.2.1 k (ez_ws_get G ad hk) hc j hj (I.1.2.2.2.2.1 _ hlk) (fun _ h => h) hfin hty (hn ad).1 (hn ad).2 hlen hd go
  · exact va_putN I.1.1 I.1.2.1 I.1.2.2.2.2.1 hin ty0 ht0 hnm I.1.2.2.2.1 I.1.2.2.2.2.2.2.2.2.1 I.2.2.2.2.2.1 I.2.2.2.2.2.2.1 I.2.2.2.2.2.2.2.1 k (ez_ws_get G ad hk) hc j hj (I.1.2.2.2.2.1 _ hlk) (fun _ h => h) hfin hty (hn ad).1 (hn ad).2 hlen hd go
/-! calls -/
theorem ev_calls {Y : ez_X} {n index : Nat} {as rest : List Value} {Qc : ez_R → Prop} (hok : ez_ok Y n) (hl : ez_link X.1.cls index Y.1) (hst : Cond.static Y.1 ∈ ez_T) (hd : ez_at X pc (.invokestatic index) 3 pc') (hC : ez_Ct l G Y as h Qc) (hs : st = as.reverse ++ rest) (hn : as.length = n)
    (hroom : ez_fits X Y uc us) (hrest : (rest.map fun v => v.category).sum ≤ 8) (hX : ez_hs X = []) (hth : uc + ez_mc Y ≤ ez_mc X ∧ us + ez_ms Y ≤ ez_ms X)
    (kr : ∀ v h', Qc (.inl v, h') → ez_still h.length h'.length ls rest ∧ ez_Ev l G X (uc + ez_mc Y) (us + ez_ms Y) pc' ls (v.toList ++ rest) h' Q)
    (kt : ∀ k h', Qc (.inr k, h') → h'.length = h.length ∧ Q (.inr k, h')) : ez_Ev l G X uc us pc ls st h Q := by
  refine ez_call hok hC hroom hrest ?_ ⟨_, hd.1⟩ hd.2 kr (fun k h' hq => ⟨(kt k h' hq).1, ez_Th_out hX ⟨by have := hth.1; omega, by have := hth.2; omega⟩ (kt k h' hq).2⟩)
  intro p e s m args below meth c A n0 ad0 ad H locs cells slots L T I hT S
  exact ez_goS S I.1.1 I.1.2.2.2.2.1 hok I.1.2.2.2.1 hl hst rfl (by rw [List.length_map]; exact hn) (by show st.map (ez_v ad) = _; rw [hs, List.map_append, List.map_reverse]) (by rw [I.1.2.1]; exact hd.1)
theorem ez_toV {Y : ez_X} {n index b ci : Nat} {as rest fs : List Value} {T0 : u_T} {N : Nat} (hok : ez_ok Y n) (hl : ez_link X.1.cls index Y.1) (hin : Cond.instanceMethod Y.1 ∈ ez_T) (hsel : Cond.selects Y.1.cls Y.1 Y.1 ∈ ez_T) (hd : ez_at X pc (.invokevirtual index) 3 pc') (hs : st = as.reverse ++ .ref b :: rest) (hn : as.length = n) (hb : h[b]? = some (.inr (ci, fs))) (hc : ez_cl[ci]? = some (Y.1.cls, T0, N)) :
    ∀ (p : Program) (e : Env) (s : State) (m : MethodId) (args : Array Value) (below : List Frame) (meth : Method) (c : Code) (A : Nat → Prop) (n0 : Nat) (ad0 ad : Nat → Nat) (H : Heap) (locs : List Loc) (cells slots : Nat) (L : Array Slot) (T : State),
      ez_In G X uc us ls h p s m args meth c A n0 ad0 ad H locs cells slots L → T.heap = H → Stand p l e (ez_rm X) s m args below meth c T locs cells slots →
      ez_To p l e (ez_rm X) s m args below meth c T locs cells slots Y.1 (F0 m pc L (st.map (ez_v ad))) (rest.map (ez_v ad)) ((Value.ref b :: as).map (ez_v ad)).toArray := by
  intro p e s m args below meth c A n0 ad0 ad H locs cells slots L T I hT S
  obtain ⟨cell, q1, q2, q3⟩ := va_recv I.1.2.2.2.2.2.2.2.2.1 I.2.2.2.2.2.1 hc (ez_ws_get G ad hb)
  exact ez_goV S I.1.1 I.1.2.2.2.2.1 hok I.1.2.2.2.1 hl hin hsel (by rw [hT]; exact q1) q2 q3 rfl (argsL := as.map (ez_v ad)) (by rw [List.length_map]; exact hn) (by show st.map (ez_v ad) = _; rw [hs, List.map_append, List.map_reverse]; rfl) (by rw [I.1.2.1]; exact hd.1)
theorem ev_callv {Y : ez_X} {n index b ci : Nat} {as rest fs : List Value} {T0 : u_T} {N : Nat} {Qc : ez_R → Prop} (hok : ez_ok Y n) (hl : ez_link X.1.cls index Y.1) (hin : Cond.instanceMethod Y.1 ∈ ez_T) (hsel : Cond.selects Y.1.cls Y.1 Y.1 ∈ ez_T) (hd : ez_at X pc (.invokevirtual index) 3 pc') (hb : h[b]? = some (.inr (ci, fs))) (hc : ez_cl[ci]? = some (Y.1.cls, T0, N))
    (hC : ez_Ct l G Y (.ref b :: as) h Qc) (hs : st = as.reverse ++ .ref b :: rest) (hn : as.length = n)
    (hroom : ez_fits X Y uc us) (hrest : (rest.map fun v => v.category).sum ≤ 8) (hX : ez_hs X = []) (hth : uc + ez_mc Y ≤ ez_mc X ∧ us + ez_ms Y ≤ ez_ms X)
    (kr : ∀ v h', Qc (.inl v, h') → ez_still h.length h'.length ls rest ∧ ez_Ev l G X (uc + ez_mc Y) (us + ez_ms Y) pc' ls (v.toList ++ rest) h' Q)
    (kt : ∀ k h', Qc (.inr k, h') → h'.length = h.length ∧ Q (.inr k, h')) : ez_Ev l G X uc us pc ls st h Q :=
  ez_call hok hC hroom hrest (ez_toV hok hl hin hsel hd hs hn hb hc) ⟨_, hd.1⟩ hd.2 kr (fun k h' hq => ⟨(kt k h' hq).1, ez_Th_out hX ⟨by have := hth.1; omega, by have := hth.2; omega⟩ (kt k h' hq).2⟩)
theorem ev_calli {Y : ez_X} {n index b : Nat} {as rest : List Value} {Qc : ez_R → Prop} (hok : ez_ok Y n) (hy1 : Y.1.name = "<init>") (hyr : Y.2.2.2.1 = none) (hh : ez_hs Y = []) (hl : ez_link X.1.cls index Y.1) (hin : Cond.instanceMethod Y.1 ∈ ez_T) (hd : ez_at X pc (.invokespecial index) 3 pc')
    (hC : ez_Ct l G Y (.ref b :: as) h Qc) (hs : st = as.reverse ++ .ref b :: rest) (hn : as.length = n)
    (hroom : ez_fits X Y uc us) (hrest : (rest.map fun v => v.category).sum ≤ 8)
    (kr : ∀ v h', Qc (.inl v, h') → ez_still h.length h'.length ls rest ∧ ez_Ev l G X (uc + ez_mc Y) (us + ez_ms Y) pc' ls (v.toList ++ rest) h' Q)
    (kt : ∀ k h', ¬ Qc (.inr k, h')) : ez_Ev l G X uc us pc ls st h Q := by
  refine ez_call hok hC hroom hrest ?_ ⟨_, hd.1⟩ hd.2 kr (fun k h' hq => absurd hq (kt k h'))
  intro p e s m args below meth c A n0 ad0 ad H locs cells slots L T I hT S
  exact ez_goI S I.1.1 I.1.2.2.2.2.1 hok hy1 hyr hh I.1.2.2.2.1 hl hin rfl (a := ad b) (argsL := as.map (ez_v ad)) (by rw [List.length_map]; exact hn) (by show st.map (ez_v ad) = _; rw [hs, List.map_append, List.map_reverse]; rfl) (by rw [I.1.2.1]; exact hd.1)
end EzRows
end
section
/-- the world once made: places, their lengths or fields -/
def es_SH : List ((FieldType × Nat) ⊕ (Nat × List (Option Nat))) := [.inr (0, [none, none, some 1, some 10, some 19, some 28, some 37, some 42, none]), .inr (1, [some 2, some 3, some 4, some 5, some 6, some 7, some 8, some 9, none, none]), .inl (.int, 24), .inl (.int, 24), .inl (.int, 24), .inl (.int, 48), .inl (.int, 24), .inl (.int, 3), .inl (.int, 5), .inl (.int, 24), .inr (1, [some 11, some 12, some 13, some 14, some 15, some 16, some 17, some 18, none, none]), .inl (.int, 24), .inl (.int, 24), .inl (.int, 24), .inl (.int, 48), .inl (.int, 24), .inl (.int, 3), .inl (.int, 5), .inl (.int, 24), .inr (2, [some 1, some 20, some 21, some 22, some 23, some 24, some 25, some 26, some 27, none, none, none, none]), .inl (.int, 24), .inl (.int, 384), .inl (.int, 512), .inl (.int, 512), .inl (.int, 32), .inl (.int, 32), .inl (.int, 32), .inl (.int, 32), .inr (2, [some 10, some 29, some 30, some 31, some 32, some 33, some 34, some 35, some 36, none, none, none, none]), .inl (.int, 24), .inl (.int, 384), .inl (.int, 512), .inl (.int, 512), .inl (.int, 32), .inl (.int, 32), .inl (.int, 32), .inl (.int, 32), .inr (3, [some 19, some 28, some 38, some 39, some 40, some 41, none, none, none, none, none, none, none]), .inl (.int, 32), .inl (.int, 1024), .inl (.int, 1024), .inl (.int, 1024), .inr (4, [some 1, some 10, some 43, some 44, some 45, none]), .inl (.int, 24), .inl (.int, 24), .inl (.int, 24), .inr (5, [none, none, some 47, some 48, some 49, some 50, some 51, some 52, some 53, some 54, some 55, some 56, some 57, some 58, none, some 59, some 60, some 61, some 62, none, none, some 63]), .inl (.boolean, 16), .inl (.int, 2), .inl (.int, 48), .inl (.int, 48), .inl (.int, 48), .inl (.int, 48), .inl (.int, 6), .inl (.boolean, 24), .inl (.int, 24), .inl (.int, 1024), .inl (.boolean, 64), .inl (.boolean, 1024), .inl (.int, 1024), .inl (.int, 1024), .inl (.int, 1024), .inl (.boolean, 1024), .inl (.boolean, 576), .inl (.long, 1)]
/-! ===== THE STEADY WORLD: once made, its references stand; its numbers change: σ k j is the number at slot j of the cell at place k ===== -/
abbrev es_Sh : Type := (FieldType × Nat) ⊕ (Nat × List (Option Nat))
abbrev es_S : Type := Nat → Nat → Int32
def es_fs (rs : List (Option Nat)) (f : Nat → Int32) : List Value := rs.mapIdx fun j r => match r with
  | some k => .ref k
  | none => .int (f j)
def es_cell (q : es_Sh) (f : Nat → Int32) : ez_Cell := match q with
  | .inl a => if a.1 = .long then .inl (.long, (a.2, .inr (.inl fun j => (f j).toInt64))) else .inl (a.1, (a.2, .inl f))
  | .inr o => .inr (o.1, es_fs o.2 f)
def es_Hs (sh : List es_Sh) (σ : es_S) : ez_H := sh.mapIdx fun k q => es_cell q (σ k)
/-- (shut, so that nobody unfolds it by chance) -/
theorem es_Hex : ∃ f : es_S → ez_H, ∀ σ, f σ = es_Hs es_SH σ := ⟨_, fun _ => rfl⟩
noncomputable def es_H : es_S → ez_H := Classical.choose es_Hex
theorem es_Heq (σ : es_S) : es_H σ = es_Hs es_SH σ := Classical.choose_spec es_Hex σ
def es_up (σ : es_S) (k j : Nat) (x : Int32) : es_S := fun a => if a = k then upd (σ k) j x else σ a
def es_arr (σ : es_S) (k : Nat) (f : Nat → Int32) : es_S := fun a => if a = k then f else σ a
theorem es_up_arr (σ : es_S) (k j : Nat) (x : Int32) : es_up σ k j x = es_arr σ k (upd (σ k) j x) := rfl
theorem es_up_eq (σ : es_S) (k j : Nat) (x : Int32) : es_up σ k j x k j = x := by simp [es_up, upd]
theorem es_up_ne (σ : es_S) (k j : Nat) (x : Int32) {j' : Nat} (h : j' ≠ j) : es_up σ k j x k j' = σ k j' := by simp [es_up, upd, h]
theorem es_up_off (σ : es_S) (k j : Nat) (x : Int32) {k' : Nat} (h : k' ≠ k) : es_up σ k j x k' = σ k' := by simp [es_up, h]
theorem es_get {σ : es_S} {k : Nat} {q : es_Sh} (hk : es_SH[k]? = some q) : (es_H σ)[k]? = some (es_cell q (σ k)) := by
  rw [es_Heq]
  simp only [es_Hs, List.getElem?_mapIdx, hk, Option.map_some]
theorem es_len (σ : es_S) : (es_H σ).length = es_SH.length := by rw [es_Heq]; unfold es_Hs; exact List.length_mapIdx
theorem es_set {σ : es_S} {k : Nat} {q : es_Sh} (hk : es_SH[k]? = some q) (f : Nat → Int32) : (es_H σ).set k (es_cell q f) = es_H (es_arr σ k f) := by
  apply List.ext_getElem?
  intro j
  rw [List.getElem?_set]
  have hl : k < (es_H σ).length := by rw [es_len]; exact (List.getElem?_eq_some_iff.mp hk).1
  by_cases hj : k = j
  · subst hj
    rw [if_pos rfl, if_pos hl, es_get hk]
    have e9 : es_arr σ k f k = f := if_pos rfl
    rw [e9]
  · rw [if_neg hj, es_Heq, es_Heq]
    simp only [es_Hs, List.getElem?_mapIdx]
    have e9 : es_arr σ k f j = σ j := if_neg (fun e => hj e.symm)
    rw [e9]
theorem es_fs_get {rs : List (Option Nat)} {f : Nat → Int32} {j : Nat} (h : rs[j]? = some none) : (es_fs rs f)[j]? = some (.int (f j)) := by
  simp [es_fs, h]
theorem es_fs_ref {rs : List (Option Nat)} {f : Nat → Int32} {j k : Nat} (h : rs[j]? = some (some k)) : (es_fs rs f)[j]? = some (.ref k) := by
  simp [es_fs, h]
theorem es_fs_set {rs : List (Option Nat)} {f : Nat → Int32} {j : Nat} (h : rs[j]? = some none) (x : Int32) : (es_fs rs f).set j (.int x) = es_fs rs (upd f j x) := by
  apply List.ext_getElem?
  intro i
  rw [List.getElem?_set]
  have hl : j < (es_fs rs f).length := by simp [es_fs, (List.getElem?_eq_some_iff.mp h).1]
  by_cases hj : j = i
  · subst hj
    rw [if_pos rfl, if_pos hl, es_fs_get h]
    simp [upd]
  · rw [if_neg hj]
    simp only [es_fs, List.getElem?_mapIdx, upd]
    cases rs[i]? with
    | none => rfl
    | some r =>
      cases r with
      | none => simp [Ne.symm hj]
      | some k => rfl
/-- how a method ends, in the steady world -/
def es_Q (R : Option Value → es_S → Prop) (T : Nat → es_S → Prop) : ez_R → Prop := fun r => ∃ σ : es_S, r.2 = es_H σ ∧ match r.1 with
  | .inl v => R v σ
  | .inr k => T k σ
def es_I (P : Int32 → es_S → Prop) : Option Value → es_S → Prop := fun v σ => ∃ x, v = some (.int x) ∧ P x σ
def es_V (P : es_S → Prop) : Option Value → es_S → Prop := fun v σ => v = none ∧ P σ
def es_P (P : Nat → es_S → Prop) : Option Value → es_S → Prop := fun v σ => ∃ k, v = some (.ref k) ∧ P k σ
def es_no : Nat → es_S → Prop := fun _ _ => False
section EsRows
variable {l : Launch} {G : ez_G} {X : ez_X} {uc us pc pc' tgt : Nat} {ls : List (Option Value)} {st : List Value} {σ : es_S} {Q : ez_R → Prop} {R : Option Value → es_S → Prop} {T : Nat → es_S → Prop}
theorem es_iald {k n : Nat} {i : Int32} (hd : ez_at X pc .iaload 1 pc') (hk : es_SH[k]? = some (.inl (.int, n))) (hin : vp_in i n) (kk : ez_Ev l G X uc us pc' ls (.int (σ k i.toNatClampNeg) :: st) (es_H σ) Q) : ez_Ev l G X uc us pc ls (.int i :: .ref k :: st) (es_H σ) Q :=
  ev_iald hd (es_get hk) hin kk
theorem es_zald {k n : Nat} {i : Int32} (hd : ez_at X pc .baload 1 pc') (hk : es_SH[k]? = some (.inl (.boolean, n))) (hin : vp_in i n) (kk : ez_Ev l G X uc us pc' ls (.int (σ k i.toNatClampNeg) :: st) (es_H σ) Q) : ez_Ev l G X uc us pc ls (.int i :: .ref k :: st) (es_H σ) Q :=
  ev_zald hd (es_get hk) hin kk
theorem es_lald {k n : Nat} {i : Int32} (hd : ez_at X pc .laload 1 pc') (hk : es_SH[k]? = some (.inl (.long, n))) (hin : vp_in i n) (kk : ez_Ev l G X uc us pc' ls (.long (σ k i.toNatClampNeg).toInt64 :: st) (es_H σ) Q) : ez_Ev l G X uc us pc ls (.int i :: .ref k :: st) (es_H σ) Q :=
  ev_lald hd (es_get hk) hin kk
theorem es_iast {k n : Nat} {i x : Int32} (hd : ez_at X pc .iastore 1 pc') (hk : es_SH[k]? = some (.inl (.int, n))) (hin : vp_in i n) (kk : ez_Ev l G X uc us pc' ls st (es_H (es_up σ k i.toNatClampNeg x)) Q) : ez_Ev l G X uc us pc ls (.int x :: .int i :: .ref k :: st) (es_H σ) Q := by
  refine ev_iast hd (es_get hk) hin ?_
  have e := es_set (σ := σ) hk (upd (σ k) i.toNatClampNeg x)
  have e2 : es_cell (.inl (.int, n)) (upd (σ k) i.toNatClampNeg x) = .inl (.int, (n, .inl (upd (σ k) i.toNatClampNeg x))) := rfl
  rw [e2] at e
  rw [e]
  exact kk
theorem es_zast {k n : Nat} {i x : Int32} (hd : ez_at X pc .bastore 1 pc') (hk : es_SH[k]? = some (.inl (.boolean, n))) (hin : vp_in i n) (kk : ez_Ev l G X uc us pc' ls st (es_H (es_up σ k i.toNatClampNeg (vp_nar .boolean x))) Q) : ez_Ev l G X uc us pc ls (.int x :: .int i :: .ref k :: st) (es_H σ) Q := by
  refine ev_zast hd (es_get hk) hin ?_
  have e := es_set (σ := σ) hk (upd (σ k) i.toNatClampNeg (vp_nar .boolean x))
  have e2 : es_cell (.inl (.boolean, n)) (upd (σ k) i.toNatClampNeg (vp_nar .boolean x)) = .inl (.boolean, (n, .inl (upd (σ k) i.toNatClampNeg (vp_nar .boolean x)))) := rfl
  rw [e2] at e
  rw [e]
  exact kk
theorem es_last {k n : Nat} {i x : Int32} (hd : ez_at X pc .lastore 1 pc') (hk : es_SH[k]? = some (.inl (.long, n))) (hin : vp_in i n) (kk : ez_Ev l G X uc us pc' ls st (es_H (es_up σ k i.toNatClampNeg x)) Q) : ez_Ev l G X uc us pc ls (.long x.toInt64 :: .int i :: .ref k :: st) (es_H σ) Q := by
  refine ev_last (f := fun j => (σ k j).toInt64) hd (es_get hk) hin ?_
  have e := es_set (σ := σ) hk (upd (σ k) i.toNatClampNeg x)
  have e2 : es_cell (.inl (.long, n)) (upd (σ k) i.toNatClampNeg x) = .inl (.long, (n, .inr (.inl (vp_updL (fun j => (σ k j).toInt64) i.toNatClampNeg x.toInt64)))) := by
    show (Sum.inl (.long, (n, .inr (.inl fun j => (upd (σ k) i.toNatClampNeg x j).toInt64))) : ez_Cell) = _
    have e3 : (fun j => (upd (σ k) i.toNatClampNeg x j).toInt64) = vp_updL (fun j => (σ k j).toInt64) i.toNatClampNeg x.toInt64 := by
      funext j
      simp only [upd, vp_updL]
      split <;> rfl
    rw [e3]
  rw [e2] at e
  rw [e]
  exact kk
theorem es_alen {k n : Nat} {v : Int32} (hd : ez_at X pc .arraylength 1 pc') (hk : es_SH[k]? = some (.inl (.int, n))) (hv : Int32.ofNat n = v) (kk : ez_Ev l G X uc us pc' ls (.int v :: st) (es_H σ) Q) : ez_Ev l G X uc us pc ls (.ref k :: st) (es_H σ) Q :=
  ev_alen hd (es_get hk) hv kk
theorem es_getI {index ci j k : Nat} {rs : List (Option Nat)} (hd : ez_at X pc (.getfield index) 3 pc') (hf : ez_fld X.1.cls index ci j) (hk : es_SH[k]? = some (.inr (ci, rs))) (hj : rs[j]? = some none) (kk : ez_Ev l G X uc us pc' ls (.int (σ k j) :: st) (es_H σ) Q) : ez_Ev l G X uc us pc ls (.ref k :: st) (es_H σ) Q :=
  ev_getf hd hf (es_get hk) (es_fs_get hj) kk
theorem es_getR {index ci j k r : Nat} {rs : List (Option Nat)} (hd : ez_at X pc (.getfield index) 3 pc') (hf : ez_fld X.1.cls index ci j) (hk : es_SH[k]? = some (.inr (ci, rs))) (hj : rs[j]? = some (some r)) (kk : ez_Ev l G X uc us pc' ls (.ref r :: st) (es_H σ) Q) : ez_Ev l G X uc us pc ls (.ref k :: st) (es_H σ) Q :=
  ev_getf hd hf (es_get hk) (es_fs_ref hj) kk
theorem es_putI {index ci j k : Nat} {x : Int32} {ty : FieldType} {rs : List (Option Nat)} (hd : ez_at X pc (.putfield index) 3 pc') (hf : ez_fld X.1.cls index ci j) (hty : ez_fty ci j false ty) (hk : es_SH[k]? = some (.inr (ci, rs))) (hj : rs[j]? = some none) (hn : narrow ty (.int x) = .int x ∧ fits ty (.int x) = true) (kk : ez_Ev l G X uc us pc' ls st (es_H (es_up σ k j x)) Q) : ez_Ev l G X uc us pc ls (.int x :: .ref k :: st) (es_H σ) Q := by
  refine ev_putf hd hf hty (es_get hk) (by simp [es_fs, (List.getElem?_eq_some_iff.mp hj).1]) (fun _ => hn) ?_
  rw [es_fs_set hj]
  have e := es_set (σ := σ) hk (upd (σ k) j x)
  have e2 : es_cell (.inr (ci, rs)) (upd (σ k) j x) = .inr (ci, es_fs rs (upd (σ k) j x)) := rfl
  rw [e2] at e
  rw [e]
  exact kk
theorem es_iret {v : Int32} (hd : ez_at X pc .ireturn 1 pc') (hr : X.2.2.2.1 = some .int) (hu : uc ≤ ez_mc X ∧ us ≤ ez_ms X) (hq : R (some (.int v)) σ) : ez_Ev l G X uc us pc ls [.int v] (es_H σ) (es_Q R T) := ev_iret hd hr hu ⟨σ, rfl, hq⟩
theorem es_zret {v : Int32} (hd : ez_at X pc .ireturn 1 pc') (hr : X.2.2.2.1 = some .boolean) (hn : narrow .boolean (.int v) = .int v) (hu : uc ≤ ez_mc X ∧ us ≤ ez_ms X) (hq : R (some (.int v)) σ) : ez_Ev l G X uc us pc ls [.int v] (es_H σ) (es_Q R T) := ev_zret hd hr hn hu ⟨σ, rfl, hq⟩
theorem es_vret (hd : ez_at X pc .return_ 1 pc') (hr : X.2.2.2.1 = none) (hu : uc ≤ ez_mc X ∧ us ≤ ez_ms X) (hq : R none σ) : ez_Ev l G X uc us pc ls [] (es_H σ) (es_Q R T) := ev_vret hd hr hu ⟨σ, rfl, hq⟩
theorem es_aret {k : Nat} {nm : String} (hd : ez_at X pc .areturn 1 pc') (hr : X.2.2.2.1 = some (.object nm)) (hu : uc ≤ ez_mc X ∧ us ≤ ez_ms X) (hq : R (some (.ref k)) σ) : ez_Ev l G X uc us pc ls [.ref k] (es_H σ) (es_Q R T) := ev_aret hd hr hu ⟨σ, rfl, hq⟩
/-- what a caller must know of a callee, by its link: a static one -/
def es_lkS (X Y : ez_X) (index n : Nat) : Prop := ez_ok Y n ∧ ez_link X.1.cls index Y.1 ∧ Cond.static Y.1 ∈ ez_T
/-- and one of an object -/
def es_lkV (X Y : ez_X) (index n ci : Nat) : Prop := ez_ok Y n ∧ ez_link X.1.cls index Y.1 ∧ Cond.instanceMethod Y.1 ∈ ez_T ∧ Cond.selects Y.1.cls Y.1 Y.1 ∈ ez_T ∧ ∃ (T0 : u_T) (N : Nat), ez_cl[ci]? = some (Y.1.cls, T0, N)
theorem es_calls {Y : ez_X} {n index : Nat} {as rest : List Value} {R' : Option Value → es_S → Prop} {T' : Nat → es_S → Prop} (hlk : es_lkS X Y index n) (hd : ez_at X pc (.invokestatic index) 3 pc') (hC : ez_Ct l G Y as (es_H σ) (es_Q R' T')) (hs : st = as.reverse ++ rest) (hn : as.length = n)
    (hroom : ez_fits X Y uc us) (hrest : (rest.map fun v => v.category).sum ≤ 8) (hX : ez_hs X = []) (hth : uc + ez_mc Y ≤ ez_mc X ∧ us + ez_ms Y ≤ ez_ms X)
    (kr : ∀ v σ', R' v σ' → ez_Ev l G X (uc + ez_mc Y) (us + ez_ms Y) pc' ls (v.toList ++ rest) (es_H σ') (es_Q R T))
    (kt : ∀ k σ', T' k σ' → T k σ') : ez_Ev l G X uc us pc ls st (es_H σ) (es_Q R T) := by
  refine ev_calls hlk.1 hlk.2.1 hlk.2.2 hd hC hs hn hroom hrest hX hth ?_ ?_
  · rintro v h' ⟨σ', e, hr⟩
    have e' : h' = es_H σ' := e
    subst e'
    refine ⟨?_, kr v σ' hr⟩
    rw [es_len, es_len]
    exact ez_still_eq _ _ _
  · rintro k h' ⟨σ', e, hr⟩
    have e' : h' = es_H σ' := e
    subst e'
    exact ⟨by rw [es_len, es_len], σ', rfl, kt k σ' hr⟩
theorem es_callv {Y : ez_X} {n index b ci : Nat} {as rest : List Value} {rs : List (Option Nat)} {R' : Option Value → es_S → Prop} {T' : Nat → es_S → Prop} (hlk : es_lkV X Y index n ci) (hd : ez_at X pc (.invokevirtual index) 3 pc') (hb : es_SH[b]? = some (.inr (ci, rs))) (hC : ez_Ct l G Y (.ref b :: as) (es_H σ) (es_Q R' T')) (hs : st = as.reverse ++ .ref b :: rest) (hn : as.length = n)
    (hroom : ez_fits X Y uc us) (hrest : (rest.map fun v => v.category).sum ≤ 8) (hX : ez_hs X = []) (hth : uc + ez_mc Y ≤ ez_mc X ∧ us + ez_ms Y ≤ ez_ms X)
    (kr : ∀ v σ', R' v σ' → ez_Ev l G X (uc + ez_mc Y) (us + ez_ms Y) pc' ls (v.toList ++ rest) (es_H σ') (es_Q R T))
    (kt : ∀ k σ', T' k σ' → T k σ') : ez_Ev l G X uc us pc ls st (es_H σ) (es_Q R T) := by
  obtain ⟨T0, N, hc⟩ := hlk.2.2.2.2
  refine ev_callv hlk.1 hlk.2.1 hlk.2.2.1 hlk.2.2.2.1 hd (es_get hb) hc hC hs hn hroom hrest hX hth ?_ ?_
  · rintro v h' ⟨σ', e, hr⟩
    have e' : h' = es_H σ' := e
    subst e'
    refine ⟨?_, kr v σ' hr⟩
    rw [es_len, es_len]
    exact ez_still_eq _ _ _
  · rintro k h' ⟨σ', e, hr⟩
    have e' : h' = es_H σ' := e
    subst e'
    exact ⟨by rw [es_len, es_len], σ', rfl, kt k σ' hr⟩
theorem es_callsI {Y : ez_X} {n index : Nat} {as rest : List Value} {P : Int32 → es_S → Prop} {T' : Nat → es_S → Prop} (hlk : es_lkS X Y index n) (hd : ez_at X pc (.invokestatic index) 3 pc') (hC : ez_Ct l G Y as (es_H σ) (es_Q (es_I P) T')) (hs : st = as.reverse ++ rest) (hn : as.length = n)
    (hroom : ez_fits X Y uc us) (hrest : (rest.map fun v => v.category).sum ≤ 8) (hX : ez_hs X = []) (hth : uc + ez_mc Y ≤ ez_mc X ∧ us + ez_ms Y ≤ ez_ms X)
    (kr : ∀ x σ', P x σ' → ez_Ev l G X (uc + ez_mc Y) (us + ez_ms Y) pc' ls (.int x :: rest) (es_H σ') (es_Q R T))
    (kt : ∀ k σ', T' k σ' → T k σ') : ez_Ev l G X uc us pc ls st (es_H σ) (es_Q R T) :=
  es_calls hlk hd hC hs hn hroom hrest hX hth (fun v σ' hv => by
    obtain ⟨x, rfl, hp⟩ := hv
    exact kr x σ' hp) kt
theorem es_callvI {Y : ez_X} {n index : Nat} {b ci : Nat} {rs : List (Option Nat)} {as rest : List Value} {P : Int32 → es_S → Prop} {T' : Nat → es_S → Prop} (hlk : es_lkV X Y index n ci) (hd : ez_at X pc (.invokevirtual index) 3 pc') (hb : es_SH[b]? = some (.inr (ci, rs))) (hC : ez_Ct l G Y (.ref b :: as) (es_H σ) (es_Q (es_I P) T')) (hs : st = as.reverse ++ .ref b :: rest) (hn : as.length = n)
    (hroom : ez_fits X Y uc us) (hrest : (rest.map fun v => v.category).sum ≤ 8) (hX : ez_hs X = []) (hth : uc + ez_mc Y ≤ ez_mc X ∧ us + ez_ms Y ≤ ez_ms X)
    (kr : ∀ x σ', P x σ' → ez_Ev l G X (uc + ez_mc Y) (us + ez_ms Y) pc' ls (.int x :: rest) (es_H σ') (es_Q R T))
    (kt : ∀ k σ', T' k σ' → T k σ') : ez_Ev l G X uc us pc ls st (es_H σ) (es_Q R T) :=
  es_callv hlk hd hb hC hs hn hroom hrest hX hth (fun v σ' hv => by
    obtain ⟨x, rfl, hp⟩ := hv
    exact kr x σ' hp) kt
theorem es_callsV {Y : ez_X} {n index : Nat} {as rest : List Value} {P : es_S → Prop} {T' : Nat → es_S → Prop} (hlk : es_lkS X Y index n) (hd : ez_at X pc (.invokestatic index) 3 pc') (hC : ez_Ct l G Y as (es_H σ) (es_Q (es_V P) T')) (hs : st = as.reverse ++ rest) (hn : as.length = n)
    (hroom : ez_fits X Y uc us) (hrest : (rest.map fun v => v.category).sum ≤ 8) (hX : ez_hs X = []) (hth : uc + ez_mc Y ≤ ez_mc X ∧ us + ez_ms Y ≤ ez_ms X)
    (kr : ∀ σ', P σ' → ez_Ev l G X (uc + ez_mc Y) (us + ez_ms Y) pc' ls rest (es_H σ') (es_Q R T))
    (kt : ∀ k σ', T' k σ' → T k σ') : ez_Ev l G X uc us pc ls st (es_H σ) (es_Q R T) :=
  es_calls hlk hd hC hs hn hroom hrest hX hth (fun v σ' hv => by
    obtain ⟨rfl, hp⟩ := hv
    exact kr σ' hp) kt
theorem es_callvV {Y : ez_X} {n index : Nat} {b ci : Nat} {rs : List (Option Nat)} {as rest : List Value} {P : es_S → Prop} {T' : Nat → es_S → Prop} (hlk : es_lkV X Y index n ci) (hd : ez_at X pc (.invokevirtual index) 3 pc') (hb : es_SH[b]? = some (.inr (ci, rs))) (hC : ez_Ct l G Y (.ref b :: as) (es_H σ) (es_Q (es_V P) T')) (hs : st = as.reverse ++ .ref b :: rest) (hn : as.length = n)
    (hroom : ez_fits X Y uc us) (hrest : (rest.map fun v => v.category).sum ≤ 8) (hX : ez_hs X = []) (hth : uc + ez_mc Y ≤ ez_mc X ∧ us + ez_ms Y ≤ ez_ms X)
    (kr : ∀ σ', P σ' → ez_Ev l G X (uc + ez_mc Y) (us + ez_ms Y) pc' ls rest (es_H σ') (es_Q R T))
    (kt : ∀ k σ', T' k σ' → T k σ') : ez_Ev l G X uc us pc ls st (es_H σ) (es_Q R T) :=
  es_callv hlk hd hb hC hs hn hroom hrest hX hth (fun v σ' hv => by
    obtain ⟨rfl, hp⟩ := hv
    exact kr σ' hp) kt
theorem es_callsP {Y : ez_X} {n index : Nat} {as rest : List Value} {P : Nat → es_S → Prop} {T' : Nat → es_S → Prop} (hlk : es_lkS X Y index n) (hd : ez_at X pc (.invokestatic index) 3 pc') (hC : ez_Ct l G Y as (es_H σ) (es_Q (es_P P) T')) (hs : st = as.reverse ++ rest) (hn : as.length = n)
    (hroom : ez_fits X Y uc us) (hrest : (rest.map fun v => v.category).sum ≤ 8) (hX : ez_hs X = []) (hth : uc + ez_mc Y ≤ ez_mc X ∧ us + ez_ms Y ≤ ez_ms X)
    (kr : ∀ x σ', P x σ' → ez_Ev l G X (uc + ez_mc Y) (us + ez_ms Y) pc' ls (.ref x :: rest) (es_H σ') (es_Q R T))
    (kt : ∀ k σ', T' k σ' → T k σ') : ez_Ev l G X uc us pc ls st (es_H σ) (es_Q R T) :=
  es_calls hlk hd hC hs hn hroom hrest hX hth (fun v σ' hv => by
    obtain ⟨x, rfl, hp⟩ := hv
    exact kr x σ' hp) kt
theorem es_callvP {Y : ez_X} {n index : Nat} {b ci : Nat} {rs : List (Option Nat)} {as rest : List Value} {P : Nat → es_S → Prop} {T' : Nat → es_S → Prop} (hlk : es_lkV X Y index n ci) (hd : ez_at X pc (.invokevirtual index) 3 pc') (hb : es_SH[b]? = some (.inr (ci, rs))) (hC : ez_Ct l G Y (.ref b :: as) (es_H σ) (es_Q (es_P P) T')) (hs : st = as.reverse ++ .ref b :: rest) (hn : as.length = n)
    (hroom : ez_fits X Y uc us) (hrest : (rest.map fun v => v.category).sum ≤ 8) (hX : ez_hs X = []) (hth : uc + ez_mc Y ≤ ez_mc X ∧ us + ez_ms Y ≤ ez_ms X)
    (kr : ∀ x σ', P x σ' → ez_Ev l G X (uc + ez_mc Y) (us + ez_ms Y) pc' ls (.ref x :: rest) (es_H σ') (es_Q R T))
    (kt : ∀ k σ', T' k σ' → T k σ') : ez_Ev l G X uc us pc ls st (es_H σ) (es_Q R T) :=
  es_callv hlk hd hb hC hs hn hroom hrest hX hth (fun v σ' hv => by
    obtain ⟨x, rfl, hp⟩ := hv
    exact kr x σ' hp) kt
end EsRows
end
section
/-! ===== making cells: new, newarray, final fields, Object's constructor ===== -/
section EzMake
variable {l : Launch} {G : ez_G} {X : ez_X} {uc us pc pc' : Nat} {ls : List (Option Value)} {st : List Value} {h : ez_H} {Q : ez_R → Prop}
def ez_oldc (n : Nat) (q : ez_Cell) : Bool := match q with
  | .inl _ => true
  | .inr o => o.2.all (ez_old n (n + 1))
def ez_oks (h : ez_H) (ls : List (Option Value)) (st : List Value) : Bool :=
  h.all (ez_oldc h.length) && (st.all (ez_old h.length (h.length + 1)) && ls.all (fun o => match o with | some v => ez_old h.length (h.length + 1) v | none => true))
def ez_adn (ad : Nat → Nat) (n q : Nat) : Nat → Nat := fun k => if k = n then q else ad k
theorem ez_adn_eq (ad : Nat → Nat) (n q : Nat) : ∀ k, ¬ (n ≤ k ∧ k < n + 1) → ez_adn ad n q k = ad k := fun k hk => if_neg (by omega)
theorem ez_ws_push (G : ez_G) (ad : Nat → Nat) (h : ez_H) (q : Nat) (cell : ez_Cell) (hok : h.all (ez_oldc h.length) = true) : ez_ws G (ez_adn ad h.length q) (h ++ [cell]) = ez_ws G ad h ++ [(q, ez_e G.2.1 (ez_adn ad h.length q) cell)] := by
  unfold ez_ws
  rw [List.mapIdx_append]
  congr 1
  · apply List.ext_getElem?
    intro j
    simp only [List.getElem?_mapIdx]
    cases hj : h[j]? with
    | none => rfl
    | some c =>
      simp only [Option.map_some]
      have hlt := (List.getElem?_eq_some_iff.mp hj).1
      have hc := List.all_eq_true.mp hok c (List.mem_of_getElem? hj)
      have e1 : ez_adn ad h.length q j = ad j := if_neg (by omega)
      have e2 : ez_e G.2.1 (ez_adn ad h.length q) c = ez_e G.2.1 ad c := by
        cases c with
        | inl a => rfl
        | inr o =>
          show (Sum.inr (o.1, o.2.map (ez_v (ez_adn ad h.length q))) : va_E) = Sum.inr (o.1, o.2.map (ez_v ad))
          rw [List.map_congr_left fun v hv => ez_old_eq (List.all_eq_true.mp hc v hv) (ez_adn_eq ad h.length q)]
      rw [e1, e2]
  · simp [ez_adn]
theorem ez_In_push {n : Nat} {p : Program} {s : State} {m : MethodId} {args : Array Value} {meth : Method} {c : Code} {A : Nat → Prop} {n0 : Nat} {ad0 ad : Nat → Nat} {H H1 : Heap} {locs : List Loc} {cells slots q : Nat} {cell : ez_Cell} {L : Array Slot}
    (I : ez_In G X uc us ls h p s m args meth c A n0 ad0 ad H locs cells slots L) (hok : ez_oks h ls st = true) (hlt : h.length < 900)
    (hP1 : va_P G.1 ez_cl (ez_ws G ad h ++ [(q, ez_e G.2.1 (ez_adn ad h.length q) cell)]) H1) (hD1 : va_D A (ez_ws G ad h ++ [(q, ez_e G.2.1 (ez_adn ad h.length q) cell)])) (hS1 : va_S A s.heap H1 locs) :
    ez_In G X (uc + 1) (us + n) ls (h ++ [cell]) p s m args meth c A n0 ad0 (ez_adn ad h.length q) H1 locs (cells + 1) (slots + n) L ∧ st.map (ez_v (ez_adn ad h.length q)) = st.map (ez_v ad) := by
  unfold ez_oks at hok
  simp only [Bool.and_eq_true] at hok
  obtain ⟨h1, h2, h3⟩ := hok
  obtain ⟨r1, r2⟩ := ez_still_of h2 h3 ad (ez_adn ad h.length q) (ez_adn_eq ad h.length q)
  obtain ⟨hctx, hA, ⟨hRo, hh9, had⟩, hn0, hag, hPw, hD, hS, hL, hc1, hs1⟩ := I
  have hlen : (h ++ [cell]).length = h.length + 1 := by simp
  refine ⟨⟨hctx, hA, ⟨hRo, by omega, fun k hk => by rw [ez_adn_eq ad h.length q k (by omega)]; exact had k hk⟩, by omega, fun k hk => ?_, by rw [ez_ws_push G ad h q cell h1]; exact hP1, by rw [ez_ws_push G ad h q cell h1]; exact hD1, hS1,
    ⟨hL.1, hL.2.1, fun i v hi => by rw [r2 i v hi]; exact hL.2.2 i v hi⟩, by omega, by omega⟩, r1⟩
  rw [hlen] at hk
  rw [ez_adn_eq ad h.length q k (by omega)]
  exact hag k (by omega)
def ez_mk (own : String) (index ci N : Nat) (fs : List Value) : Prop := ∃ (C : String) (T : u_T) (ty : Nat → FieldType), ez_cl[ci]? = some (C, T, N) ∧ (∀ w ∈ u_ws C T N, w ∈ ez_T) ∧ (∀ k, k < N → parseFieldDescriptor (T k).2.2.1 = some (ty k)) ∧
  Cond.classLink own index C ∈ ez_T ∧ Cond.instantiable C N ∈ ez_T ∧ Cond.initialized C ∈ ez_T ∧ (∀ j, j < N → defaultValue (ty j) = vp_V fs j) ∧ fs.all (fun v => match v with | .ref _ => false | _ => true) = true
theorem ez_norefs {fs : List Value} (hf : fs.all (fun v => match v with | .ref _ => false | _ => true) = true) (ad : Nat → Nat) : fs.map (ez_v ad) = fs := by
  have : ∀ v ∈ fs, ez_v ad v = v := fun v hv => by
    have := List.all_eq_true.mp hf v hv
    cases v <;> first | rfl | cases this
  rw [List.map_congr_left this, List.map_id']
theorem ev_new {index ci N : Nat} {fs : List Value} (hd : ez_at X pc (.new index) 3 pc') (hm : ez_mk X.1.cls index ci N fs) (hlt : h.length < 900) (b1 : uc + 1 ≤ ez_rc X) (b2 : us + N ≤ ez_rs X) (hok : ez_oks h ls st = true)
    (kk : ez_Ev l G X (uc + 1) (us + N) pc' ls (.ref h.length :: st) (h ++ [.inr (ci, fs)]) Q) : ez_Ev l G X uc us pc ls st h Q := by
  obtain ⟨hd, rfl⟩ := hd
  obtain ⟨C, T, ty, hc, hin, hty, hcl, hinst, hini, hfs, hnr⟩ := hm
  intro p e s m args below meth c A n0 ad0 ad H locs cells slots L I
  have hts := I.1.2.2.2.2.1
  have hc2 := I.2.2.2.2.2.2.2.2.2
  refine va_new I.1.1 I.1.2.1 hts hin ty hty I.1.2.2.2.1 (hts _ hcl) (hts _ hinst) (hts _ hini) I.1.2.2.2.2.2.2.2.2.1 I.2.2.2.2.2.1 I.2.2.2.2.2.2.1 I.2.2.2.2.2.2.2.1 I.2.1 hc hfs (by show cells + 1 ≤ ez_rc X; omega) (by show slots + N ≤ ez_rs X; omega) hd ?_
  intro q H1 hP1 hD1 hS1
  have e1 : (Sum.inr (ci, fs) : va_E) = ez_e G.2.1 (ez_adn ad h.length q) (.inr (ci, fs)) := by
    show _ = (Sum.inr (ci, fs.map (ez_v (ez_adn ad h.length q))) : va_E)
    rw [ez_norefs hnr]
  rw [e1] at hP1 hD1
  obtain ⟨I', r1⟩ := ez_In_push (st := st) I hok hlt hP1 hD1 hS1
  have := kk p e s m args below meth c A n0 ad0 (ez_adn ad h.length q) H1 locs (cells + 1) (slots + N) L I'
  rw [List.map_cons, r1] at this
  have e2 : ez_v (ez_adn ad h.length q) (.ref h.length) = .ref q := by simp [ez_v, ez_adn]
  rw [e2] at this
  exact this
theorem ez_cA {tys : List (ClassId × FieldType)} {D : va_G} {cl : List vw_C} {U : State} {c1 c2 : ClassId} {ty : FieldType} (hK : va_K D cl tys U) {i j : Nat} (h1 : tys[i]? = some (c1, ty)) (h2 : tys[j]? = some (c2, ty)) (hp : ty = .int ∨ ty = .boolean ∨ ty = .long) : c1 = c2 := by
  have a1 := (hK.2 i _ h1).2
  have a2 := (hK.2 j _ h2).2
  rcases hp with rfl | rfl | rfl <;> exact Option.some.inj (a1.symm.trans a2)
theorem ev_newa {atype : ArrayType} {ty : FieldType} {n : Int32} {N : Nat} {a0 : vp_A} (hd : ez_at X pc (.newarray atype) 2 pc') (harr : Cond.arrayClass (newarray.typeOf atype) ∈ ez_T) (hty : newarray.typeOf atype = ty) (hp : ty = .int ∨ ty = .boolean ∨ ty = .long) (ha : ∀ cA : ClassId, vp_cell cA a0 = arrV cA N (fun _ => defaultValue ty)) (hn : ¬ n < 0) (hN : n.toNatClampNeg = N) (hby : N * componentBytes ty ≤ 536870912)
    (hlt : h.length < 900) (b1 : uc + 1 ≤ ez_rc X) (b2 : us + N ≤ ez_rs X) (hok : ez_oks h ls st = true)
    (kk : ez_Ev l G X (uc + 1) (us + N) pc' ls (.ref h.length :: st) (h ++ [.inl (ty, a0)]) Q) : ez_Ev l G X uc us pc ls (.int n :: st) h Q := by
  obtain ⟨hd, rfl⟩ := hd
  intro p e s m args below meth c A n0 ad0 ad H locs cells slots L I
  have hts := I.1.2.2.2.2.1
  have hc2 := I.2.2.2.2.2.2.2.2.2
  refine va_newa I.1.1 I.1.2.1 (hts _ harr) hty I.1.2.2.2.2.2.2.2.2.1 I.2.2.2.2.2.1 I.2.2.2.2.2.2.1 I.2.2.2.2.2.2.2.1 I.2.1 ha hn hN hby (by show cells + 1 ≤ ez_rc X; omega) (by show slots + N ≤ ez_rs X; omega) hd ?_
  intro q cA H1 hK1 hP1 hD1 hS1
  have e0 : cA = G.2.1 ty := by
    have h2 : (ez_tys G ++ [(cA, ty)])[3]? = some (cA, ty) := rfl
    rcases hp with rfl | rfl | rfl
    · exact ez_cA hK1 (i := 3) (j := 0) h2 rfl (Or.inl rfl)
    · exact ez_cA hK1 (i := 3) (j := 1) h2 rfl (Or.inr (Or.inl rfl))
    · exact ez_cA hK1 (i := 3) (j := 2) h2 rfl (Or.inr (Or.inr rfl))
  subst e0
  obtain ⟨I', r1⟩ := ez_In_push (st := st) (cell := .inl (ty, a0)) I hok hlt hP1 hD1 hS1
  have := kk p e s m args below meth c A n0 ad0 (ez_adn ad h.length q) H1 locs (cells + 1) (slots + N) L I'
  rw [List.map_cons, r1] at this
  have e2 : ez_v (ez_adn ad h.length q) (.ref h.length) = .ref q := by simp [ez_v, ez_adn]
  rw [e2] at this
  exact this
theorem ev_putF {index ci j k : Nat} {fs : List Value} {v : Value} {ty : FieldType} (hd : ez_at X pc (.putfield index) 3 pc') (hf : ez_fld X.1.cls index ci j) (hfl : ∃ (T : u_T) (N : Nat), ez_cl[ci]? = some (X.1.cls, T, N) ∧ Cond.fieldLink X.1.cls index (T j).1 (T j).2.1 (T j).2.2.1 ∈ ez_T) (hX : X.1.name = "<init>") (hty : ez_fty ci j true ty) (hk : h[k]? = some (.inr (ci, fs))) (hl : j < fs.length) (hn : ∀ ad, narrow ty (ez_v ad v) = ez_v ad v ∧ fits ty (ez_v ad v) = true)
    (kk : ez_Ev l G X uc us pc' ls st (h.set k (.inr (ci, fs.set j v))) Q) : ez_Ev l G X uc us pc ls (v :: .ref k :: st) h Q := by
  obtain ⟨hd, rfl⟩ := hd
  obtain ⟨C, T, N, hc, hj, hin, -⟩ := hf
  obtain ⟨C', T', N', ty0, hc', ht0, hnm, hfin, hty, hC⟩ := hty
  cases hc.symm.trans hc'
  obtain ⟨T2, N2, hc2, hlk⟩ := hfl
  cases hc.symm.trans hc2
  intro p e s m args below meth c A n0 ad0 ad H locs cells slots L I
  have hlen : j < (fs.map (ez_v ad)).length := by rw [List.length_map]; exact hl
  refine va_putF I.1.1 I.1.2.1 I.1.2.2.2.2.1 hin ty0 ht0 hnm I.1.2.2.2.1 I.1.2.2.2.2.2.2.2.2.1 I.2.2.2.2.2.1 I.2.2.2.2.2.2.1 I.2.2.2.2.2.2.2.1 k (ez_ws_get G ad hk) hc j hj (I.1.2.2.2.2.1 _ hlk) (fun _ h => h) hfin (I.1.2.2.2.2.2.2.2.2.2.trans hX) hC hty (hn ad).1 (hn ad).2 hlen hd ?_
  intro H1 locs1 hP1 hD1 hS1
  rw [ez_e_set G.2.1] at hP1 hD1
  exact kk p e s m args below meth c A n0 ad0 ad H1 locs1 cells slots L (ez_In_set I hP1 hD1 hS1)
theorem ev_objInit {index k : Nat} (hd : ez_at X pc (.invokespecial index) 3 pc') (h1 : Cond.methodLink X.1.cls index Lib.objectInit ∈ ez_T) (h2 : Cond.instanceMethod Lib.objectInit ∈ ez_T) (h3 : Cond.code Lib.objectInit ⟨#[0xb1]⟩ 1 none ∈ ez_T) (hw : (st.map fun v => v.category).sum ≤ 8) (hf : 1 ≤ ez_fr X ∧ 20 ≤ ez_lo X)
    (kk : ez_Ev l G X uc us pc' ls st h Q) : ez_Ev l G X uc us pc ls (.ref k :: st) h Q := by
  obtain ⟨hd, rfl⟩ := hd
  intro p e s m args below meth c A n0 ad0 ad H locs cells slots L I
  have hts := I.1.2.2.2.2.1
  have hw' : ((st.map (ez_v ad)).map fun v => v.category).sum ≤ 8 := by
    have e1 : ((st.map (ez_v ad)).map fun v => v.category) = st.map fun v => v.category := by
      rw [List.map_map]
      exact List.map_congr_left fun v _ => ez_cat ad v
    rw [e1]
    exact hw
  exact W.objInit I.1.1 I.1.2.1 I.1.2.2.2.1 (hts _ h1) (hts _ h2) (hts _ h3) rfl (by rw [I.1.2.2.1]; exact I.2.2.2.2.2.2.2.2.1.1) rfl hd hf.1 (by show 2 * 0 + ((st.map (ez_v ad)).map fun v => v.category).sum + 12 ≤ ez_lo X; have := hf.2; omega) (kk p e s m args below meth c A n0 ad0 ad H locs cells slots L I)
end EzMake
end
section
/-! ===== throwing and catching ===== -/
section EzThrow
variable {l : Launch} {G : ez_G} {X : ez_X} {uc us pc pc' : Nat} {ls : List (Option Value)} {st : List Value} {h : ez_H} {Q : ez_R → Prop}
/-- 'throw new E("text")', E of kind k, at pc: the entries of its class, its text, its constructor -/
def ez_thr (X : ez_X) (pc k : Nat) : Prop := ∃ (ik is ic : Nat) (text : String),
  Cond.classLink X.1.cls ik (ez_exN k) ∈ ez_T ∧ Cond.initialized (ez_exN k) ∈ ez_T ∧ (X.1.cls, is, text) ∈ ez_str ∧ (∀ w ∈ vx_atS X.1.cls ic (ez_exN k) ["java/lang/RuntimeException", "java/lang/Exception"], w ∈ ez_T) ∧
  (∀ w ∈ Cond.classLink X.1.cls ik (ez_exN k) :: Cond.initialized (ez_exN k) :: vx_atS X.1.cls ic (ez_exN k) ["java/lang/RuntimeException", "java/lang/Exception"], vx_ot w = true) ∧
  Bundle.fit (ez_exN k) = true ∧ decode X.2.1 pc = .ok (.new ik, 3) ∧ decode X.2.1 (pc + 3) = .ok (.dup, 1) ∧ decode X.2.1 (pc + 4) = .ok (.ldc is, 2) ∧ decode X.2.1 (pc + 6) = .ok (.invokespecial ic, 3) ∧ decode X.2.1 (pc + 9) = .ok (.athrow, 1)
theorem ev_throw {k : Nat} (hl : l.stackTraces = false) (ht : ez_thr X pc k) (hX : ez_hs X = []) (hr : (6 ≤ ez_fr X ∧ 84 ≤ ez_lo X) ∧ uc + 1 ≤ ez_rc X ∧ us + 6 ≤ ez_rs X) (hm : uc ≤ ez_mc X ∧ us ≤ ez_ms X) (hst : st = []) (hq : Q (.inr k, h)) : ez_Ev l G X uc us pc ls st h Q := by
  subst hst
  obtain ⟨ik, is, ic, text, w1, w2, w3, w4, w5, w6, d0, d3, d4, d6, d9⟩ := ht
  intro p e s m args below meth c A n0 ad0 ad H locs cells slots L I
  obtain ⟨⟨hx, hb, hml, hown, hts, hret, hlk, hhand, hK, -⟩, hA, ⟨hRo, hh9, had⟩, hn0, hag, hPw, hD, hS, hL, hc1, hs1⟩ := I
  obtain ⟨sa, hsa⟩ := hRo.2.2.1 _ w3
  have hout : ∀ y ∈ c.exceptionTable.toList, covers y (pc + 9) = false := by
    rw [hX] at hhand
    rw [List.map_eq_nil_iff.mp hhand]
    intro y hy
    cases hy
  have k0 := vx_throwS (p := p) (l := l) (e := e) (R := ez_rm X) (s := s) (m := m) (args := args) (below := below) (meth := meth) (c := c) (H := H) (locs := locs) (cells := cells) (slots := slots) (ls := L) (rest := []) (mc := ez_mc X + 1) (ms := ez_ms X + 6) (free := A)
    (Qc := fun _ _ _ _ => False) (XC := fun E st t => E = ez_exN k ∧ H.size ≤ t.heap.size ∧ ∀ q : Nat, q < H.size → t.heap[q]? = H[q]?)
    hx hb hl hown w6 (by decide) (hts _ w1) (hts _ w2) hsa (fun w hw => hts w (w4 w hw)) w5 hRo.2.1.1 hRo.2.1.2 hS (by rw [hml]; exact hL.1) d0 d3 d4 d6 d9 hout
    (by show 2 + 3 < ez_fr X; omega) (by show 0 + (13 * (2 + 1) + 43) ≤ ez_lo X; omega) (by show cells + 1 ≤ ez_rc X; omega) (by show slots + 6 ≤ ez_rs X; omega) hlk (fun t _ h1 h2 => ⟨rfl, h1, h2⟩) hS.2.2 (by omega) (by omega)
  intro T hT S
  obtain ⟨t, a1, o, b1, b2, hq2⟩ := k0 T hT S
  rcases hq2 with ⟨hf, -⟩ | ⟨q, rfl, E, ce, Lc, ⟨rfl, f1, f2⟩, hce, hcv, hcl, hW, hsm, hLc⟩
  · exact hf.elim
  · have hkp : ∀ (j : Nat) (z : Nat × va_E), (ez_ws G ad h)[j]? = some z → t.heap[z.1]? = H[z.1]? := fun j z hz => f2 z.1 (hPw j z hz).lt
    refine ⟨t, a1, .threw q, b1, b2, ⟨(.inr k, h), ad, hq, ⟨hn0, hh9⟩, hag, fun j z hz => (hPw j z hz).kept (hkp j z hz), hD, q, ce, rfl, hce, hcv, by rw [hW.alike.findClass]; exact hcl⟩, ⟨Nat.le_trans hS.1 f1, fun q2 g1 g2 => by rw [f2 q2 (Nat.lt_of_lt_of_le g1 hS.1)]; exact hS.2.1 q2 g1 g2⟩, Lc, ⟨hW, hsm⟩, hLc⟩
/-- an exception of kind k is caught here by the handler at hp, whose first instruction stores it; rows: (from, to, handler, class's entry) -/
theorem ez_Th_catch {k hp i : Nat} {pre suf : List (Nat × Nat × Nat × Nat)} {x : Nat × Nat × Nat × Nat} (hX : ez_hs X = pre ++ x :: suf) (hpre : ∀ z ∈ pre, z.2.2.2 ≠ 0 ∧ k = 1 ∧ Cond.classLink X.1.cls z.2.2.2 "java/lang/IllegalArgumentException" ∈ ez_T) (hx : (x.1 ≤ pc ∧ pc < x.2.1) ∧ x.2.2.1 = hp ∧ x.2.2.2 ≠ 0)
    (hlink : Cond.classLink X.1.cls x.2.2.2 (ez_exN k) ∈ ez_T) (hcast : Cond.castable (ez_exN k) (ez_exN k) ∈ ez_T) (hi : i < X.2.2.1) (hd : (∃ f : Fin 4, decode X.2.1 hp = .ok (.astore_n f, 1) ∧ (f : Nat) = i ∧ hp + 1 = pc') ∨ (decode X.2.1 hp = .ok (.astore i, 2) ∧ hp + 2 = pc'))
    (kk : ez_Ev l G X uc us pc' (ls.set i none) [] h Q) : ez_Th l G X uc us pc ls h k Q := by
  intro p e s m args below meth c A n0 ad0 ad H locs cells slots L st q cell T I hc1 hc2 hc3 hT S
  have hts := I.1.2.2.2.2.1
  have hown := I.1.2.2.2.1
  have hhand := I.1.2.2.2.2.2.2.2.1
  rw [hX] at hhand
  obtain ⟨pre', r1, e1, e2, e3⟩ := List.map_eq_append_iff.mp hhand
  obtain ⟨x', suf', e4, e5, e6⟩ := List.map_eq_cons_iff.mp e3
  subst e4
  have hcov : covers x' pc = true := by
    have h1 := congrArg (fun z : Nat × Nat × Nat × Nat => z.1) e5
    have h2 := congrArg (fun z : Nat × Nat × Nat × Nat => z.2.1) e5
    dsimp only at h1 h2
    simp only [covers, Bool.and_eq_true, decide_eq_true_eq]
    omega
  have hct : x'.catchType = x.2.2.2 := congrArg (fun z : Nat × Nat × Nat × Nat => z.2.2.2) e5
  have hhp : x'.handlerPc = hp := (congrArg (fun z : Nat × Nat × Nat × Nat => z.2.2.1) e5).trans hx.2.1
  have hL0 : lv_has L X.2.2.1 (ez_lv ad ls) := ez_lv_has I.2.2.2.2.2.2.2.2.1
  have hput : ∀ (L' : Array Slot) (y : Nat), lv_has L' X.2.2.1 ((i, Value.ref y) :: (ez_lv ad ls).filter (fun q => !(q.1 == i) && !(q.1 + 1 == i && q.2.category == 2))) → ez_L ad X.2.2.1 (ls.set i none) L' := by
    intro L' y hl'
    refine ⟨hl'.1, hl'.2.1, fun j w hj => ?_⟩
    rw [List.getElem?_set] at hj
    by_cases hij : i = j
    · subst hij
      rw [if_pos rfl] at hj
      split at hj <;> cases hj
    · rw [if_neg hij] at hj
      have h1 := (I.2.2.2.2.2.2.2.2.1.2.2 j w hj).1
      refine ⟨h1, hl'.2.2 (j, ez_v ad w) (List.mem_cons_of_mem _ (List.mem_filter.mpr ⟨ez_lv_in hj, ?_⟩))⟩
      have h2 : ¬ (ez_v ad w).category = 2 := by rw [ez_cat, h1]; decide
      simp [h2, Ne.symm hij]
  have kw : W p l e (ez_rm X) s m args below meth c H locs cells slots (ez_MQ X below s A (ez_Fin G A n0 ad0 Q)) (F0 m x'.handlerPc L [.ref q]) := by
    rw [hhp]
    rcases hd with ⟨f, hd, hf, rfl⟩ | ⟨hd, rfl⟩
    · exact lv_astore_n I.1.1 I.1.2.1 hd hf hL0 hi rfl (fun L' hL' => kk p e s m args below meth c A n0 ad0 ad H locs cells slots L' (ez_In_ls I (hput L' q hL')))
    · exact lv_astore I.1.1 I.1.2.1 hd hL0 hi rfl (fun L' hL' => kk p e s m args below meth c A n0 ad0 ad H locs cells slots L' (ez_In_ls I (hput L' q hL')))
  have kc := vx_catch (E := ez_exN k) (name := ez_exN k) (ce := cell) (q := q) (rest := st) (pc := pc) (ls := L) hown pre' x' suf' e1 (fun z hz => ?_) hcov (by rw [hct]; exact hx.2.2) (by rw [hct]; exact hts _ hlink) (hts _ hcast) hc1 hc2 hc3 kw
  · exact kc T hT S
  · have hz2 : (z.startPc, z.endPc, z.handlerPc, z.catchType) ∈ pre := by
      rw [← e2]
      exact List.mem_map.mpr ⟨z, hz, rfl⟩
    obtain ⟨g1, g2, g3⟩ := hpre _ hz2
    subst g2
    exact Or.inr ⟨g1, _, hts _ g3, I.2.2.1.1.2.2.2.1⟩
end EzThrow
end
section
/-! ===== the methods ===== -/
def X_EE_init : ez_X := (⟨"EditionEqual", "<init>", "(I)V"⟩, prog_1_method_1_code, 2, none, [], (2, 44, 45, 6713, 45, 6713))
def X_EE_block : ez_X := (⟨"EditionEqual", "block", "(III)I"⟩, prog_1_method_2_code, 5, (some .int), [], (8, 125, 1, 6, 0, 0))
def X_EE_wire : ez_X := (⟨"EditionEqual", "wire", "(IIII)I"⟩, prog_1_method_3_code, 6, (some .int), [], (8, 125, 1, 6, 0, 0))
def X_EE_out : ez_X := (⟨"EditionEqual", "out", "(III)I"⟩, prog_1_method_4_code, 5, (some .int), [], (8, 125, 1, 6, 0, 0))
def X_EE_bar : ez_X := (⟨"EditionEqual", "bar", "(IZ)Z"⟩, prog_1_method_5_code, 5, (some .boolean), [], (7, 105, 1, 6, 0, 0))
def X_EE_wrong : ez_X := (⟨"EditionEqual", "wrong", "(I)I"⟩, prog_1_method_6_code, 2, (some .int), [], (8, 125, 1, 6, 0, 0))
def X_EE_value : ez_X := (⟨"EditionEqual", "value", "(IIII)I"⟩, prog_1_method_7_code, 5, (some .int), [], (9, 147, 1, 6, 0, 0))
def X_EE_tick : ez_X := (⟨"EditionEqual", "tick", "(III)I"⟩, prog_1_method_8_code, 5, (some .int), [], (9, 147, 1, 6, 0, 0))
def X_EE_reached : ez_X := (⟨"EditionEqual", "reached", "(I)I"⟩, prog_1_method_9_code, 2, (some .int), [], (9, 147, 1, 6, 0, 0))
def X_EE_state : ez_X := (⟨"EditionEqual", "state", "(II)I"⟩, prog_1_method_10_code, 3, (some .int), [], (9, 147, 1, 6, 0, 0))
def X_EE_least : ez_X := (⟨"EditionEqual", "least", "(I)I"⟩, prog_1_method_11_code, 2, (some .int), [], (9, 147, 1, 6, 0, 0))
def X_EE_compare : ez_X := (⟨"EditionEqual", "compare", "()I"⟩, prog_1_method_12_code, 1, (some .int), [], (8, 136, 1, 6, 0, 0))
def X_EE_shown : ez_X := (⟨"EditionEqual", "shown", "(I)I"⟩, prog_1_method_13_code, 3, (some .int), [], (8, 136, 1, 6, 0, 0))
def X_EE_last : ez_X := (⟨"EditionEqual", "last", "(I)I"⟩, prog_1_method_14_code, 2, (some .int), [], (8, 136, 1, 6, 0, 0))
def X_EE_pairs : ez_X := (⟨"EditionEqual", "pairs", "()I"⟩, prog_1_method_15_code, 1, (some .int), [], (8, 136, 1, 6, 0, 0))
def X_EE_same : ez_X := (⟨"EditionEqual", "same", "()Z"⟩, prog_1_method_16_code, 1, (some .boolean), [], (7, 113, 1, 6, 0, 0))
def X_EE_matched : ez_X := (⟨"EditionEqual", "matched", "(I)I"⟩, prog_1_method_17_code, 2, (some .int), [], (7, 113, 1, 6, 0, 0))
def X_EE_idle : ez_X := (⟨"EditionEqual", "idle", "(II)I"⟩, prog_1_method_18_code, 4, (some .int), [], (8, 125, 1, 6, 0, 0))
def X_EE_blocks : ez_X := (⟨"EditionEqual", "blocks", "(I)I"⟩, prog_1_method_19_code, 2, (some .int), [], (8, 125, 1, 6, 0, 0))
def X_EE_editionOf : ez_X := (⟨"EditionEqual", "editionOf", "(I)LEditionEqual$Edition;"⟩, prog_1_method_20_code, 2, (some (.object "EditionEqual$Edition")), [], (7, 104, 1, 6, 0, 0))
def X_EE_behaviourOf : ez_X := (⟨"EditionEqual", "behaviourOf", "(I)LEditionEqual$Behaviour;"⟩, prog_1_method_21_code, 3, (some (.object "EditionEqual$Behaviour")), [], (8, 125, 1, 6, 0, 0))
def X_EE_searchOfBoth : ez_X := (⟨"EditionEqual", "searchOfBoth", "()LEditionEqual$PairSearch;"⟩, prog_1_method_22_code, 1, (some (.object "EditionEqual$PairSearch")), [], (7, 116, 1, 6, 0, 0))
def X_EE_forgetAnswers : ez_X := (⟨"EditionEqual", "forgetAnswers", "()V"⟩, prog_1_method_23_code, 1, none, [], (1, 20, 0, 0, 0, 0))
def X_EE_openRows : ez_X := (⟨"EditionEqual", "openRows", "()I"⟩, prog_1_method_24_code, 1, (some .int), [], (0, 0, 0, 0, 0, 0))
def X_EE_isNumberOfKind : ez_X := (⟨"EditionEqual", "isNumberOfKind", "(II)Z"⟩, prog_1_method_25_code, 3, (some .boolean), [], (1, 21, 0, 0, 0, 0))
def X_EE_checkRow : ez_X := (⟨"EditionEqual", "checkRow", "(I)V"⟩, prog_1_method_26_code, 2, none, [], (6, 84, 1, 6, 0, 0))
def X_EE_checkBothRight : ez_X := (⟨"EditionEqual", "checkBothRight", "()V"⟩, prog_1_method_27_code, 1, none, [], (6, 85, 1, 6, 0, 0))
def X_EE_checkEdition : ez_X := (⟨"EditionEqual", "checkEdition", "(I)V"⟩, prog_1_method_28_code, 1, none, [], (6, 84, 1, 6, 0, 0))
def X_EE_checkBlock : ez_X := (⟨"EditionEqual", "checkBlock", "(LEditionEqual$Edition;I)V"⟩, prog_1_method_29_code, 2, none, [], (6, 84, 1, 6, 0, 0))
def X_EE_isWithin : ez_X := (⟨"EditionEqual", "isWithin", "(II)Z"⟩, prog_1_method_30_code, 2, (some .boolean), [], (0, 0, 0, 0, 0, 0))
def X_EE_bitOf : ez_X := (⟨"EditionEqual", "bitOf", "(I)I"⟩, prog_1_method_31_code, 1, (some .int), [], (0, 0, 0, 0, 0, 0))
def X_EE_holds : ez_X := (⟨"EditionEqual", "holds", "(II)Z"⟩, prog_1_method_32_code, 2, (some .boolean), [], (0, 0, 0, 0, 0, 0))
def X_MD_init : ez_X := (⟨"EditionEqualModel", "<init>", "(I)V"⟩, prog_7_method_1_code, 3, none, [], (1, 22, 17, 7048, 17, 7048))
def X_MD_thrown : ez_X := (⟨"EditionEqualModel", "thrown", "()I"⟩, prog_7_method_2_code, 1, (some .int), [], (0, 0, 0, 0, 0, 0))
def X_MD_in : ez_X := (⟨"EditionEqualModel", "in", "(III)Z"⟩, prog_7_method_3_code, 3, (some .boolean), [], (0, 0, 0, 0, 0, 0))
def X_MD_goes : ez_X := (⟨"EditionEqualModel", "goes", "(ZZ)Z"⟩, prog_7_method_4_code, 3, (some .boolean), [], (0, 0, 0, 0, 0, 0))
def X_MD_isBlock : ez_X := (⟨"EditionEqualModel", "isBlock", "(II)Z"⟩, prog_7_method_5_code, 3, (some .boolean), [], (1, 22, 0, 0, 0, 0))
def X_MD_isRow : ez_X := (⟨"EditionEqualModel", "isRow", "(I)Z"⟩, prog_7_method_6_code, 2, (some .boolean), [], (1, 22, 0, 0, 0, 0))
def X_MD_needs : ez_X := (⟨"EditionEqualModel", "needs", "(I)I"⟩, prog_7_method_7_code, 1, (some .int), [], (0, 0, 0, 0, 0, 0))
def X_MD_input : ez_X := (⟨"EditionEqualModel", "input", "(III)I"⟩, prog_7_method_8_code, 4, (some .int), [], (0, 0, 0, 0, 0, 0))
def X_MD_delays : ez_X := (⟨"EditionEqualModel", "delays", "(I)I"⟩, prog_7_method_9_code, 4, (some .int), [], (0, 0, 0, 0, 0, 0))
def X_MD_block : ez_X := (⟨"EditionEqualModel", "block", "(III)I"⟩, prog_7_method_10_code, 6, (some .int), [], (1, 23, 0, 0, 0, 0))
def X_MD_wire : ez_X := (⟨"EditionEqualModel", "wire", "(IIII)I"⟩, prog_7_method_11_code, 7, (some .int), [], (2, 44, 0, 0, 0, 0))
def X_MD_out : ez_X := (⟨"EditionEqualModel", "out", "(III)I"⟩, prog_7_method_12_code, 5, (some .int), [], (2, 44, 0, 0, 0, 0))
def X_MD_bar : ez_X := (⟨"EditionEqualModel", "bar", "(IZ)Z"⟩, prog_7_method_13_code, 4, (some .boolean), [], (2, 43, 0, 0, 0, 0))
def X_MD_isRound : ez_X := (⟨"EditionEqualModel", "isRound", "(II)Z"⟩, prog_7_method_14_code, 5, (some .boolean), [], (2, 49, 0, 0, 0, 0))
def X_MD_mark : ez_X := (⟨"EditionEqualModel", "mark", "(II)Z"⟩, prog_7_method_15_code, 7, (some .boolean), [], (1, 23, 0, 0, 0, 0))
def X_MD_fault : ez_X := (⟨"EditionEqualModel", "fault", "(I)I"⟩, prog_7_method_16_code, 4, (some .int), [], (3, 73, 0, 0, 0, 0))
def X_MD_wrong : ez_X := (⟨"EditionEqualModel", "wrong", "(I)I"⟩, prog_7_method_17_code, 2, (some .int), [], (4, 96, 0, 0, 0, 0))
def X_MD_isRight : ez_X := (⟨"EditionEqualModel", "isRight", "(I)Z"⟩, prog_7_method_18_code, 2, (some .boolean), [], (4, 96, 0, 0, 0, 0))
def X_MD_areRight : ez_X := (⟨"EditionEqualModel", "areRight", "()Z"⟩, prog_7_method_19_code, 1, (some .boolean), [], (5, 117, 0, 0, 0, 0))
def X_MD_settle : ez_X := (⟨"EditionEqualModel", "settle", "(III)V"⟩, prog_7_method_20_code, 7, none, [], (2, 48, 0, 0, 0, 0))
def X_MD_reckon : ez_X := (⟨"EditionEqualModel", "reckon", "(II)I"⟩, prog_7_method_21_code, 6, (some .int), [], (1, 23, 0, 0, 0, 0))
def X_MD_answer : ez_X := (⟨"EditionEqualModel", "answer", "(III)I"⟩, prog_7_method_22_code, 7, (some .int), [], (3, 74, 0, 0, 0, 0))
def X_MD_value : ez_X := (⟨"EditionEqualModel", "value", "(IIII)I"⟩, prog_7_method_23_code, 5, (some .int), [], (5, 117, 0, 0, 0, 0))
def X_MD_tick : ez_X := (⟨"EditionEqualModel", "tick", "(III)I"⟩, prog_7_method_24_code, 4, (some .int), [], (5, 117, 0, 0, 0, 0))
def X_MD_explore : ez_X := (⟨"EditionEqualModel", "explore", "(I)V"⟩, prog_7_method_25_code, 7, none, [], (4, 100, 0, 0, 0, 0))
def X_MD_reachedCount : ez_X := (⟨"EditionEqualModel", "reachedCount", "(I)I"⟩, prog_7_method_26_code, 4, (some .int), [], (0, 0, 0, 0, 0, 0))
def X_MD_reached : ez_X := (⟨"EditionEqualModel", "reached", "(I)I"⟩, prog_7_method_27_code, 2, (some .int), [], (5, 126, 0, 0, 0, 0))
def X_MD_state : ez_X := (⟨"EditionEqualModel", "state", "(II)I"⟩, prog_7_method_28_code, 5, (some .int), [], (5, 126, 0, 0, 0, 0))
def X_MD_tells : ez_X := (⟨"EditionEqualModel", "tells", "(III)Z"⟩, prog_7_method_29_code, 8, (some .boolean), [], (0, 0, 0, 0, 0, 0))
def X_MD_least : ez_X := (⟨"EditionEqualModel", "least", "(I)I"⟩, prog_7_method_30_code, 8, (some .int), [], (5, 126, 0, 0, 0, 0))
def X_MD_meet : ez_X := (⟨"EditionEqualModel", "meet", "(III)V"⟩, prog_7_method_31_code, 4, none, [], (0, 0, 0, 0, 0, 0))
def X_MD_goOver : ez_X := (⟨"EditionEqualModel", "goOver", "()V"⟩, prog_7_method_32_code, 5, none, [], (5, 126, 0, 0, 0, 0))
def X_MD_shownCount : ez_X := (⟨"EditionEqualModel", "shownCount", "()I"⟩, prog_7_method_33_code, 3, (some .int), [], (0, 0, 0, 0, 0, 0))
def X_MD_compare : ez_X := (⟨"EditionEqualModel", "compare", "()I"⟩, prog_7_method_34_code, 1, (some .int), [], (6, 150, 0, 0, 0, 0))
def X_MD_shown : ez_X := (⟨"EditionEqualModel", "shown", "(I)I"⟩, prog_7_method_35_code, 6, (some .int), [], (6, 150, 0, 0, 0, 0))
def X_MD_last : ez_X := (⟨"EditionEqualModel", "last", "(I)I"⟩, prog_7_method_36_code, 3, (some .int), [], (6, 150, 0, 0, 0, 0))
def X_MD_pairs : ez_X := (⟨"EditionEqualModel", "pairs", "()I"⟩, prog_7_method_37_code, 1, (some .int), [], (6, 150, 0, 0, 0, 0))
def X_MD_areSame : ez_X := (⟨"EditionEqualModel", "areSame", "()Z"⟩, prog_7_method_38_code, 8, (some .boolean), [], (1, 25, 0, 0, 0, 0))
def X_MD_areSingle : ez_X := (⟨"EditionEqualModel", "areSingle", "()Z"⟩, prog_7_method_39_code, 6, (some .boolean), [], (0, 0, 0, 0, 0, 0))
def X_MD_same : ez_X := (⟨"EditionEqualModel", "same", "()Z"⟩, prog_7_method_40_code, 1, (some .boolean), [], (6, 137, 0, 0, 0, 0))
def X_MD_matched : ez_X := (⟨"EditionEqualModel", "matched", "(I)I"⟩, prog_7_method_41_code, 4, (some .int), [], (6, 137, 0, 0, 0, 0))
def X_MD_idle : ez_X := (⟨"EditionEqualModel", "idle", "(II)I"⟩, prog_7_method_42_code, 7, (some .int), [], (1, 23, 0, 0, 0, 0))
def X_MD_blocks : ez_X := (⟨"EditionEqualModel", "blocks", "(I)I"⟩, prog_7_method_43_code, 2, (some .int), [], (1, 22, 0, 0, 0, 0))
def X_BH_init : ez_X := (⟨"EditionEqual$Behaviour", "<init>", "(LEditionEqual$Edition;)V"⟩, prog_2_method_1_code, 2, none, [], (1, 22, 8, 1560, 8, 1560))
def X_BH_forget : ez_X := (⟨"EditionEqual$Behaviour", "forget", "()V"⟩, prog_2_method_2_code, 1, none, [], (0, 0, 0, 0, 0, 0))
def X_BH_learn : ez_X := (⟨"EditionEqual$Behaviour", "learn", "(II)V"⟩, prog_2_method_3_code, 4, none, [], (4, 93, 0, 0, 0, 0))
def X_BH_valueOf : ez_X := (⟨"EditionEqual$Behaviour", "valueOf", "(III)I"⟩, prog_2_method_4_code, 4, (some .int), [], (2, 44, 0, 0, 0, 0))
def X_BH_outsOf : ez_X := (⟨"EditionEqual$Behaviour", "outsOf", "(II)I"⟩, prog_2_method_5_code, 3, (some .int), [], (1, 22, 0, 0, 0, 0))
def X_BH_stateAfter : ez_X := (⟨"EditionEqual$Behaviour", "stateAfter", "(II)I"⟩, prog_2_method_6_code, 3, (some .int), [], (1, 22, 0, 0, 0, 0))
def X_BH_countReached : ez_X := (⟨"EditionEqual$Behaviour", "countReached", "()I"⟩, prog_2_method_7_code, 1, (some .int), [], (1, 20, 0, 0, 0, 0))
def X_BH_reachedAt : ez_X := (⟨"EditionEqual$Behaviour", "reachedAt", "(I)I"⟩, prog_2_method_8_code, 4, (some .int), [], (1, 21, 0, 0, 0, 0))
def X_BH_placeOf : ez_X := (⟨"EditionEqual$Behaviour", "placeOf", "(II)I"⟩, prog_2_method_9_code, 3, (some .int), [], (0, 0, 0, 0, 0, 0))
def X_BH_orderBlocks : ez_X := (⟨"EditionEqual$Behaviour", "orderBlocks", "()V"⟩, prog_2_method_10_code, 5, none, [], (2, 42, 0, 0, 0, 0))
def X_BH_fillColumns : ez_X := (⟨"EditionEqual$Behaviour", "fillColumns", "(I)V"⟩, prog_2_method_11_code, 4, none, [], (3, 69, 0, 0, 0, 0))
def X_BH_workOutColumn : ez_X := (⟨"EditionEqual$Behaviour", "workOutColumn", "(II)I"⟩, prog_2_method_12_code, 6, (some .int), [], (2, 44, 0, 0, 0, 0))
def X_BH_columnAt : ez_X := (⟨"EditionEqual$Behaviour", "columnAt", "(II)I"⟩, prog_2_method_13_code, 4, (some .int), [], (1, 21, 0, 0, 0, 0))
def X_BH_fillTicks : ez_X := (⟨"EditionEqual$Behaviour", "fillTicks", "(I)V"⟩, prog_2_method_14_code, 7, none, [], (3, 67, 0, 0, 0, 0))
def X_BH_findReached : ez_X := (⟨"EditionEqual$Behaviour", "findReached", "(I)V"⟩, prog_2_method_15_code, 6, none, [], (2, 44, 0, 0, 0, 0))
def X_BH_countClasses : ez_X := (⟨"EditionEqual$Behaviour", "countClasses", "(I)I"⟩, prog_2_method_16_code, 7, (some .int), [], (4, 110, 0, 0, 0, 0))
def X_BH_partByOuts : ez_X := (⟨"EditionEqual$Behaviour", "partByOuts", "(I)I"⟩, prog_2_method_17_code, 3, (some .int), [], (3, 87, 0, 0, 0, 0))
def X_BH_partByNextClass : ez_X := (⟨"EditionEqual$Behaviour", "partByNextClass", "(I)I"⟩, prog_2_method_18_code, 4, (some .int), [], (3, 87, 0, 0, 0, 0))
def X_BH_partByKeys : ez_X := (⟨"EditionEqual$Behaviour", "partByKeys", "()I"⟩, prog_2_method_19_code, 4, (some .int), [], (2, 64, 0, 0, 0, 0))
def X_BH_firstLike : ez_X := (⟨"EditionEqual$Behaviour", "firstLike", "(I)I"⟩, prog_2_method_20_code, 4, (some .int), [], (1, 21, 0, 0, 0, 0))
def X_ED_init : ez_X := (⟨"EditionEqual$Edition", "<init>", "()V"⟩, prog_3_method_1_code, 1, none, [], (1, 23, 8, 176, 8, 176))
def X_ED_hasRoomFor : ez_X := (⟨"EditionEqual$Edition", "hasRoomFor", "(I)Z"⟩, prog_3_method_2_code, 2, (some .boolean), [], (0, 0, 0, 0, 0, 0))
def X_ED_addBlock : ez_X := (⟨"EditionEqual$Edition", "addBlock", "(II)I"⟩, prog_3_method_3_code, 4, (some .int), [], (1, 21, 0, 0, 0, 0))
def X_ED_countNeeded : ez_X := (⟨"EditionEqual$Edition", "countNeeded", "(I)I"⟩, prog_3_method_4_code, 1, (some .int), [], (0, 0, 0, 0, 0, 0))
def X_ED_rewire : ez_X := (⟨"EditionEqual$Edition", "rewire", "(III)I"⟩, prog_3_method_5_code, 5, (some .int), [], (2, 44, 0, 0, 0, 0))
def X_ED_changeOutput : ez_X := (⟨"EditionEqual$Edition", "changeOutput", "(II)I"⟩, prog_3_method_6_code, 4, (some .int), [], (2, 42, 0, 0, 0, 0))
def X_ED_countBlocks : ez_X := (⟨"EditionEqual$Edition", "countBlocks", "()I"⟩, prog_3_method_7_code, 1, (some .int), [], (0, 0, 0, 0, 0, 0))
def X_ED_countDelays : ez_X := (⟨"EditionEqual$Edition", "countDelays", "()I"⟩, prog_3_method_8_code, 1, (some .int), [], (0, 0, 0, 0, 0, 0))
def X_ED_hasBlock : ez_X := (⟨"EditionEqual$Edition", "hasBlock", "(I)Z"⟩, prog_3_method_9_code, 2, (some .boolean), [], (0, 0, 0, 0, 0, 0))
def X_ED_hasBlockOrNone : ez_X := (⟨"EditionEqual$Edition", "hasBlockOrNone", "(I)Z"⟩, prog_3_method_10_code, 2, (some .boolean), [], (1, 21, 0, 0, 0, 0))
def X_ED_kindOf : ez_X := (⟨"EditionEqual$Edition", "kindOf", "(I)I"⟩, prog_3_method_11_code, 2, (some .int), [], (1, 21, 0, 0, 0, 0))
def X_ED_numberOf : ez_X := (⟨"EditionEqual$Edition", "numberOf", "(I)I"⟩, prog_3_method_12_code, 2, (some .int), [], (1, 21, 0, 0, 0, 0))
def X_ED_outputAt : ez_X := (⟨"EditionEqual$Edition", "outputAt", "(I)I"⟩, prog_3_method_13_code, 2, (some .int), [], (1, 21, 0, 0, 0, 0))
def X_ED_delayAt : ez_X := (⟨"EditionEqual$Edition", "delayAt", "(I)I"⟩, prog_3_method_14_code, 2, (some .int), [], (1, 21, 0, 0, 0, 0))
def X_ED_neededAt : ez_X := (⟨"EditionEqual$Edition", "neededAt", "(II)I"⟩, prog_3_method_15_code, 4, (some .int), [], (1, 21, 0, 0, 0, 0))
def X_ED_neededInTick : ez_X := (⟨"EditionEqual$Edition", "neededInTick", "(I)I"⟩, prog_3_method_16_code, 2, (some .int), [], (1, 21, 0, 0, 0, 0))
def X_ED_firstFault : ez_X := (⟨"EditionEqual$Edition", "firstFault", "()I"⟩, prog_3_method_17_code, 2, (some .int), [], (3, 64, 0, 0, 0, 0))
def X_ED_firstUnwired : ez_X := (⟨"EditionEqual$Edition", "firstUnwired", "()I"⟩, prog_3_method_18_code, 3, (some .int), [], (0, 0, 0, 0, 0, 0))
def X_ED_firstComingBack : ez_X := (⟨"EditionEqual$Edition", "firstComingBack", "()I"⟩, prog_3_method_19_code, 3, (some .int), [], (2, 42, 0, 0, 0, 0))
def X_ED_idleAt : ez_X := (⟨"EditionEqual$Edition", "idleAt", "(I)I"⟩, prog_3_method_20_code, 5, (some .int), [], (2, 46, 0, 0, 0, 0))
def X_ED_liveBlocks : ez_X := (⟨"EditionEqual$Edition", "liveBlocks", "()I"⟩, prog_3_method_21_code, 6, (some .int), [], (1, 21, 0, 0, 0, 0))
def X_MT_init : ez_X := (⟨"EditionEqual$Matching", "<init>", "(LEditionEqual$Edition;LEditionEqual$Edition;)V"⟩, prog_4_method_1_code, 3, none, [], (1, 22, 3, 72, 3, 72))
def X_MT_matchAll : ez_X := (⟨"EditionEqual$Matching", "matchAll", "()Z"⟩, prog_4_method_2_code, 5, (some .boolean), [], (4, 89, 0, 0, 0, 0))
def X_MT_partnerOf : ez_X := (⟨"EditionEqual$Matching", "partnerOf", "(I)I"⟩, prog_4_method_3_code, 2, (some .int), [], (1, 21, 0, 0, 0, 0))
def X_MT_matchBoth : ez_X := (⟨"EditionEqual$Matching", "matchBoth", "(II)Z"⟩, prog_4_method_4_code, 4, (some .boolean), [], (3, 66, 0, 0, 0, 0))
def X_MT_areOfOneSort : ez_X := (⟨"EditionEqual$Matching", "areOfOneSort", "(II)Z"⟩, prog_4_method_5_code, 5, (some .boolean), [], (2, 42, 0, 0, 0, 0))
def X_PS_init : ez_X := (⟨"EditionEqual$PairSearch", "<init>", "(LEditionEqual$Behaviour;LEditionEqual$Behaviour;)V"⟩, prog_5_method_1_code, 3, none, [], (1, 22, 4, 3104, 4, 3104))
def X_PS_forget : ez_X := (⟨"EditionEqual$PairSearch", "forget", "()V"⟩, prog_5_method_2_code, 1, none, [], (0, 0, 0, 0, 0, 0))
def X_PS_learn : ez_X := (⟨"EditionEqual$PairSearch", "learn", "(I)V"⟩, prog_5_method_3_code, 3, none, [], (3, 71, 0, 0, 0, 0))
def X_PS_countPairs : ez_X := (⟨"EditionEqual$PairSearch", "countPairs", "()I"⟩, prog_5_method_4_code, 1, (some .int), [], (0, 0, 0, 0, 0, 0))
def X_PS_countShown : ez_X := (⟨"EditionEqual$PairSearch", "countShown", "()I"⟩, prog_5_method_5_code, 1, (some .int), [], (0, 0, 0, 0, 0, 0))
def X_PS_shownRow : ez_X := (⟨"EditionEqual$PairSearch", "shownRow", "(I)I"⟩, prog_5_method_6_code, 4, (some .int), [], (0, 0, 0, 0, 0, 0))
def X_PS_lastOuts : ez_X := (⟨"EditionEqual$PairSearch", "lastOuts", "(I)I"⟩, prog_5_method_7_code, 2, (some .int), [], (0, 0, 0, 0, 0, 0))
def X_PS_goOnFrom : ez_X := (⟨"EditionEqual$PairSearch", "goOnFrom", "(II)V"⟩, prog_5_method_8_code, 6, none, [], (2, 46, 0, 0, 0, 0))
def X_PS_meet : ez_X := (⟨"EditionEqual$PairSearch", "meet", "(IIII)V"⟩, prog_5_method_9_code, 6, none, [], (1, 21, 0, 0, 0, 0))
def X_PS_keepShown : ez_X := (⟨"EditionEqual$PairSearch", "keepShown", "(II)V"⟩, prog_5_method_10_code, 4, none, [], (0, 0, 0, 0, 0, 0))
def X_LW_cell : ez_X := (⟨"EditionEqualLaw", "cell", "([II)I"⟩, method_2_code, 2, (some .int), [], (0, 0, 0, 0, 0, 0))
def X_LW_block : ez_X := (⟨"EditionEqualLaw", "block", "(LEditionEqual;III[J)I"⟩, method_3_code, 6, (some .int), [(0, 12, 15, 13), (0, 12, 19, 15)], (9, 149, 1, 6, 1, 6))
def X_LW_wire : ez_X := (⟨"EditionEqualLaw", "wire", "(LEditionEqual;IIII[J)I"⟩, method_4_code, 7, (some .int), [(0, 14, 17, 13)], (9, 150, 1, 6, 1, 6))
def X_LW_out : ez_X := (⟨"EditionEqualLaw", "out", "(LEditionEqual;III[J)I"⟩, method_5_code, 6, (some .int), [(0, 12, 15, 13)], (9, 149, 1, 6, 1, 6))
def X_LW_bar : ez_X := (⟨"EditionEqualLaw", "bar", "(LEditionEqual;IZ[J)I"⟩, method_6_code, 5, (some .int), [(0, 17, 20, 13)], (8, 129, 1, 6, 1, 6))
def X_LW_wrong : ez_X := (⟨"EditionEqualLaw", "wrong", "(LEditionEqual;I[J)I"⟩, method_7_code, 4, (some .int), [(0, 9, 12, 13)], (9, 146, 1, 6, 1, 6))
def X_LW_value : ez_X := (⟨"EditionEqualLaw", "value", "(LEditionEqual;IIII[J)I"⟩, method_8_code, 7, (some .int), [(0, 14, 17, 13), (0, 14, 21, 15)], (10, 171, 1, 6, 1, 6))
def X_LW_tick : ez_X := (⟨"EditionEqualLaw", "tick", "(LEditionEqual;III[J)I"⟩, method_9_code, 6, (some .int), [(0, 12, 15, 13), (0, 12, 19, 15)], (10, 171, 1, 6, 1, 6))
def X_LW_reached : ez_X := (⟨"EditionEqualLaw", "reached", "(LEditionEqual;I[J)I"⟩, method_10_code, 4, (some .int), [(0, 9, 12, 13), (0, 9, 15, 15)], (10, 168, 1, 6, 1, 6))
def X_LW_state : ez_X := (⟨"EditionEqualLaw", "state", "(LEditionEqual;II[J)I"⟩, method_11_code, 5, (some .int), [(0, 10, 13, 13), (0, 10, 17, 15)], (10, 169, 1, 6, 1, 6))
def X_LW_least : ez_X := (⟨"EditionEqualLaw", "least", "(LEditionEqual;I[J)I"⟩, method_12_code, 4, (some .int), [(0, 9, 12, 13), (0, 9, 15, 15)], (10, 168, 1, 6, 1, 6))
def X_LW_compare : ez_X := (⟨"EditionEqualLaw", "compare", "(LEditionEqual;[J)I"⟩, method_13_code, 3, (some .int), [(0, 8, 11, 15)], (9, 156, 1, 6, 1, 6))
def X_LW_shown : ez_X := (⟨"EditionEqualLaw", "shown", "(LEditionEqual;I[J)I"⟩, method_14_code, 4, (some .int), [(0, 9, 12, 13), (0, 9, 15, 15)], (9, 158, 1, 6, 1, 6))
def X_LW_last : ez_X := (⟨"EditionEqualLaw", "last", "(LEditionEqual;I[J)I"⟩, method_15_code, 4, (some .int), [(0, 9, 12, 13), (0, 9, 15, 15)], (9, 157, 1, 6, 1, 6))
def X_LW_pairs : ez_X := (⟨"EditionEqualLaw", "pairs", "(LEditionEqual;[J)I"⟩, method_16_code, 3, (some .int), [(0, 8, 11, 15)], (9, 156, 1, 6, 1, 6))
def X_LW_same : ez_X := (⟨"EditionEqualLaw", "same", "(LEditionEqual;[J)I"⟩, method_17_code, 3, (some .int), [(0, 15, 18, 15)], (8, 133, 1, 6, 1, 6))
def X_LW_matched : ez_X := (⟨"EditionEqualLaw", "matched", "(LEditionEqual;I[J)I"⟩, method_18_code, 4, (some .int), [(0, 9, 12, 13), (0, 9, 15, 15)], (8, 134, 1, 6, 1, 6))
def X_LW_idle : ez_X := (⟨"EditionEqualLaw", "idle", "(LEditionEqual;II[J)I"⟩, method_19_code, 5, (some .int), [(0, 10, 13, 13)], (9, 148, 1, 6, 1, 6))
def X_LW_blocks : ez_X := (⟨"EditionEqualLaw", "blocks", "(LEditionEqual;I[J)I"⟩, method_20_code, 4, (some .int), [(0, 9, 12, 13)], (9, 146, 1, 6, 1, 6))
def X_JI_bitCount : ez_X := (⟨"java/lang/Integer", "bitCount", "(I)I"⟩, prog_11_method_49_code, 1, (some .int), [], (0, 0, 0, 0, 0, 0))
def X_JA_fill : ez_X := (⟨"java/util/Arrays", "fill", "([II)V"⟩, prog_17_method_103_code, 4, none, [], (0, 0, 0, 0, 0, 0))
end
section
/-! ===== words ===== -/
theorem ez_r1 {w : Cond} (h : w ∈ tables_1_1) (g : ez_gw w = true) : w ∈ ez_T := by
  have h1 : w ∈ tables_1 := by
    unfold tables_1
    exact List.mem_append_left _ h
  exact List.mem_filter.mpr ⟨List.mem_append_right _ h1, g⟩
theorem ez_r2 {w : Cond} (h : w ∈ tables_1_2) (g : ez_gw w = true) : w ∈ ez_T := by
  have h1 : w ∈ tables_1 := by
    unfold tables_1
    exact List.mem_append_right _ (List.mem_append_left _ h)
  exact List.mem_filter.mpr ⟨List.mem_append_right _ h1, g⟩
theorem ez_r3 {w : Cond} (h : w ∈ tables_1_3) (g : ez_gw w = true) : w ∈ ez_T := by
  have h1 : w ∈ tables_1 := by
    unfold tables_1
    exact List.mem_append_right _ (List.mem_append_right _ (List.mem_append_left _ h))
  exact List.mem_filter.mpr ⟨List.mem_append_right _ h1, g⟩
theorem ez_r4 {w : Cond} (h : w ∈ tables_1_4) (g : ez_gw w = true) : w ∈ ez_T := by
  have h1 : w ∈ tables_1 := by
    unfold tables_1
    exact List.mem_append_right _ (List.mem_append_right _ (List.mem_append_right _ (List.mem_append_left _ h)))
  exact List.mem_filter.mpr ⟨List.mem_append_right _ h1, g⟩
theorem ez_r5 {w : Cond} (h : w ∈ tables_1_5) (g : ez_gw w = true) : w ∈ ez_T := by
  have h1 : w ∈ tables_1 := by
    unfold tables_1
    exact List.mem_append_right _ (List.mem_append_right _ (List.mem_append_right _ (List.mem_append_right _ (h))))
  exact List.mem_filter.mpr ⟨List.mem_append_right _ h1, g⟩
theorem ez_r0 {w : Cond} (h : w ∈ k2_sels lw_privs) (g : ez_gw w = true) : w ∈ ez_T := List.mem_filter.mpr ⟨List.mem_append_left _ h, g⟩
theorem t_0 : Cond.selects "EditionEqual" ⟨"EditionEqual", "editionOf", "(I)LEditionEqual$Edition;"⟩ ⟨"EditionEqual", "editionOf", "(I)LEditionEqual$Edition;"⟩ ∈ ez_T := ez_r0 (List.mem_of_getElem? (i := 0) rfl) rfl
theorem t_2 : Cond.selects "EditionEqual" ⟨"EditionEqual", "isNumberOfKind", "(II)Z"⟩ ⟨"EditionEqual", "isNumberOfKind", "(II)Z"⟩ ∈ ez_T := ez_r0 (List.mem_of_getElem? (i := 2) rfl) rfl
theorem t_3 : Cond.selects "EditionEqual" ⟨"EditionEqual", "forgetAnswers", "()V"⟩ ⟨"EditionEqual", "forgetAnswers", "()V"⟩ ∈ ez_T := ez_r0 (List.mem_of_getElem? (i := 3) rfl) rfl
theorem t_4 : Cond.selects "EditionEqual" ⟨"EditionEqual", "checkRow", "(I)V"⟩ ⟨"EditionEqual", "checkRow", "(I)V"⟩ ∈ ez_T := ez_r0 (List.mem_of_getElem? (i := 4) rfl) rfl
theorem t_5 : Cond.selects "EditionEqual$Edition" ⟨"EditionEqual$Edition", "firstUnwired", "()I"⟩ ⟨"EditionEqual$Edition", "firstUnwired", "()I"⟩ ∈ ez_T := ez_r0 (List.mem_of_getElem? (i := 5) rfl) rfl
theorem t_6 : Cond.selects "EditionEqual$Edition" ⟨"EditionEqual$Edition", "firstComingBack", "()I"⟩ ⟨"EditionEqual$Edition", "firstComingBack", "()I"⟩ ∈ ez_T := ez_r0 (List.mem_of_getElem? (i := 6) rfl) rfl
theorem t_7 : Cond.selects "EditionEqual" ⟨"EditionEqual", "behaviourOf", "(I)LEditionEqual$Behaviour;"⟩ ⟨"EditionEqual", "behaviourOf", "(I)LEditionEqual$Behaviour;"⟩ ∈ ez_T := ez_r0 (List.mem_of_getElem? (i := 7) rfl) rfl
theorem t_8 : Cond.selects "EditionEqual" ⟨"EditionEqual", "openRows", "()I"⟩ ⟨"EditionEqual", "openRows", "()I"⟩ ∈ ez_T := ez_r0 (List.mem_of_getElem? (i := 8) rfl) rfl
theorem t_9 : Cond.selects "EditionEqual$Behaviour" ⟨"EditionEqual$Behaviour", "orderBlocks", "()V"⟩ ⟨"EditionEqual$Behaviour", "orderBlocks", "()V"⟩ ∈ ez_T := ez_r0 (List.mem_of_getElem? (i := 9) rfl) rfl
theorem t_10 : Cond.selects "EditionEqual$Behaviour" ⟨"EditionEqual$Behaviour", "fillColumns", "(I)V"⟩ ⟨"EditionEqual$Behaviour", "fillColumns", "(I)V"⟩ ∈ ez_T := ez_r0 (List.mem_of_getElem? (i := 10) rfl) rfl
theorem t_11 : Cond.selects "EditionEqual$Behaviour" ⟨"EditionEqual$Behaviour", "workOutColumn", "(II)I"⟩ ⟨"EditionEqual$Behaviour", "workOutColumn", "(II)I"⟩ ∈ ez_T := ez_r0 (List.mem_of_getElem? (i := 11) rfl) rfl
theorem t_12 : Cond.selects "EditionEqual$Behaviour" ⟨"EditionEqual$Behaviour", "columnAt", "(II)I"⟩ ⟨"EditionEqual$Behaviour", "columnAt", "(II)I"⟩ ∈ ez_T := ez_r0 (List.mem_of_getElem? (i := 12) rfl) rfl
theorem t_13 : Cond.selects "EditionEqual$Behaviour" ⟨"EditionEqual$Behaviour", "fillTicks", "(I)V"⟩ ⟨"EditionEqual$Behaviour", "fillTicks", "(I)V"⟩ ∈ ez_T := ez_r0 (List.mem_of_getElem? (i := 13) rfl) rfl
theorem t_14 : Cond.selects "EditionEqual$Behaviour" ⟨"EditionEqual$Behaviour", "findReached", "(I)V"⟩ ⟨"EditionEqual$Behaviour", "findReached", "(I)V"⟩ ∈ ez_T := ez_r0 (List.mem_of_getElem? (i := 14) rfl) rfl
theorem t_15 : Cond.selects "EditionEqual$Behaviour" ⟨"EditionEqual$Behaviour", "placeOf", "(II)I"⟩ ⟨"EditionEqual$Behaviour", "placeOf", "(II)I"⟩ ∈ ez_T := ez_r0 (List.mem_of_getElem? (i := 15) rfl) rfl
theorem t_16 : Cond.selects "EditionEqual$Behaviour" ⟨"EditionEqual$Behaviour", "partByOuts", "(I)I"⟩ ⟨"EditionEqual$Behaviour", "partByOuts", "(I)I"⟩ ∈ ez_T := ez_r0 (List.mem_of_getElem? (i := 16) rfl) rfl
theorem t_17 : Cond.selects "EditionEqual$Behaviour" ⟨"EditionEqual$Behaviour", "partByKeys", "()I"⟩ ⟨"EditionEqual$Behaviour", "partByKeys", "()I"⟩ ∈ ez_T := ez_r0 (List.mem_of_getElem? (i := 17) rfl) rfl
theorem t_18 : Cond.selects "EditionEqual$Behaviour" ⟨"EditionEqual$Behaviour", "firstLike", "(I)I"⟩ ⟨"EditionEqual$Behaviour", "firstLike", "(I)I"⟩ ∈ ez_T := ez_r0 (List.mem_of_getElem? (i := 18) rfl) rfl
theorem t_19 : Cond.selects "EditionEqual$Behaviour" ⟨"EditionEqual$Behaviour", "partByNextClass", "(I)I"⟩ ⟨"EditionEqual$Behaviour", "partByNextClass", "(I)I"⟩ ∈ ez_T := ez_r0 (List.mem_of_getElem? (i := 19) rfl) rfl
theorem t_20 : Cond.selects "EditionEqual" ⟨"EditionEqual", "searchOfBoth", "()LEditionEqual$PairSearch;"⟩ ⟨"EditionEqual", "searchOfBoth", "()LEditionEqual$PairSearch;"⟩ ∈ ez_T := ez_r0 (List.mem_of_getElem? (i := 20) rfl) rfl
theorem t_21 : Cond.selects "EditionEqual" ⟨"EditionEqual", "checkBothRight", "()V"⟩ ⟨"EditionEqual", "checkBothRight", "()V"⟩ ∈ ez_T := ez_r0 (List.mem_of_getElem? (i := 21) rfl) rfl
theorem t_22 : Cond.selects "EditionEqual$PairSearch" ⟨"EditionEqual$PairSearch", "meet", "(IIII)V"⟩ ⟨"EditionEqual$PairSearch", "meet", "(IIII)V"⟩ ∈ ez_T := ez_r0 (List.mem_of_getElem? (i := 22) rfl) rfl
theorem t_23 : Cond.selects "EditionEqual$PairSearch" ⟨"EditionEqual$PairSearch", "goOnFrom", "(II)V"⟩ ⟨"EditionEqual$PairSearch", "goOnFrom", "(II)V"⟩ ∈ ez_T := ez_r0 (List.mem_of_getElem? (i := 23) rfl) rfl
theorem t_24 : Cond.selects "EditionEqual$PairSearch" ⟨"EditionEqual$PairSearch", "keepShown", "(II)V"⟩ ⟨"EditionEqual$PairSearch", "keepShown", "(II)V"⟩ ∈ ez_T := ez_r0 (List.mem_of_getElem? (i := 24) rfl) rfl
theorem t_25 : Cond.selects "EditionEqual$Matching" ⟨"EditionEqual$Matching", "matchBoth", "(II)Z"⟩ ⟨"EditionEqual$Matching", "matchBoth", "(II)Z"⟩ ∈ ez_T := ez_r0 (List.mem_of_getElem? (i := 25) rfl) rfl
theorem t_26 : Cond.selects "EditionEqual$Matching" ⟨"EditionEqual$Matching", "areOfOneSort", "(II)Z"⟩ ⟨"EditionEqual$Matching", "areOfOneSort", "(II)Z"⟩ ∈ ez_T := ez_r0 (List.mem_of_getElem? (i := 26) rfl) rfl
theorem t_27 : Cond.selects "EditionEqual$Edition" ⟨"EditionEqual$Edition", "liveBlocks", "()I"⟩ ⟨"EditionEqual$Edition", "liveBlocks", "()I"⟩ ∈ ez_T := ez_r0 (List.mem_of_getElem? (i := 27) rfl) rfl
theorem t_28 : Cond.selects "EditionEqualModel" ⟨"EditionEqualModel", "delays", "(I)I"⟩ ⟨"EditionEqualModel", "delays", "(I)I"⟩ ∈ ez_T := ez_r0 (List.mem_of_getElem? (i := 28) rfl) rfl
theorem t_29 : Cond.selects "EditionEqualModel" ⟨"EditionEqualModel", "goes", "(ZZ)Z"⟩ ⟨"EditionEqualModel", "goes", "(ZZ)Z"⟩ ∈ ez_T := ez_r0 (List.mem_of_getElem? (i := 29) rfl) rfl
theorem t_30 : Cond.selects "EditionEqualModel" ⟨"EditionEqualModel", "isBlock", "(II)Z"⟩ ⟨"EditionEqualModel", "isBlock", "(II)Z"⟩ ∈ ez_T := ez_r0 (List.mem_of_getElem? (i := 30) rfl) rfl
theorem t_31 : Cond.selects "EditionEqualModel" ⟨"EditionEqualModel", "input", "(III)I"⟩ ⟨"EditionEqualModel", "input", "(III)I"⟩ ∈ ez_T := ez_r0 (List.mem_of_getElem? (i := 31) rfl) rfl
theorem t_32 : Cond.selects "EditionEqualModel" ⟨"EditionEqualModel", "isRow", "(I)Z"⟩ ⟨"EditionEqualModel", "isRow", "(I)Z"⟩ ∈ ez_T := ez_r0 (List.mem_of_getElem? (i := 32) rfl) rfl
theorem t_33 : Cond.selects "EditionEqualModel" ⟨"EditionEqualModel", "fault", "(I)I"⟩ ⟨"EditionEqualModel", "fault", "(I)I"⟩ ∈ ez_T := ez_r0 (List.mem_of_getElem? (i := 33) rfl) rfl
theorem t_34 : Cond.selects "EditionEqualModel" ⟨"EditionEqualModel", "isRound", "(II)Z"⟩ ⟨"EditionEqualModel", "isRound", "(II)Z"⟩ ∈ ez_T := ez_r0 (List.mem_of_getElem? (i := 34) rfl) rfl
theorem t_35 : Cond.selects "EditionEqualModel" ⟨"EditionEqualModel", "mark", "(II)Z"⟩ ⟨"EditionEqualModel", "mark", "(II)Z"⟩ ∈ ez_T := ez_r0 (List.mem_of_getElem? (i := 35) rfl) rfl
theorem t_36 : Cond.selects "EditionEqualModel" ⟨"EditionEqualModel", "isRight", "(I)Z"⟩ ⟨"EditionEqualModel", "isRight", "(I)Z"⟩ ∈ ez_T := ez_r0 (List.mem_of_getElem? (i := 36) rfl) rfl
theorem t_37 : Cond.selects "EditionEqualModel" ⟨"EditionEqualModel", "settle", "(III)V"⟩ ⟨"EditionEqualModel", "settle", "(III)V"⟩ ∈ ez_T := ez_r0 (List.mem_of_getElem? (i := 37) rfl) rfl
theorem t_38 : Cond.selects "EditionEqualModel" ⟨"EditionEqualModel", "reckon", "(II)I"⟩ ⟨"EditionEqualModel", "reckon", "(II)I"⟩ ∈ ez_T := ez_r0 (List.mem_of_getElem? (i := 38) rfl) rfl
theorem t_39 : Cond.selects "EditionEqualModel" ⟨"EditionEqualModel", "answer", "(III)I"⟩ ⟨"EditionEqualModel", "answer", "(III)I"⟩ ∈ ez_T := ez_r0 (List.mem_of_getElem? (i := 39) rfl) rfl
theorem t_40 : Cond.selects "EditionEqualModel" ⟨"EditionEqualModel", "explore", "(I)V"⟩ ⟨"EditionEqualModel", "explore", "(I)V"⟩ ∈ ez_T := ez_r0 (List.mem_of_getElem? (i := 40) rfl) rfl
theorem t_41 : Cond.selects "EditionEqualModel" ⟨"EditionEqualModel", "reachedCount", "(I)I"⟩ ⟨"EditionEqualModel", "reachedCount", "(I)I"⟩ ∈ ez_T := ez_r0 (List.mem_of_getElem? (i := 41) rfl) rfl
theorem t_42 : Cond.selects "EditionEqualModel" ⟨"EditionEqualModel", "tells", "(III)Z"⟩ ⟨"EditionEqualModel", "tells", "(III)Z"⟩ ∈ ez_T := ez_r0 (List.mem_of_getElem? (i := 42) rfl) rfl
theorem t_43 : Cond.selects "EditionEqualModel" ⟨"EditionEqualModel", "areRight", "()Z"⟩ ⟨"EditionEqualModel", "areRight", "()Z"⟩ ∈ ez_T := ez_r0 (List.mem_of_getElem? (i := 43) rfl) rfl
theorem t_44 : Cond.selects "EditionEqualModel" ⟨"EditionEqualModel", "goOver", "()V"⟩ ⟨"EditionEqualModel", "goOver", "()V"⟩ ∈ ez_T := ez_r0 (List.mem_of_getElem? (i := 44) rfl) rfl
theorem t_45 : Cond.selects "EditionEqualModel" ⟨"EditionEqualModel", "meet", "(III)V"⟩ ⟨"EditionEqualModel", "meet", "(III)V"⟩ ∈ ez_T := ez_r0 (List.mem_of_getElem? (i := 45) rfl) rfl
theorem t_46 : Cond.selects "EditionEqualModel" ⟨"EditionEqualModel", "shownCount", "()I"⟩ ⟨"EditionEqualModel", "shownCount", "()I"⟩ ∈ ez_T := ez_r0 (List.mem_of_getElem? (i := 46) rfl) rfl
theorem t_47 : Cond.selects "EditionEqualModel" ⟨"EditionEqualModel", "areSame", "()Z"⟩ ⟨"EditionEqualModel", "areSame", "()Z"⟩ ∈ ez_T := ez_r0 (List.mem_of_getElem? (i := 47) rfl) rfl
theorem t_48 : Cond.selects "EditionEqualModel" ⟨"EditionEqualModel", "areSingle", "()Z"⟩ ⟨"EditionEqualModel", "areSingle", "()Z"⟩ ∈ ez_T := ez_r0 (List.mem_of_getElem? (i := 48) rfl) rfl
theorem t_49 : Cond.initialized "EditionEqualLaw" ∈ ez_T := ez_r1 (List.mem_of_getElem? (i := 0) rfl) rfl
theorem t_50 : Cond.initialized "EditionEqual" ∈ ez_T := ez_r1 (List.mem_of_getElem? (i := 1) rfl) rfl
theorem t_51 : Cond.initialized "java/lang/Math" ∈ ez_T := ez_r1 (List.mem_of_getElem? (i := 2) rfl) rfl
theorem t_52 : Cond.initialized "EditionEqual$Edition" ∈ ez_T := ez_r1 (List.mem_of_getElem? (i := 3) rfl) rfl
theorem t_53 : Cond.initialized "java/util/Arrays" ∈ ez_T := ez_r1 (List.mem_of_getElem? (i := 4) rfl) rfl
theorem t_54 : Cond.initialized "EditionEqual$Behaviour" ∈ ez_T := ez_r1 (List.mem_of_getElem? (i := 5) rfl) rfl
theorem t_55 : Cond.initialized "EditionEqual$PairSearch" ∈ ez_T := ez_r1 (List.mem_of_getElem? (i := 6) rfl) rfl
theorem t_56 : Cond.initialized "EditionEqual$Matching" ∈ ez_T := ez_r1 (List.mem_of_getElem? (i := 7) rfl) rfl
theorem t_57 : Cond.initialized "EditionEqualModel" ∈ ez_T := ez_r1 (List.mem_of_getElem? (i := 8) rfl) rfl
theorem t_63 : Cond.initialized "java/lang/Integer" ∈ ez_T := ez_r1 (List.mem_of_getElem? (i := 14) rfl) rfl
theorem t_69 : Cond.code ⟨"EditionEqual", "<init>", "(I)V"⟩ prog_1_method_1_code 2 none ∈ ez_T := ez_r1 (List.mem_of_getElem? (i := 20) rfl) rfl
theorem t_73 : Cond.methodLink "EditionEqual" 9 ⟨"java/lang/Math", "min", "(II)I"⟩ ∈ ez_T := ez_r1 (List.mem_of_getElem? (i := 24) rfl) rfl
theorem t_74 : Cond.static ⟨"java/lang/Math", "min", "(II)I"⟩ ∈ ez_T := ez_r1 (List.mem_of_getElem? (i := 25) rfl) rfl
theorem t_75 : Cond.code ⟨"java/lang/Math", "min", "(II)I"⟩ prog_12_method_69_code 2 (some .int) ∈ ez_T := ez_r1 (List.mem_of_getElem? (i := 26) rfl) rfl
theorem t_76 : Cond.methodLink "EditionEqual" 15 ⟨"java/lang/Math", "max", "(II)I"⟩ ∈ ez_T := ez_r1 (List.mem_of_getElem? (i := 27) rfl) rfl
theorem t_77 : Cond.static ⟨"java/lang/Math", "max", "(II)I"⟩ ∈ ez_T := ez_r1 (List.mem_of_getElem? (i := 28) rfl) rfl
theorem t_78 : Cond.code ⟨"java/lang/Math", "max", "(II)I"⟩ prog_12_method_65_code 2 (some .int) ∈ ez_T := ez_r1 (List.mem_of_getElem? (i := 29) rfl) rfl
theorem t_81 : Cond.methodLink "EditionEqual" 27 ⟨"EditionEqual$Edition", "<init>", "()V"⟩ ∈ ez_T := ez_r1 (List.mem_of_getElem? (i := 32) rfl) rfl
theorem t_82 : Cond.instanceMethod ⟨"EditionEqual$Edition", "<init>", "()V"⟩ ∈ ez_T := ez_r1 (List.mem_of_getElem? (i := 33) rfl) rfl
theorem t_83 : Cond.code ⟨"EditionEqual$Edition", "<init>", "()V"⟩ prog_3_method_1_code 1 none ∈ ez_T := ez_r1 (List.mem_of_getElem? (i := 34) rfl) rfl
theorem t_85 : Cond.methodLink "EditionEqual$Edition" 43 ⟨"java/util/Arrays", "fill", "([II)V"⟩ ∈ ez_T := ez_r1 (List.mem_of_getElem? (i := 36) rfl) rfl
theorem t_86 : Cond.static ⟨"java/util/Arrays", "fill", "([II)V"⟩ ∈ ez_T := ez_r1 (List.mem_of_getElem? (i := 37) rfl) rfl
theorem t_87 : Cond.code ⟨"java/util/Arrays", "fill", "([II)V"⟩ prog_17_method_103_code 4 none ∈ ez_T := ez_r1 (List.mem_of_getElem? (i := 38) rfl) rfl
theorem t_88 : Cond.fieldLink "EditionEqual$Edition" 9 "EditionEqual$Edition" "kinds" "[I" ∈ ez_T := ez_r1 (List.mem_of_getElem? (i := 39) rfl) rfl
theorem t_89 : Cond.fieldLink "EditionEqual$Edition" 15 "EditionEqual$Edition" "numbers" "[I" ∈ ez_T := ez_r1 (List.mem_of_getElem? (i := 40) rfl) rfl
theorem t_90 : Cond.fieldLink "EditionEqual$Edition" 18 "EditionEqual$Edition" "neededInputs" "[I" ∈ ez_T := ez_r1 (List.mem_of_getElem? (i := 41) rfl) rfl
theorem t_91 : Cond.fieldLink "EditionEqual$Edition" 21 "EditionEqual$Edition" "wires" "[I" ∈ ez_T := ez_r1 (List.mem_of_getElem? (i := 42) rfl) rfl
theorem t_92 : Cond.fieldLink "EditionEqual$Edition" 24 "EditionEqual$Edition" "neededBlocks" "[I" ∈ ez_T := ez_r1 (List.mem_of_getElem? (i := 43) rfl) rfl
theorem t_93 : Cond.fieldLink "EditionEqual$Edition" 27 "EditionEqual$Edition" "outputs" "[I" ∈ ez_T := ez_r1 (List.mem_of_getElem? (i := 44) rfl) rfl
theorem t_94 : Cond.fieldLink "EditionEqual$Edition" 30 "EditionEqual$Edition" "delays" "[I" ∈ ez_T := ez_r1 (List.mem_of_getElem? (i := 45) rfl) rfl
theorem t_95 : Cond.fieldLink "EditionEqual$Edition" 33 "EditionEqual$Edition" "ahead" "[I" ∈ ez_T := ez_r1 (List.mem_of_getElem? (i := 46) rfl) rfl
theorem t_96 : Cond.fieldLink "EditionEqual$Edition" 36 "EditionEqual$Edition" "blockCount" "I" ∈ ez_T := ez_r1 (List.mem_of_getElem? (i := 47) rfl) rfl
theorem t_97 : Cond.fieldLink "EditionEqual$Edition" 40 "EditionEqual$Edition" "delayCount" "I" ∈ ez_T := ez_r1 (List.mem_of_getElem? (i := 48) rfl) rfl
theorem t_98 : Cond.laysFinal "EditionEqual$Edition" "EditionEqual$Edition" "kinds" "[I" ∈ ez_T := ez_r1 (List.mem_of_getElem? (i := 49) rfl) rfl
theorem t_100 : Cond.laysFinal "EditionEqual$Edition" "EditionEqual$Edition" "numbers" "[I" ∈ ez_T := ez_r1 (List.mem_of_getElem? (i := 51) rfl) rfl
theorem t_102 : Cond.laysFinal "EditionEqual$Edition" "EditionEqual$Edition" "neededInputs" "[I" ∈ ez_T := ez_r1 (List.mem_of_getElem? (i := 53) rfl) rfl
theorem t_104 : Cond.laysFinal "EditionEqual$Edition" "EditionEqual$Edition" "wires" "[I" ∈ ez_T := ez_r1 (List.mem_of_getElem? (i := 55) rfl) rfl
theorem t_106 : Cond.laysFinal "EditionEqual$Edition" "EditionEqual$Edition" "neededBlocks" "[I" ∈ ez_T := ez_r1 (List.mem_of_getElem? (i := 57) rfl) rfl
theorem t_108 : Cond.laysFinal "EditionEqual$Edition" "EditionEqual$Edition" "outputs" "[I" ∈ ez_T := ez_r1 (List.mem_of_getElem? (i := 59) rfl) rfl
theorem t_110 : Cond.laysFinal "EditionEqual$Edition" "EditionEqual$Edition" "delays" "[I" ∈ ez_T := ez_r1 (List.mem_of_getElem? (i := 61) rfl) rfl
theorem t_112 : Cond.laysFinal "EditionEqual$Edition" "EditionEqual$Edition" "ahead" "[I" ∈ ez_T := ez_r1 (List.mem_of_getElem? (i := 63) rfl) rfl
theorem t_114 : Cond.lays "EditionEqual$Edition" "EditionEqual$Edition" "blockCount" "I" ∈ ez_T := ez_r1 (List.mem_of_getElem? (i := 65) rfl) rfl
theorem t_116 : Cond.lays "EditionEqual$Edition" "EditionEqual$Edition" "delayCount" "I" ∈ ez_T := ez_r1 (List.mem_of_getElem? (i := 67) rfl) rfl
theorem t_122 : Cond.methodLink "EditionEqual" 37 ⟨"EditionEqual$Behaviour", "<init>", "(LEditionEqual$Edition;)V"⟩ ∈ ez_T := ez_r1 (List.mem_of_getElem? (i := 73) rfl) rfl
theorem t_123 : Cond.instanceMethod ⟨"EditionEqual$Behaviour", "<init>", "(LEditionEqual$Edition;)V"⟩ ∈ ez_T := ez_r1 (List.mem_of_getElem? (i := 74) rfl) rfl
theorem t_124 : Cond.code ⟨"EditionEqual$Behaviour", "<init>", "(LEditionEqual$Edition;)V"⟩ prog_2_method_1_code 2 none ∈ ez_T := ez_r1 (List.mem_of_getElem? (i := 75) rfl) rfl
theorem t_126 : Cond.fieldLink "EditionEqual$Behaviour" 50 "EditionEqual$Behaviour" "edition" "LEditionEqual$Edition;" ∈ ez_T := ez_r1 (List.mem_of_getElem? (i := 77) rfl) rfl
theorem t_127 : Cond.fieldLink "EditionEqual$Behaviour" 9 "EditionEqual$Behaviour" "order" "[I" ∈ ez_T := ez_r1 (List.mem_of_getElem? (i := 78) rfl) rfl
theorem t_128 : Cond.fieldLink "EditionEqual$Behaviour" 15 "EditionEqual$Behaviour" "columns" "[I" ∈ ez_T := ez_r1 (List.mem_of_getElem? (i := 79) rfl) rfl
theorem t_129 : Cond.fieldLink "EditionEqual$Behaviour" 18 "EditionEqual$Behaviour" "outs" "[I" ∈ ez_T := ez_r1 (List.mem_of_getElem? (i := 80) rfl) rfl
theorem t_130 : Cond.fieldLink "EditionEqual$Behaviour" 21 "EditionEqual$Behaviour" "nextStates" "[I" ∈ ez_T := ez_r1 (List.mem_of_getElem? (i := 81) rfl) rfl
theorem t_131 : Cond.fieldLink "EditionEqual$Behaviour" 24 "EditionEqual$Behaviour" "queue" "[I" ∈ ez_T := ez_r1 (List.mem_of_getElem? (i := 82) rfl) rfl
theorem t_132 : Cond.fieldLink "EditionEqual$Behaviour" 27 "EditionEqual$Behaviour" "classes" "[I" ∈ ez_T := ez_r1 (List.mem_of_getElem? (i := 83) rfl) rfl
theorem t_133 : Cond.fieldLink "EditionEqual$Behaviour" 30 "EditionEqual$Behaviour" "keys" "[I" ∈ ez_T := ez_r1 (List.mem_of_getElem? (i := 84) rfl) rfl
theorem t_134 : Cond.fieldLink "EditionEqual$Behaviour" 33 "EditionEqual$Behaviour" "newClasses" "[I" ∈ ez_T := ez_r1 (List.mem_of_getElem? (i := 85) rfl) rfl
theorem t_135 : Cond.fieldLink "EditionEqual$Behaviour" 36 "EditionEqual$Behaviour" "orderedCount" "I" ∈ ez_T := ez_r1 (List.mem_of_getElem? (i := 86) rfl) rfl
theorem t_136 : Cond.fieldLink "EditionEqual$Behaviour" 40 "EditionEqual$Behaviour" "stateCount" "I" ∈ ez_T := ez_r1 (List.mem_of_getElem? (i := 87) rfl) rfl
theorem t_137 : Cond.fieldLink "EditionEqual$Behaviour" 43 "EditionEqual$Behaviour" "reachedStates" "I" ∈ ez_T := ez_r1 (List.mem_of_getElem? (i := 88) rfl) rfl
theorem t_138 : Cond.fieldLink "EditionEqual$Behaviour" 46 "EditionEqual$Behaviour" "known" "Z" ∈ ez_T := ez_r1 (List.mem_of_getElem? (i := 89) rfl) rfl
theorem t_139 : Cond.laysFinal "EditionEqual$Behaviour" "EditionEqual$Behaviour" "edition" "LEditionEqual$Edition;" ∈ ez_T := ez_r1 (List.mem_of_getElem? (i := 90) rfl) rfl
theorem t_141 : Cond.laysFinal "EditionEqual$Behaviour" "EditionEqual$Behaviour" "order" "[I" ∈ ez_T := ez_r1 (List.mem_of_getElem? (i := 92) rfl) rfl
theorem t_143 : Cond.laysFinal "EditionEqual$Behaviour" "EditionEqual$Behaviour" "columns" "[I" ∈ ez_T := ez_r1 (List.mem_of_getElem? (i := 94) rfl) rfl
theorem t_145 : Cond.laysFinal "EditionEqual$Behaviour" "EditionEqual$Behaviour" "outs" "[I" ∈ ez_T := ez_r1 (List.mem_of_getElem? (i := 96) rfl) rfl
theorem t_147 : Cond.laysFinal "EditionEqual$Behaviour" "EditionEqual$Behaviour" "nextStates" "[I" ∈ ez_T := ez_r1 (List.mem_of_getElem? (i := 98) rfl) rfl
theorem t_149 : Cond.laysFinal "EditionEqual$Behaviour" "EditionEqual$Behaviour" "queue" "[I" ∈ ez_T := ez_r1 (List.mem_of_getElem? (i := 100) rfl) rfl
theorem t_151 : Cond.laysFinal "EditionEqual$Behaviour" "EditionEqual$Behaviour" "classes" "[I" ∈ ez_T := ez_r1 (List.mem_of_getElem? (i := 102) rfl) rfl
theorem t_153 : Cond.laysFinal "EditionEqual$Behaviour" "EditionEqual$Behaviour" "keys" "[I" ∈ ez_T := ez_r1 (List.mem_of_getElem? (i := 104) rfl) rfl
theorem t_155 : Cond.laysFinal "EditionEqual$Behaviour" "EditionEqual$Behaviour" "newClasses" "[I" ∈ ez_T := ez_r1 (List.mem_of_getElem? (i := 106) rfl) rfl
theorem t_157 : Cond.lays "EditionEqual$Behaviour" "EditionEqual$Behaviour" "orderedCount" "I" ∈ ez_T := ez_r1 (List.mem_of_getElem? (i := 108) rfl) rfl
theorem t_159 : Cond.lays "EditionEqual$Behaviour" "EditionEqual$Behaviour" "stateCount" "I" ∈ ez_T := ez_r1 (List.mem_of_getElem? (i := 110) rfl) rfl
theorem t_161 : Cond.lays "EditionEqual$Behaviour" "EditionEqual$Behaviour" "reachedStates" "I" ∈ ez_T := ez_r1 (List.mem_of_getElem? (i := 112) rfl) rfl
theorem t_163 : Cond.lays "EditionEqual$Behaviour" "EditionEqual$Behaviour" "known" "Z" ∈ ez_T := ez_r1 (List.mem_of_getElem? (i := 114) rfl) rfl
theorem t_168 : Cond.methodLink "EditionEqual" 49 ⟨"EditionEqual$PairSearch", "<init>", "(LEditionEqual$Behaviour;LEditionEqual$Behaviour;)V"⟩ ∈ ez_T := ez_r1 (List.mem_of_getElem? (i := 119) rfl) rfl
theorem t_169 : Cond.instanceMethod ⟨"EditionEqual$PairSearch", "<init>", "(LEditionEqual$Behaviour;LEditionEqual$Behaviour;)V"⟩ ∈ ez_T := ez_r1 (List.mem_of_getElem? (i := 120) rfl) rfl
theorem t_170 : Cond.code ⟨"EditionEqual$PairSearch", "<init>", "(LEditionEqual$Behaviour;LEditionEqual$Behaviour;)V"⟩ prog_5_method_1_code 3 none ∈ ez_T := ez_r1 (List.mem_of_getElem? (i := 121) rfl) rfl
theorem t_172 : Cond.fieldLink "EditionEqual$PairSearch" 47 "EditionEqual$PairSearch" "first" "LEditionEqual$Behaviour;" ∈ ez_T := ez_r1 (List.mem_of_getElem? (i := 123) rfl) rfl
theorem t_173 : Cond.fieldLink "EditionEqual$PairSearch" 51 "EditionEqual$PairSearch" "second" "LEditionEqual$Behaviour;" ∈ ez_T := ez_r1 (List.mem_of_getElem? (i := 124) rfl) rfl
theorem t_174 : Cond.fieldLink "EditionEqual$PairSearch" 9 "EditionEqual$PairSearch" "met" "[I" ∈ ez_T := ez_r1 (List.mem_of_getElem? (i := 125) rfl) rfl
theorem t_175 : Cond.fieldLink "EditionEqual$PairSearch" 15 "EditionEqual$PairSearch" "queue" "[I" ∈ ez_T := ez_r1 (List.mem_of_getElem? (i := 126) rfl) rfl
theorem t_176 : Cond.fieldLink "EditionEqual$PairSearch" 18 "EditionEqual$PairSearch" "cameFrom" "[I" ∈ ez_T := ez_r1 (List.mem_of_getElem? (i := 127) rfl) rfl
theorem t_177 : Cond.fieldLink "EditionEqual$PairSearch" 21 "EditionEqual$PairSearch" "cameBy" "[I" ∈ ez_T := ez_r1 (List.mem_of_getElem? (i := 128) rfl) rfl
theorem t_178 : Cond.fieldLink "EditionEqual$PairSearch" 24 "EditionEqual$PairSearch" "pairCount" "I" ∈ ez_T := ez_r1 (List.mem_of_getElem? (i := 129) rfl) rfl
theorem t_179 : Cond.fieldLink "EditionEqual$PairSearch" 28 "EditionEqual$PairSearch" "shownCount" "I" ∈ ez_T := ez_r1 (List.mem_of_getElem? (i := 130) rfl) rfl
theorem t_180 : Cond.fieldLink "EditionEqual$PairSearch" 31 "EditionEqual$PairSearch" "shownFrom" "I" ∈ ez_T := ez_r1 (List.mem_of_getElem? (i := 131) rfl) rfl
theorem t_181 : Cond.fieldLink "EditionEqual$PairSearch" 34 "EditionEqual$PairSearch" "shownLast" "I" ∈ ez_T := ez_r1 (List.mem_of_getElem? (i := 132) rfl) rfl
theorem t_182 : Cond.fieldLink "EditionEqual$PairSearch" 37 "EditionEqual$PairSearch" "firstOuts" "I" ∈ ez_T := ez_r1 (List.mem_of_getElem? (i := 133) rfl) rfl
theorem t_183 : Cond.fieldLink "EditionEqual$PairSearch" 40 "EditionEqual$PairSearch" "secondOuts" "I" ∈ ez_T := ez_r1 (List.mem_of_getElem? (i := 134) rfl) rfl
theorem t_184 : Cond.fieldLink "EditionEqual$PairSearch" 43 "EditionEqual$PairSearch" "known" "Z" ∈ ez_T := ez_r1 (List.mem_of_getElem? (i := 135) rfl) rfl
theorem t_185 : Cond.laysFinal "EditionEqual$PairSearch" "EditionEqual$PairSearch" "first" "LEditionEqual$Behaviour;" ∈ ez_T := ez_r1 (List.mem_of_getElem? (i := 136) rfl) rfl
theorem t_187 : Cond.laysFinal "EditionEqual$PairSearch" "EditionEqual$PairSearch" "second" "LEditionEqual$Behaviour;" ∈ ez_T := ez_r1 (List.mem_of_getElem? (i := 138) rfl) rfl
theorem t_189 : Cond.laysFinal "EditionEqual$PairSearch" "EditionEqual$PairSearch" "met" "[I" ∈ ez_T := ez_r1 (List.mem_of_getElem? (i := 140) rfl) rfl
theorem t_191 : Cond.laysFinal "EditionEqual$PairSearch" "EditionEqual$PairSearch" "queue" "[I" ∈ ez_T := ez_r1 (List.mem_of_getElem? (i := 142) rfl) rfl
theorem t_193 : Cond.laysFinal "EditionEqual$PairSearch" "EditionEqual$PairSearch" "cameFrom" "[I" ∈ ez_T := ez_r1 (List.mem_of_getElem? (i := 144) rfl) rfl
theorem t_195 : Cond.laysFinal "EditionEqual$PairSearch" "EditionEqual$PairSearch" "cameBy" "[I" ∈ ez_T := ez_r1 (List.mem_of_getElem? (i := 146) rfl) rfl
theorem t_197 : Cond.lays "EditionEqual$PairSearch" "EditionEqual$PairSearch" "pairCount" "I" ∈ ez_T := ez_r1 (List.mem_of_getElem? (i := 148) rfl) rfl
theorem t_199 : Cond.lays "EditionEqual$PairSearch" "EditionEqual$PairSearch" "shownCount" "I" ∈ ez_T := ez_r1 (List.mem_of_getElem? (i := 150) rfl) rfl
theorem t_201 : Cond.lays "EditionEqual$PairSearch" "EditionEqual$PairSearch" "shownFrom" "I" ∈ ez_T := ez_r1 (List.mem_of_getElem? (i := 152) rfl) rfl
theorem t_203 : Cond.lays "EditionEqual$PairSearch" "EditionEqual$PairSearch" "shownLast" "I" ∈ ez_T := ez_r1 (List.mem_of_getElem? (i := 154) rfl) rfl
theorem t_205 : Cond.lays "EditionEqual$PairSearch" "EditionEqual$PairSearch" "firstOuts" "I" ∈ ez_T := ez_r1 (List.mem_of_getElem? (i := 156) rfl) rfl
theorem t_207 : Cond.lays "EditionEqual$PairSearch" "EditionEqual$PairSearch" "secondOuts" "I" ∈ ez_T := ez_r1 (List.mem_of_getElem? (i := 158) rfl) rfl
theorem t_209 : Cond.lays "EditionEqual$PairSearch" "EditionEqual$PairSearch" "known" "Z" ∈ ez_T := ez_r1 (List.mem_of_getElem? (i := 160) rfl) rfl
theorem t_214 : Cond.methodLink "EditionEqual" 58 ⟨"EditionEqual$Matching", "<init>", "(LEditionEqual$Edition;LEditionEqual$Edition;)V"⟩ ∈ ez_T := ez_r1 (List.mem_of_getElem? (i := 165) rfl) rfl
theorem t_215 : Cond.instanceMethod ⟨"EditionEqual$Matching", "<init>", "(LEditionEqual$Edition;LEditionEqual$Edition;)V"⟩ ∈ ez_T := ez_r1 (List.mem_of_getElem? (i := 166) rfl) rfl
theorem t_216 : Cond.code ⟨"EditionEqual$Matching", "<init>", "(LEditionEqual$Edition;LEditionEqual$Edition;)V"⟩ prog_4_method_1_code 3 none ∈ ez_T := ez_r1 (List.mem_of_getElem? (i := 167) rfl) rfl
theorem t_218 : Cond.fieldLink "EditionEqual$Matching" 25 "EditionEqual$Matching" "first" "LEditionEqual$Edition;" ∈ ez_T := ez_r1 (List.mem_of_getElem? (i := 169) rfl) rfl
theorem t_219 : Cond.fieldLink "EditionEqual$Matching" 29 "EditionEqual$Matching" "second" "LEditionEqual$Edition;" ∈ ez_T := ez_r1 (List.mem_of_getElem? (i := 170) rfl) rfl
theorem t_220 : Cond.fieldLink "EditionEqual$Matching" 9 "EditionEqual$Matching" "partners" "[I" ∈ ez_T := ez_r1 (List.mem_of_getElem? (i := 171) rfl) rfl
theorem t_221 : Cond.fieldLink "EditionEqual$Matching" 15 "EditionEqual$Matching" "partnersBack" "[I" ∈ ez_T := ez_r1 (List.mem_of_getElem? (i := 172) rfl) rfl
theorem t_222 : Cond.fieldLink "EditionEqual$Matching" 18 "EditionEqual$Matching" "queue" "[I" ∈ ez_T := ez_r1 (List.mem_of_getElem? (i := 173) rfl) rfl
theorem t_223 : Cond.fieldLink "EditionEqual$Matching" 21 "EditionEqual$Matching" "matchCount" "I" ∈ ez_T := ez_r1 (List.mem_of_getElem? (i := 174) rfl) rfl
theorem t_224 : Cond.laysFinal "EditionEqual$Matching" "EditionEqual$Matching" "first" "LEditionEqual$Edition;" ∈ ez_T := ez_r1 (List.mem_of_getElem? (i := 175) rfl) rfl
theorem t_226 : Cond.laysFinal "EditionEqual$Matching" "EditionEqual$Matching" "second" "LEditionEqual$Edition;" ∈ ez_T := ez_r1 (List.mem_of_getElem? (i := 177) rfl) rfl
theorem t_228 : Cond.laysFinal "EditionEqual$Matching" "EditionEqual$Matching" "partners" "[I" ∈ ez_T := ez_r1 (List.mem_of_getElem? (i := 179) rfl) rfl
theorem t_230 : Cond.laysFinal "EditionEqual$Matching" "EditionEqual$Matching" "partnersBack" "[I" ∈ ez_T := ez_r1 (List.mem_of_getElem? (i := 181) rfl) rfl
theorem t_232 : Cond.laysFinal "EditionEqual$Matching" "EditionEqual$Matching" "queue" "[I" ∈ ez_T := ez_r1 (List.mem_of_getElem? (i := 183) rfl) rfl
theorem t_234 : Cond.lays "EditionEqual$Matching" "EditionEqual$Matching" "matchCount" "I" ∈ ez_T := ez_r1 (List.mem_of_getElem? (i := 185) rfl) rfl
theorem t_237 : Cond.fieldLink "EditionEqual" 18 "EditionEqual" "pointCount" "I" ∈ ez_T := ez_r1 (List.mem_of_getElem? (i := 188) rfl) rfl
theorem t_238 : Cond.fieldLink "EditionEqual" 22 "EditionEqual" "rowCount" "I" ∈ ez_T := ez_r1 (List.mem_of_getElem? (i := 189) rfl) rfl
theorem t_239 : Cond.fieldLink "EditionEqual" 28 "EditionEqual" "firstEdition" "LEditionEqual$Edition;" ∈ ez_T := ez_r1 (List.mem_of_getElem? (i := 190) rfl) rfl
theorem t_240 : Cond.fieldLink "EditionEqual" 32 "EditionEqual" "secondEdition" "LEditionEqual$Edition;" ∈ ez_T := ez_r1 (List.mem_of_getElem? (i := 191) rfl) rfl
theorem t_241 : Cond.fieldLink "EditionEqual" 40 "EditionEqual" "firstBehaviour" "LEditionEqual$Behaviour;" ∈ ez_T := ez_r1 (List.mem_of_getElem? (i := 192) rfl) rfl
theorem t_242 : Cond.fieldLink "EditionEqual" 44 "EditionEqual" "secondBehaviour" "LEditionEqual$Behaviour;" ∈ ez_T := ez_r1 (List.mem_of_getElem? (i := 193) rfl) rfl
theorem t_243 : Cond.fieldLink "EditionEqual" 52 "EditionEqual" "search" "LEditionEqual$PairSearch;" ∈ ez_T := ez_r1 (List.mem_of_getElem? (i := 194) rfl) rfl
theorem t_244 : Cond.fieldLink "EditionEqual" 61 "EditionEqual" "matching" "LEditionEqual$Matching;" ∈ ez_T := ez_r1 (List.mem_of_getElem? (i := 195) rfl) rfl
theorem t_245 : Cond.fieldLink "EditionEqual" 65 "EditionEqual" "barredRows" "I" ∈ ez_T := ez_r1 (List.mem_of_getElem? (i := 196) rfl) rfl
theorem t_246 : Cond.laysFinal "EditionEqual" "EditionEqual" "pointCount" "I" ∈ ez_T := ez_r1 (List.mem_of_getElem? (i := 197) rfl) rfl
theorem t_248 : Cond.laysFinal "EditionEqual" "EditionEqual" "rowCount" "I" ∈ ez_T := ez_r1 (List.mem_of_getElem? (i := 199) rfl) rfl
theorem t_250 : Cond.laysFinal "EditionEqual" "EditionEqual" "firstEdition" "LEditionEqual$Edition;" ∈ ez_T := ez_r1 (List.mem_of_getElem? (i := 201) rfl) rfl
theorem t_252 : Cond.laysFinal "EditionEqual" "EditionEqual" "secondEdition" "LEditionEqual$Edition;" ∈ ez_T := ez_r1 (List.mem_of_getElem? (i := 203) rfl) rfl
theorem t_254 : Cond.laysFinal "EditionEqual" "EditionEqual" "firstBehaviour" "LEditionEqual$Behaviour;" ∈ ez_T := ez_r1 (List.mem_of_getElem? (i := 205) rfl) rfl
theorem t_256 : Cond.laysFinal "EditionEqual" "EditionEqual" "secondBehaviour" "LEditionEqual$Behaviour;" ∈ ez_T := ez_r1 (List.mem_of_getElem? (i := 207) rfl) rfl
theorem t_258 : Cond.laysFinal "EditionEqual" "EditionEqual" "search" "LEditionEqual$PairSearch;" ∈ ez_T := ez_r1 (List.mem_of_getElem? (i := 209) rfl) rfl
theorem t_260 : Cond.laysFinal "EditionEqual" "EditionEqual" "matching" "LEditionEqual$Matching;" ∈ ez_T := ez_r1 (List.mem_of_getElem? (i := 211) rfl) rfl
theorem t_262 : Cond.lays "EditionEqual" "EditionEqual" "barredRows" "I" ∈ ez_T := ez_r1 (List.mem_of_getElem? (i := 213) rfl) rfl
theorem t_267 : Cond.code ⟨"EditionEqualLaw", "cell", "([II)I"⟩ method_2_code 2 (some .int) ∈ ez_T := ez_r1 (List.mem_of_getElem? (i := 218) rfl) rfl
theorem t_270 : Cond.codeWith ⟨"EditionEqualLaw", "block", "(LEditionEqual;III[J)I"⟩ method_3_code 6 (some .int) [(0, 12, 15, 13), (0, 12, 19, 15)] ∈ ez_T := ez_r1 (List.mem_of_getElem? (i := 221) rfl) rfl
theorem t_273 : Cond.methodLink "EditionEqualLaw" 7 ⟨"EditionEqual", "block", "(III)I"⟩ ∈ ez_T := ez_r1 (List.mem_of_getElem? (i := 224) rfl) rfl
theorem t_274 : Cond.instanceMethod ⟨"EditionEqual", "block", "(III)I"⟩ ∈ ez_T := ez_r1 (List.mem_of_getElem? (i := 225) rfl) rfl
theorem t_275 : Cond.selects "EditionEqual" ⟨"EditionEqual", "block", "(III)I"⟩ ⟨"EditionEqual", "block", "(III)I"⟩ ∈ ez_T := ez_r1 (List.mem_of_getElem? (i := 226) rfl) rfl
theorem t_276 : Cond.code ⟨"EditionEqual", "block", "(III)I"⟩ prog_1_method_2_code 5 (some .int) ∈ ez_T := ez_r1 (List.mem_of_getElem? (i := 227) rfl) rfl
theorem t_277 : Cond.methodLink "EditionEqual" 68 ⟨"EditionEqual", "editionOf", "(I)LEditionEqual$Edition;"⟩ ∈ ez_T := ez_r1 (List.mem_of_getElem? (i := 228) rfl) rfl
theorem t_279 : Cond.instanceMethod ⟨"EditionEqual", "editionOf", "(I)LEditionEqual$Edition;"⟩ ∈ ez_T := ez_r1 (List.mem_of_getElem? (i := 230) rfl) rfl
theorem t_280 : Cond.code ⟨"EditionEqual", "editionOf", "(I)LEditionEqual$Edition;"⟩ prog_1_method_20_code 2 (some (.object "EditionEqual$Edition")) ∈ ez_T := ez_r1 (List.mem_of_getElem? (i := 231) rfl) rfl
theorem t_281 : Cond.methodLink "EditionEqual" 172 ⟨"EditionEqual", "checkEdition", "(I)V"⟩ ∈ ez_T := ez_r1 (List.mem_of_getElem? (i := 232) rfl) rfl
theorem t_282 : Cond.static ⟨"EditionEqual", "checkEdition", "(I)V"⟩ ∈ ez_T := ez_r1 (List.mem_of_getElem? (i := 233) rfl) rfl
theorem t_283 : Cond.code ⟨"EditionEqual", "checkEdition", "(I)V"⟩ prog_1_method_28_code 1 none ∈ ez_T := ez_r1 (List.mem_of_getElem? (i := 234) rfl) rfl
theorem t_284 : Cond.methodLink "EditionEqual" 72 ⟨"EditionEqual", "isWithin", "(II)Z"⟩ ∈ ez_T := ez_r1 (List.mem_of_getElem? (i := 235) rfl) rfl
theorem t_285 : Cond.static ⟨"EditionEqual", "isWithin", "(II)Z"⟩ ∈ ez_T := ez_r1 (List.mem_of_getElem? (i := 236) rfl) rfl
theorem t_286 : Cond.code ⟨"EditionEqual", "isWithin", "(II)Z"⟩ prog_1_method_30_code 2 (some .boolean) ∈ ez_T := ez_r1 (List.mem_of_getElem? (i := 237) rfl) rfl
theorem t_354 : Cond.methodLink "EditionEqual" 76 ⟨"EditionEqual", "isNumberOfKind", "(II)Z"⟩ ∈ ez_T := ez_r2 (List.mem_of_getElem? (i := 65) rfl) rfl
theorem t_356 : Cond.instanceMethod ⟨"EditionEqual", "isNumberOfKind", "(II)Z"⟩ ∈ ez_T := ez_r2 (List.mem_of_getElem? (i := 67) rfl) rfl
theorem t_357 : Cond.code ⟨"EditionEqual", "isNumberOfKind", "(II)Z"⟩ prog_1_method_25_code 3 (some .boolean) ∈ ez_T := ez_r2 (List.mem_of_getElem? (i := 68) rfl) rfl
theorem t_359 : Cond.methodLink "EditionEqual" 86 ⟨"EditionEqual$Edition", "hasRoomFor", "(I)Z"⟩ ∈ ez_T := ez_r2 (List.mem_of_getElem? (i := 70) rfl) rfl
theorem t_360 : Cond.instanceMethod ⟨"EditionEqual$Edition", "hasRoomFor", "(I)Z"⟩ ∈ ez_T := ez_r2 (List.mem_of_getElem? (i := 71) rfl) rfl
theorem t_361 : Cond.selects "EditionEqual$Edition" ⟨"EditionEqual$Edition", "hasRoomFor", "(I)Z"⟩ ⟨"EditionEqual$Edition", "hasRoomFor", "(I)Z"⟩ ∈ ez_T := ez_r2 (List.mem_of_getElem? (i := 72) rfl) rfl
theorem t_362 : Cond.code ⟨"EditionEqual$Edition", "hasRoomFor", "(I)Z"⟩ prog_3_method_2_code 2 (some .boolean) ∈ ez_T := ez_r2 (List.mem_of_getElem? (i := 73) rfl) rfl
theorem t_379 : Cond.methodLink "EditionEqual" 95 ⟨"EditionEqual", "forgetAnswers", "()V"⟩ ∈ ez_T := ez_r2 (List.mem_of_getElem? (i := 90) rfl) rfl
theorem t_381 : Cond.instanceMethod ⟨"EditionEqual", "forgetAnswers", "()V"⟩ ∈ ez_T := ez_r2 (List.mem_of_getElem? (i := 92) rfl) rfl
theorem t_382 : Cond.code ⟨"EditionEqual", "forgetAnswers", "()V"⟩ prog_1_method_23_code 1 none ∈ ez_T := ez_r2 (List.mem_of_getElem? (i := 93) rfl) rfl
theorem t_383 : Cond.methodLink "EditionEqual" 207 ⟨"EditionEqual$Behaviour", "forget", "()V"⟩ ∈ ez_T := ez_r2 (List.mem_of_getElem? (i := 94) rfl) rfl
theorem t_384 : Cond.instanceMethod ⟨"EditionEqual$Behaviour", "forget", "()V"⟩ ∈ ez_T := ez_r2 (List.mem_of_getElem? (i := 95) rfl) rfl
theorem t_385 : Cond.selects "EditionEqual$Behaviour" ⟨"EditionEqual$Behaviour", "forget", "()V"⟩ ⟨"EditionEqual$Behaviour", "forget", "()V"⟩ ∈ ez_T := ez_r2 (List.mem_of_getElem? (i := 96) rfl) rfl
theorem t_386 : Cond.code ⟨"EditionEqual$Behaviour", "forget", "()V"⟩ prog_2_method_2_code 1 none ∈ ez_T := ez_r2 (List.mem_of_getElem? (i := 97) rfl) rfl
theorem t_387 : Cond.methodLink "EditionEqual" 210 ⟨"EditionEqual$PairSearch", "forget", "()V"⟩ ∈ ez_T := ez_r2 (List.mem_of_getElem? (i := 98) rfl) rfl
theorem t_388 : Cond.instanceMethod ⟨"EditionEqual$PairSearch", "forget", "()V"⟩ ∈ ez_T := ez_r2 (List.mem_of_getElem? (i := 99) rfl) rfl
theorem t_389 : Cond.selects "EditionEqual$PairSearch" ⟨"EditionEqual$PairSearch", "forget", "()V"⟩ ⟨"EditionEqual$PairSearch", "forget", "()V"⟩ ∈ ez_T := ez_r2 (List.mem_of_getElem? (i := 100) rfl) rfl
theorem t_390 : Cond.code ⟨"EditionEqual$PairSearch", "forget", "()V"⟩ prog_5_method_2_code 1 none ∈ ez_T := ez_r2 (List.mem_of_getElem? (i := 101) rfl) rfl
theorem t_391 : Cond.methodLink "EditionEqual" 98 ⟨"EditionEqual$Edition", "addBlock", "(II)I"⟩ ∈ ez_T := ez_r2 (List.mem_of_getElem? (i := 102) rfl) rfl
theorem t_392 : Cond.instanceMethod ⟨"EditionEqual$Edition", "addBlock", "(II)I"⟩ ∈ ez_T := ez_r2 (List.mem_of_getElem? (i := 103) rfl) rfl
theorem t_393 : Cond.selects "EditionEqual$Edition" ⟨"EditionEqual$Edition", "addBlock", "(II)I"⟩ ⟨"EditionEqual$Edition", "addBlock", "(II)I"⟩ ∈ ez_T := ez_r2 (List.mem_of_getElem? (i := 104) rfl) rfl
theorem t_394 : Cond.code ⟨"EditionEqual$Edition", "addBlock", "(II)I"⟩ prog_3_method_3_code 4 (some .int) ∈ ez_T := ez_r2 (List.mem_of_getElem? (i := 105) rfl) rfl
theorem t_395 : Cond.methodLink "EditionEqual$Edition" 49 ⟨"EditionEqual$Edition", "hasRoomFor", "(I)Z"⟩ ∈ ez_T := ez_r2 (List.mem_of_getElem? (i := 106) rfl) rfl
theorem t_396 : Cond.methodLink "EditionEqual$Edition" 53 ⟨"EditionEqual$Edition", "countNeeded", "(I)I"⟩ ∈ ez_T := ez_r2 (List.mem_of_getElem? (i := 107) rfl) rfl
theorem t_397 : Cond.static ⟨"EditionEqual$Edition", "countNeeded", "(I)I"⟩ ∈ ez_T := ez_r2 (List.mem_of_getElem? (i := 108) rfl) rfl
theorem t_398 : Cond.code ⟨"EditionEqual$Edition", "countNeeded", "(I)I"⟩ prog_3_method_4_code 1 (some .int) ∈ ez_T := ez_r2 (List.mem_of_getElem? (i := 109) rfl) rfl
theorem t_401 : Cond.codeWith ⟨"EditionEqualLaw", "wire", "(LEditionEqual;IIII[J)I"⟩ method_4_code 7 (some .int) [(0, 14, 17, 13)] ∈ ez_T := ez_r2 (List.mem_of_getElem? (i := 112) rfl) rfl
theorem t_402 : Cond.methodLink "EditionEqualLaw" 17 ⟨"EditionEqual", "wire", "(IIII)I"⟩ ∈ ez_T := ez_r2 (List.mem_of_getElem? (i := 113) rfl) rfl
theorem t_403 : Cond.instanceMethod ⟨"EditionEqual", "wire", "(IIII)I"⟩ ∈ ez_T := ez_r2 (List.mem_of_getElem? (i := 114) rfl) rfl
theorem t_404 : Cond.selects "EditionEqual" ⟨"EditionEqual", "wire", "(IIII)I"⟩ ⟨"EditionEqual", "wire", "(IIII)I"⟩ ∈ ez_T := ez_r2 (List.mem_of_getElem? (i := 115) rfl) rfl
theorem t_405 : Cond.code ⟨"EditionEqual", "wire", "(IIII)I"⟩ prog_1_method_3_code 6 (some .int) ∈ ez_T := ez_r2 (List.mem_of_getElem? (i := 116) rfl) rfl
theorem t_406 : Cond.methodLink "EditionEqual" 101 ⟨"EditionEqual$Edition", "hasBlock", "(I)Z"⟩ ∈ ez_T := ez_r2 (List.mem_of_getElem? (i := 117) rfl) rfl
theorem t_407 : Cond.instanceMethod ⟨"EditionEqual$Edition", "hasBlock", "(I)Z"⟩ ∈ ez_T := ez_r2 (List.mem_of_getElem? (i := 118) rfl) rfl
theorem t_408 : Cond.selects "EditionEqual$Edition" ⟨"EditionEqual$Edition", "hasBlock", "(I)Z"⟩ ⟨"EditionEqual$Edition", "hasBlock", "(I)Z"⟩ ∈ ez_T := ez_r2 (List.mem_of_getElem? (i := 119) rfl) rfl
theorem t_409 : Cond.code ⟨"EditionEqual$Edition", "hasBlock", "(I)Z"⟩ prog_3_method_9_code 2 (some .boolean) ∈ ez_T := ez_r2 (List.mem_of_getElem? (i := 120) rfl) rfl
theorem t_410 : Cond.methodLink "EditionEqual" 104 ⟨"EditionEqual$Edition", "hasBlockOrNone", "(I)Z"⟩ ∈ ez_T := ez_r2 (List.mem_of_getElem? (i := 121) rfl) rfl
theorem t_411 : Cond.instanceMethod ⟨"EditionEqual$Edition", "hasBlockOrNone", "(I)Z"⟩ ∈ ez_T := ez_r2 (List.mem_of_getElem? (i := 122) rfl) rfl
theorem t_412 : Cond.selects "EditionEqual$Edition" ⟨"EditionEqual$Edition", "hasBlockOrNone", "(I)Z"⟩ ⟨"EditionEqual$Edition", "hasBlockOrNone", "(I)Z"⟩ ∈ ez_T := ez_r2 (List.mem_of_getElem? (i := 123) rfl) rfl
theorem t_413 : Cond.code ⟨"EditionEqual$Edition", "hasBlockOrNone", "(I)Z"⟩ prog_3_method_10_code 2 (some .boolean) ∈ ez_T := ez_r2 (List.mem_of_getElem? (i := 124) rfl) rfl
theorem t_414 : Cond.methodLink "EditionEqual$Edition" 57 ⟨"EditionEqual$Edition", "hasBlock", "(I)Z"⟩ ∈ ez_T := ez_r2 (List.mem_of_getElem? (i := 125) rfl) rfl
theorem t_416 : Cond.methodLink "EditionEqual" 109 ⟨"EditionEqual$Edition", "rewire", "(III)I"⟩ ∈ ez_T := ez_r2 (List.mem_of_getElem? (i := 127) rfl) rfl
theorem t_417 : Cond.instanceMethod ⟨"EditionEqual$Edition", "rewire", "(III)I"⟩ ∈ ez_T := ez_r2 (List.mem_of_getElem? (i := 128) rfl) rfl
theorem t_418 : Cond.selects "EditionEqual$Edition" ⟨"EditionEqual$Edition", "rewire", "(III)I"⟩ ⟨"EditionEqual$Edition", "rewire", "(III)I"⟩ ∈ ez_T := ez_r2 (List.mem_of_getElem? (i := 129) rfl) rfl
theorem t_419 : Cond.code ⟨"EditionEqual$Edition", "rewire", "(III)I"⟩ prog_3_method_5_code 5 (some .int) ∈ ez_T := ez_r2 (List.mem_of_getElem? (i := 130) rfl) rfl
theorem t_420 : Cond.methodLinkNest "EditionEqual$Edition" 60 ⟨"EditionEqual", "isWithin", "(II)Z"⟩ "EditionEqual" ∈ ez_T := ez_r2 (List.mem_of_getElem? (i := 131) rfl) rfl
theorem t_421 : Cond.methodLink "EditionEqual$Edition" 64 ⟨"EditionEqual$Edition", "neededAt", "(II)I"⟩ ∈ ez_T := ez_r2 (List.mem_of_getElem? (i := 132) rfl) rfl
theorem t_422 : Cond.instanceMethod ⟨"EditionEqual$Edition", "neededAt", "(II)I"⟩ ∈ ez_T := ez_r2 (List.mem_of_getElem? (i := 133) rfl) rfl
theorem t_423 : Cond.selects "EditionEqual$Edition" ⟨"EditionEqual$Edition", "neededAt", "(II)I"⟩ ⟨"EditionEqual$Edition", "neededAt", "(II)I"⟩ ∈ ez_T := ez_r2 (List.mem_of_getElem? (i := 134) rfl) rfl
theorem t_424 : Cond.code ⟨"EditionEqual$Edition", "neededAt", "(II)I"⟩ prog_3_method_15_code 4 (some .int) ∈ ez_T := ez_r2 (List.mem_of_getElem? (i := 135) rfl) rfl
theorem t_425 : Cond.methodLinkNest "EditionEqual$Edition" 68 ⟨"EditionEqual", "bitOf", "(I)I"⟩ "EditionEqual" ∈ ez_T := ez_r2 (List.mem_of_getElem? (i := 136) rfl) rfl
theorem t_426 : Cond.static ⟨"EditionEqual", "bitOf", "(I)I"⟩ ∈ ez_T := ez_r2 (List.mem_of_getElem? (i := 137) rfl) rfl
theorem t_427 : Cond.code ⟨"EditionEqual", "bitOf", "(I)I"⟩ prog_1_method_31_code 1 (some .int) ∈ ez_T := ez_r2 (List.mem_of_getElem? (i := 138) rfl) rfl
theorem t_430 : Cond.codeWith ⟨"EditionEqualLaw", "out", "(LEditionEqual;III[J)I"⟩ method_5_code 6 (some .int) [(0, 12, 15, 13)] ∈ ez_T := ez_r2 (List.mem_of_getElem? (i := 141) rfl) rfl
theorem t_431 : Cond.methodLink "EditionEqualLaw" 21 ⟨"EditionEqual", "out", "(III)I"⟩ ∈ ez_T := ez_r2 (List.mem_of_getElem? (i := 142) rfl) rfl
theorem t_432 : Cond.instanceMethod ⟨"EditionEqual", "out", "(III)I"⟩ ∈ ez_T := ez_r2 (List.mem_of_getElem? (i := 143) rfl) rfl
theorem t_433 : Cond.selects "EditionEqual" ⟨"EditionEqual", "out", "(III)I"⟩ ⟨"EditionEqual", "out", "(III)I"⟩ ∈ ez_T := ez_r2 (List.mem_of_getElem? (i := 144) rfl) rfl
theorem t_434 : Cond.code ⟨"EditionEqual", "out", "(III)I"⟩ prog_1_method_4_code 5 (some .int) ∈ ez_T := ez_r2 (List.mem_of_getElem? (i := 145) rfl) rfl
theorem t_436 : Cond.methodLink "EditionEqual" 115 ⟨"EditionEqual$Edition", "changeOutput", "(II)I"⟩ ∈ ez_T := ez_r2 (List.mem_of_getElem? (i := 147) rfl) rfl
theorem t_437 : Cond.instanceMethod ⟨"EditionEqual$Edition", "changeOutput", "(II)I"⟩ ∈ ez_T := ez_r2 (List.mem_of_getElem? (i := 148) rfl) rfl
theorem t_438 : Cond.selects "EditionEqual$Edition" ⟨"EditionEqual$Edition", "changeOutput", "(II)I"⟩ ⟨"EditionEqual$Edition", "changeOutput", "(II)I"⟩ ∈ ez_T := ez_r2 (List.mem_of_getElem? (i := 149) rfl) rfl
theorem t_439 : Cond.code ⟨"EditionEqual$Edition", "changeOutput", "(II)I"⟩ prog_3_method_6_code 4 (some .int) ∈ ez_T := ez_r2 (List.mem_of_getElem? (i := 150) rfl) rfl
theorem t_440 : Cond.methodLink "EditionEqual$Edition" 71 ⟨"EditionEqual$Edition", "outputAt", "(I)I"⟩ ∈ ez_T := ez_r2 (List.mem_of_getElem? (i := 151) rfl) rfl
theorem t_441 : Cond.instanceMethod ⟨"EditionEqual$Edition", "outputAt", "(I)I"⟩ ∈ ez_T := ez_r2 (List.mem_of_getElem? (i := 152) rfl) rfl
theorem t_442 : Cond.selects "EditionEqual$Edition" ⟨"EditionEqual$Edition", "outputAt", "(I)I"⟩ ⟨"EditionEqual$Edition", "outputAt", "(I)I"⟩ ∈ ez_T := ez_r2 (List.mem_of_getElem? (i := 153) rfl) rfl
theorem t_443 : Cond.code ⟨"EditionEqual$Edition", "outputAt", "(I)I"⟩ prog_3_method_13_code 2 (some .int) ∈ ez_T := ez_r2 (List.mem_of_getElem? (i := 154) rfl) rfl
theorem t_446 : Cond.codeWith ⟨"EditionEqualLaw", "bar", "(LEditionEqual;IZ[J)I"⟩ method_6_code 5 (some .int) [(0, 17, 20, 13)] ∈ ez_T := ez_r2 (List.mem_of_getElem? (i := 157) rfl) rfl
theorem t_447 : Cond.methodLink "EditionEqualLaw" 24 ⟨"EditionEqual", "bar", "(IZ)Z"⟩ ∈ ez_T := ez_r2 (List.mem_of_getElem? (i := 158) rfl) rfl
theorem t_448 : Cond.instanceMethod ⟨"EditionEqual", "bar", "(IZ)Z"⟩ ∈ ez_T := ez_r2 (List.mem_of_getElem? (i := 159) rfl) rfl
theorem t_449 : Cond.selects "EditionEqual" ⟨"EditionEqual", "bar", "(IZ)Z"⟩ ⟨"EditionEqual", "bar", "(IZ)Z"⟩ ∈ ez_T := ez_r2 (List.mem_of_getElem? (i := 160) rfl) rfl
theorem t_450 : Cond.code ⟨"EditionEqual", "bar", "(IZ)Z"⟩ prog_1_method_5_code 5 (some .boolean) ∈ ez_T := ez_r2 (List.mem_of_getElem? (i := 161) rfl) rfl
theorem t_451 : Cond.methodLink "EditionEqual" 118 ⟨"EditionEqual", "checkRow", "(I)V"⟩ ∈ ez_T := ez_r2 (List.mem_of_getElem? (i := 162) rfl) rfl
theorem t_453 : Cond.instanceMethod ⟨"EditionEqual", "checkRow", "(I)V"⟩ ∈ ez_T := ez_r2 (List.mem_of_getElem? (i := 164) rfl) rfl
theorem t_454 : Cond.code ⟨"EditionEqual", "checkRow", "(I)V"⟩ prog_1_method_26_code 2 none ∈ ez_T := ez_r2 (List.mem_of_getElem? (i := 165) rfl) rfl
theorem t_458 : Cond.codeWith ⟨"EditionEqualLaw", "wrong", "(LEditionEqual;I[J)I"⟩ method_7_code 4 (some .int) [(0, 9, 12, 13)] ∈ ez_T := ez_r2 (List.mem_of_getElem? (i := 169) rfl) rfl
theorem t_459 : Cond.methodLink "EditionEqualLaw" 28 ⟨"EditionEqual", "wrong", "(I)I"⟩ ∈ ez_T := ez_r2 (List.mem_of_getElem? (i := 170) rfl) rfl
theorem t_460 : Cond.instanceMethod ⟨"EditionEqual", "wrong", "(I)I"⟩ ∈ ez_T := ez_r2 (List.mem_of_getElem? (i := 171) rfl) rfl
theorem t_461 : Cond.selects "EditionEqual" ⟨"EditionEqual", "wrong", "(I)I"⟩ ⟨"EditionEqual", "wrong", "(I)I"⟩ ∈ ez_T := ez_r2 (List.mem_of_getElem? (i := 172) rfl) rfl
theorem t_462 : Cond.code ⟨"EditionEqual", "wrong", "(I)I"⟩ prog_1_method_6_code 2 (some .int) ∈ ez_T := ez_r2 (List.mem_of_getElem? (i := 173) rfl) rfl
theorem t_463 : Cond.methodLink "EditionEqual" 122 ⟨"EditionEqual$Edition", "firstFault", "()I"⟩ ∈ ez_T := ez_r2 (List.mem_of_getElem? (i := 174) rfl) rfl
theorem t_464 : Cond.instanceMethod ⟨"EditionEqual$Edition", "firstFault", "()I"⟩ ∈ ez_T := ez_r2 (List.mem_of_getElem? (i := 175) rfl) rfl
theorem t_465 : Cond.selects "EditionEqual$Edition" ⟨"EditionEqual$Edition", "firstFault", "()I"⟩ ⟨"EditionEqual$Edition", "firstFault", "()I"⟩ ∈ ez_T := ez_r2 (List.mem_of_getElem? (i := 176) rfl) rfl
theorem t_466 : Cond.code ⟨"EditionEqual$Edition", "firstFault", "()I"⟩ prog_3_method_17_code 2 (some .int) ∈ ez_T := ez_r2 (List.mem_of_getElem? (i := 177) rfl) rfl
theorem t_467 : Cond.methodLink "EditionEqual$Edition" 74 ⟨"EditionEqual$Edition", "firstUnwired", "()I"⟩ ∈ ez_T := ez_r2 (List.mem_of_getElem? (i := 178) rfl) rfl
theorem t_469 : Cond.instanceMethod ⟨"EditionEqual$Edition", "firstUnwired", "()I"⟩ ∈ ez_T := ez_r2 (List.mem_of_getElem? (i := 180) rfl) rfl
theorem t_470 : Cond.code ⟨"EditionEqual$Edition", "firstUnwired", "()I"⟩ prog_3_method_18_code 3 (some .int) ∈ ez_T := ez_r2 (List.mem_of_getElem? (i := 181) rfl) rfl
theorem t_471 : Cond.methodLink "EditionEqual$Edition" 78 ⟨"EditionEqual$Edition", "firstComingBack", "()I"⟩ ∈ ez_T := ez_r2 (List.mem_of_getElem? (i := 182) rfl) rfl
theorem t_473 : Cond.instanceMethod ⟨"EditionEqual$Edition", "firstComingBack", "()I"⟩ ∈ ez_T := ez_r2 (List.mem_of_getElem? (i := 184) rfl) rfl
theorem t_474 : Cond.code ⟨"EditionEqual$Edition", "firstComingBack", "()I"⟩ prog_3_method_19_code 3 (some .int) ∈ ez_T := ez_r2 (List.mem_of_getElem? (i := 185) rfl) rfl
theorem t_475 : Cond.methodLink "EditionEqual$Edition" 81 ⟨"EditionEqual$Edition", "neededInTick", "(I)I"⟩ ∈ ez_T := ez_r2 (List.mem_of_getElem? (i := 186) rfl) rfl
theorem t_476 : Cond.instanceMethod ⟨"EditionEqual$Edition", "neededInTick", "(I)I"⟩ ∈ ez_T := ez_r2 (List.mem_of_getElem? (i := 187) rfl) rfl
theorem t_477 : Cond.selects "EditionEqual$Edition" ⟨"EditionEqual$Edition", "neededInTick", "(I)I"⟩ ⟨"EditionEqual$Edition", "neededInTick", "(I)I"⟩ ∈ ez_T := ez_r2 (List.mem_of_getElem? (i := 188) rfl) rfl
theorem t_478 : Cond.code ⟨"EditionEqual$Edition", "neededInTick", "(I)I"⟩ prog_3_method_16_code 2 (some .int) ∈ ez_T := ez_r2 (List.mem_of_getElem? (i := 189) rfl) rfl
theorem t_479 : Cond.methodLinkNest "EditionEqual$Edition" 84 ⟨"EditionEqual", "holds", "(II)Z"⟩ "EditionEqual" ∈ ez_T := ez_r2 (List.mem_of_getElem? (i := 190) rfl) rfl
theorem t_480 : Cond.static ⟨"EditionEqual", "holds", "(II)Z"⟩ ∈ ez_T := ez_r2 (List.mem_of_getElem? (i := 191) rfl) rfl
theorem t_481 : Cond.code ⟨"EditionEqual", "holds", "(II)Z"⟩ prog_1_method_32_code 2 (some .boolean) ∈ ez_T := ez_r2 (List.mem_of_getElem? (i := 192) rfl) rfl
theorem t_484 : Cond.codeWith ⟨"EditionEqualLaw", "value", "(LEditionEqual;IIII[J)I"⟩ method_8_code 7 (some .int) [(0, 14, 17, 13), (0, 14, 21, 15)] ∈ ez_T := ez_r2 (List.mem_of_getElem? (i := 195) rfl) rfl
theorem t_485 : Cond.methodLink "EditionEqualLaw" 32 ⟨"EditionEqual", "value", "(IIII)I"⟩ ∈ ez_T := ez_r2 (List.mem_of_getElem? (i := 196) rfl) rfl
theorem t_486 : Cond.instanceMethod ⟨"EditionEqual", "value", "(IIII)I"⟩ ∈ ez_T := ez_r2 (List.mem_of_getElem? (i := 197) rfl) rfl
theorem t_487 : Cond.selects "EditionEqual" ⟨"EditionEqual", "value", "(IIII)I"⟩ ⟨"EditionEqual", "value", "(IIII)I"⟩ ∈ ez_T := ez_r2 (List.mem_of_getElem? (i := 198) rfl) rfl
theorem t_488 : Cond.code ⟨"EditionEqual", "value", "(IIII)I"⟩ prog_1_method_7_code 5 (some .int) ∈ ez_T := ez_r2 (List.mem_of_getElem? (i := 199) rfl) rfl
theorem t_489 : Cond.methodLink "EditionEqual" 126 ⟨"EditionEqual", "checkBlock", "(LEditionEqual$Edition;I)V"⟩ ∈ ez_T := ez_r2 (List.mem_of_getElem? (i := 200) rfl) rfl
theorem t_490 : Cond.static ⟨"EditionEqual", "checkBlock", "(LEditionEqual$Edition;I)V"⟩ ∈ ez_T := ez_r2 (List.mem_of_getElem? (i := 201) rfl) rfl
theorem t_491 : Cond.code ⟨"EditionEqual", "checkBlock", "(LEditionEqual$Edition;I)V"⟩ prog_1_method_29_code 2 none ∈ ez_T := ez_r2 (List.mem_of_getElem? (i := 202) rfl) rfl
theorem t_493 : Cond.methodLink "EditionEqual" 130 ⟨"EditionEqual", "behaviourOf", "(I)LEditionEqual$Behaviour;"⟩ ∈ ez_T := ez_r2 (List.mem_of_getElem? (i := 204) rfl) rfl
theorem t_495 : Cond.instanceMethod ⟨"EditionEqual", "behaviourOf", "(I)LEditionEqual$Behaviour;"⟩ ∈ ez_T := ez_r2 (List.mem_of_getElem? (i := 206) rfl) rfl
theorem t_496 : Cond.code ⟨"EditionEqual", "behaviourOf", "(I)LEditionEqual$Behaviour;"⟩ prog_1_method_21_code 3 (some (.object "EditionEqual$Behaviour")) ∈ ez_T := ez_r2 (List.mem_of_getElem? (i := 207) rfl) rfl
theorem t_498 : Cond.methodLink "EditionEqual" 152 ⟨"EditionEqual", "openRows", "()I"⟩ ∈ ez_T := ez_r2 (List.mem_of_getElem? (i := 209) rfl) rfl
theorem t_500 : Cond.instanceMethod ⟨"EditionEqual", "openRows", "()I"⟩ ∈ ez_T := ez_r2 (List.mem_of_getElem? (i := 211) rfl) rfl
theorem t_501 : Cond.code ⟨"EditionEqual", "openRows", "()I"⟩ prog_1_method_24_code 1 (some .int) ∈ ez_T := ez_r2 (List.mem_of_getElem? (i := 212) rfl) rfl
theorem t_502 : Cond.methodLink "EditionEqual" 201 ⟨"EditionEqual$Behaviour", "learn", "(II)V"⟩ ∈ ez_T := ez_r2 (List.mem_of_getElem? (i := 213) rfl) rfl
theorem t_503 : Cond.instanceMethod ⟨"EditionEqual$Behaviour", "learn", "(II)V"⟩ ∈ ez_T := ez_r2 (List.mem_of_getElem? (i := 214) rfl) rfl
theorem t_504 : Cond.selects "EditionEqual$Behaviour" ⟨"EditionEqual$Behaviour", "learn", "(II)V"⟩ ⟨"EditionEqual$Behaviour", "learn", "(II)V"⟩ ∈ ez_T := ez_r2 (List.mem_of_getElem? (i := 215) rfl) rfl
theorem t_505 : Cond.code ⟨"EditionEqual$Behaviour", "learn", "(II)V"⟩ prog_2_method_3_code 4 none ∈ ez_T := ez_r2 (List.mem_of_getElem? (i := 216) rfl) rfl
theorem t_506 : Cond.methodLink "EditionEqual$Behaviour" 54 ⟨"EditionEqual$Edition", "countDelays", "()I"⟩ ∈ ez_T := ez_r2 (List.mem_of_getElem? (i := 217) rfl) rfl
theorem t_507 : Cond.instanceMethod ⟨"EditionEqual$Edition", "countDelays", "()I"⟩ ∈ ez_T := ez_r2 (List.mem_of_getElem? (i := 218) rfl) rfl
theorem t_508 : Cond.selects "EditionEqual$Edition" ⟨"EditionEqual$Edition", "countDelays", "()I"⟩ ⟨"EditionEqual$Edition", "countDelays", "()I"⟩ ∈ ez_T := ez_r2 (List.mem_of_getElem? (i := 219) rfl) rfl
theorem t_509 : Cond.code ⟨"EditionEqual$Edition", "countDelays", "()I"⟩ prog_3_method_8_code 1 (some .int) ∈ ez_T := ez_r2 (List.mem_of_getElem? (i := 220) rfl) rfl
theorem t_510 : Cond.methodLink "EditionEqual$Behaviour" 60 ⟨"EditionEqual$Behaviour", "orderBlocks", "()V"⟩ ∈ ez_T := ez_r2 (List.mem_of_getElem? (i := 221) rfl) rfl
theorem t_512 : Cond.instanceMethod ⟨"EditionEqual$Behaviour", "orderBlocks", "()V"⟩ ∈ ez_T := ez_r2 (List.mem_of_getElem? (i := 223) rfl) rfl
theorem t_513 : Cond.code ⟨"EditionEqual$Behaviour", "orderBlocks", "()V"⟩ prog_2_method_10_code 5 none ∈ ez_T := ez_r2 (List.mem_of_getElem? (i := 224) rfl) rfl
theorem t_514 : Cond.methodLink "EditionEqual$Behaviour" 93 ⟨"EditionEqual$Edition", "countBlocks", "()I"⟩ ∈ ez_T := ez_r2 (List.mem_of_getElem? (i := 225) rfl) rfl
theorem t_515 : Cond.instanceMethod ⟨"EditionEqual$Edition", "countBlocks", "()I"⟩ ∈ ez_T := ez_r2 (List.mem_of_getElem? (i := 226) rfl) rfl
theorem t_516 : Cond.selects "EditionEqual$Edition" ⟨"EditionEqual$Edition", "countBlocks", "()I"⟩ ⟨"EditionEqual$Edition", "countBlocks", "()I"⟩ ∈ ez_T := ez_r2 (List.mem_of_getElem? (i := 227) rfl) rfl
theorem t_517 : Cond.code ⟨"EditionEqual$Edition", "countBlocks", "()I"⟩ prog_3_method_7_code 1 (some .int) ∈ ez_T := ez_r2 (List.mem_of_getElem? (i := 228) rfl) rfl
theorem t_518 : Cond.methodLink "EditionEqual$Behaviour" 96 ⟨"EditionEqual$Edition", "neededInTick", "(I)I"⟩ ∈ ez_T := ez_r2 (List.mem_of_getElem? (i := 229) rfl) rfl
theorem t_519 : Cond.methodLinkNest "EditionEqual$Behaviour" 90 ⟨"EditionEqual", "holds", "(II)Z"⟩ "EditionEqual" ∈ ez_T := ez_r2 (List.mem_of_getElem? (i := 230) rfl) rfl
theorem t_520 : Cond.methodLinkNest "EditionEqual$Behaviour" 99 ⟨"EditionEqual", "bitOf", "(I)I"⟩ "EditionEqual" ∈ ez_T := ez_r2 (List.mem_of_getElem? (i := 231) rfl) rfl
theorem t_521 : Cond.methodLink "EditionEqual$Behaviour" 63 ⟨"EditionEqual$Behaviour", "fillColumns", "(I)V"⟩ ∈ ez_T := ez_r2 (List.mem_of_getElem? (i := 232) rfl) rfl
theorem t_523 : Cond.instanceMethod ⟨"EditionEqual$Behaviour", "fillColumns", "(I)V"⟩ ∈ ez_T := ez_r2 (List.mem_of_getElem? (i := 234) rfl) rfl
theorem t_524 : Cond.code ⟨"EditionEqual$Behaviour", "fillColumns", "(I)V"⟩ prog_2_method_11_code 4 none ∈ ez_T := ez_r2 (List.mem_of_getElem? (i := 235) rfl) rfl
theorem t_525 : Cond.methodLink "EditionEqual$Behaviour" 102 ⟨"EditionEqual$Behaviour", "workOutColumn", "(II)I"⟩ ∈ ez_T := ez_r2 (List.mem_of_getElem? (i := 236) rfl) rfl
theorem t_527 : Cond.instanceMethod ⟨"EditionEqual$Behaviour", "workOutColumn", "(II)I"⟩ ∈ ez_T := ez_r2 (List.mem_of_getElem? (i := 238) rfl) rfl
theorem t_528 : Cond.code ⟨"EditionEqual$Behaviour", "workOutColumn", "(II)I"⟩ prog_2_method_12_code 6 (some .int) ∈ ez_T := ez_r2 (List.mem_of_getElem? (i := 239) rfl) rfl
theorem t_529 : Cond.methodLink "EditionEqual$Behaviour" 105 ⟨"EditionEqual$Edition", "numberOf", "(I)I"⟩ ∈ ez_T := ez_r3 (List.mem_of_getElem? (i := 0) rfl) rfl
theorem t_530 : Cond.instanceMethod ⟨"EditionEqual$Edition", "numberOf", "(I)I"⟩ ∈ ez_T := ez_r3 (List.mem_of_getElem? (i := 1) rfl) rfl
theorem t_531 : Cond.selects "EditionEqual$Edition" ⟨"EditionEqual$Edition", "numberOf", "(I)I"⟩ ⟨"EditionEqual$Edition", "numberOf", "(I)I"⟩ ∈ ez_T := ez_r3 (List.mem_of_getElem? (i := 2) rfl) rfl
theorem t_532 : Cond.code ⟨"EditionEqual$Edition", "numberOf", "(I)I"⟩ prog_3_method_12_code 2 (some .int) ∈ ez_T := ez_r3 (List.mem_of_getElem? (i := 3) rfl) rfl
theorem t_533 : Cond.methodLink "EditionEqual$Behaviour" 108 ⟨"EditionEqual$Edition", "neededAt", "(II)I"⟩ ∈ ez_T := ez_r3 (List.mem_of_getElem? (i := 4) rfl) rfl
theorem t_534 : Cond.methodLink "EditionEqual$Behaviour" 73 ⟨"EditionEqual$Behaviour", "columnAt", "(II)I"⟩ ∈ ez_T := ez_r3 (List.mem_of_getElem? (i := 5) rfl) rfl
theorem t_536 : Cond.instanceMethod ⟨"EditionEqual$Behaviour", "columnAt", "(II)I"⟩ ∈ ez_T := ez_r3 (List.mem_of_getElem? (i := 7) rfl) rfl
theorem t_537 : Cond.code ⟨"EditionEqual$Behaviour", "columnAt", "(II)I"⟩ prog_2_method_13_code 4 (some .int) ∈ ez_T := ez_r3 (List.mem_of_getElem? (i := 8) rfl) rfl
theorem t_538 : Cond.methodLinkNest "EditionEqual$Behaviour" 77 ⟨"EditionEqual", "isWithin", "(II)Z"⟩ "EditionEqual" ∈ ez_T := ez_r3 (List.mem_of_getElem? (i := 9) rfl) rfl
theorem t_539 : Cond.methodLink "EditionEqual$Behaviour" 111 ⟨"EditionEqual$Edition", "kindOf", "(I)I"⟩ ∈ ez_T := ez_r3 (List.mem_of_getElem? (i := 10) rfl) rfl
theorem t_540 : Cond.instanceMethod ⟨"EditionEqual$Edition", "kindOf", "(I)I"⟩ ∈ ez_T := ez_r3 (List.mem_of_getElem? (i := 11) rfl) rfl
theorem t_541 : Cond.selects "EditionEqual$Edition" ⟨"EditionEqual$Edition", "kindOf", "(I)I"⟩ ⟨"EditionEqual$Edition", "kindOf", "(I)I"⟩ ∈ ez_T := ez_r3 (List.mem_of_getElem? (i := 12) rfl) rfl
theorem t_542 : Cond.code ⟨"EditionEqual$Edition", "kindOf", "(I)I"⟩ prog_3_method_11_code 2 (some .int) ∈ ez_T := ez_r3 (List.mem_of_getElem? (i := 13) rfl) rfl
theorem t_545 : Cond.methodLink "EditionEqual$Behaviour" 67 ⟨"EditionEqual$Behaviour", "fillTicks", "(I)V"⟩ ∈ ez_T := ez_r3 (List.mem_of_getElem? (i := 16) rfl) rfl
theorem t_547 : Cond.instanceMethod ⟨"EditionEqual$Behaviour", "fillTicks", "(I)V"⟩ ∈ ez_T := ez_r3 (List.mem_of_getElem? (i := 18) rfl) rfl
theorem t_548 : Cond.code ⟨"EditionEqual$Behaviour", "fillTicks", "(I)V"⟩ prog_2_method_14_code 7 none ∈ ez_T := ez_r3 (List.mem_of_getElem? (i := 19) rfl) rfl
theorem t_549 : Cond.methodLink "EditionEqual$Behaviour" 117 ⟨"EditionEqual$Edition", "outputAt", "(I)I"⟩ ∈ ez_T := ez_r3 (List.mem_of_getElem? (i := 20) rfl) rfl
theorem t_550 : Cond.methodLink "EditionEqual$Behaviour" 120 ⟨"EditionEqual$Behaviour", "valueOf", "(III)I"⟩ ∈ ez_T := ez_r3 (List.mem_of_getElem? (i := 21) rfl) rfl
theorem t_551 : Cond.instanceMethod ⟨"EditionEqual$Behaviour", "valueOf", "(III)I"⟩ ∈ ez_T := ez_r3 (List.mem_of_getElem? (i := 22) rfl) rfl
theorem t_552 : Cond.selects "EditionEqual$Behaviour" ⟨"EditionEqual$Behaviour", "valueOf", "(III)I"⟩ ⟨"EditionEqual$Behaviour", "valueOf", "(III)I"⟩ ∈ ez_T := ez_r3 (List.mem_of_getElem? (i := 23) rfl) rfl
theorem t_553 : Cond.code ⟨"EditionEqual$Behaviour", "valueOf", "(III)I"⟩ prog_2_method_4_code 4 (some .int) ∈ ez_T := ez_r3 (List.mem_of_getElem? (i := 24) rfl) rfl
theorem t_554 : Cond.methodLink "EditionEqual$Behaviour" 124 ⟨"EditionEqual$Edition", "delayAt", "(I)I"⟩ ∈ ez_T := ez_r3 (List.mem_of_getElem? (i := 25) rfl) rfl
theorem t_555 : Cond.instanceMethod ⟨"EditionEqual$Edition", "delayAt", "(I)I"⟩ ∈ ez_T := ez_r3 (List.mem_of_getElem? (i := 26) rfl) rfl
theorem t_556 : Cond.selects "EditionEqual$Edition" ⟨"EditionEqual$Edition", "delayAt", "(I)I"⟩ ⟨"EditionEqual$Edition", "delayAt", "(I)I"⟩ ∈ ez_T := ez_r3 (List.mem_of_getElem? (i := 27) rfl) rfl
theorem t_557 : Cond.code ⟨"EditionEqual$Edition", "delayAt", "(I)I"⟩ prog_3_method_14_code 2 (some .int) ∈ ez_T := ez_r3 (List.mem_of_getElem? (i := 28) rfl) rfl
theorem t_558 : Cond.methodLink "EditionEqual$Behaviour" 70 ⟨"EditionEqual$Behaviour", "findReached", "(I)V"⟩ ∈ ez_T := ez_r3 (List.mem_of_getElem? (i := 29) rfl) rfl
theorem t_560 : Cond.instanceMethod ⟨"EditionEqual$Behaviour", "findReached", "(I)V"⟩ ∈ ez_T := ez_r3 (List.mem_of_getElem? (i := 31) rfl) rfl
theorem t_561 : Cond.code ⟨"EditionEqual$Behaviour", "findReached", "(I)V"⟩ prog_2_method_15_code 6 none ∈ ez_T := ez_r3 (List.mem_of_getElem? (i := 32) rfl) rfl
theorem t_562 : Cond.methodLink "EditionEqual$Behaviour" 127 ⟨"EditionEqual$Behaviour", "stateAfter", "(II)I"⟩ ∈ ez_T := ez_r3 (List.mem_of_getElem? (i := 33) rfl) rfl
theorem t_563 : Cond.instanceMethod ⟨"EditionEqual$Behaviour", "stateAfter", "(II)I"⟩ ∈ ez_T := ez_r3 (List.mem_of_getElem? (i := 34) rfl) rfl
theorem t_564 : Cond.selects "EditionEqual$Behaviour" ⟨"EditionEqual$Behaviour", "stateAfter", "(II)I"⟩ ⟨"EditionEqual$Behaviour", "stateAfter", "(II)I"⟩ ∈ ez_T := ez_r3 (List.mem_of_getElem? (i := 35) rfl) rfl
theorem t_565 : Cond.code ⟨"EditionEqual$Behaviour", "stateAfter", "(II)I"⟩ prog_2_method_6_code 3 (some .int) ∈ ez_T := ez_r3 (List.mem_of_getElem? (i := 36) rfl) rfl
theorem t_566 : Cond.methodLink "EditionEqual$Behaviour" 81 ⟨"EditionEqual$Behaviour", "placeOf", "(II)I"⟩ ∈ ez_T := ez_r3 (List.mem_of_getElem? (i := 37) rfl) rfl
theorem t_568 : Cond.instanceMethod ⟨"EditionEqual$Behaviour", "placeOf", "(II)I"⟩ ∈ ez_T := ez_r3 (List.mem_of_getElem? (i := 39) rfl) rfl
theorem t_569 : Cond.code ⟨"EditionEqual$Behaviour", "placeOf", "(II)I"⟩ prog_2_method_9_code 3 (some .int) ∈ ez_T := ez_r3 (List.mem_of_getElem? (i := 40) rfl) rfl
theorem t_570 : Cond.methodLink "EditionEqual" 134 ⟨"EditionEqual$Behaviour", "valueOf", "(III)I"⟩ ∈ ez_T := ez_r3 (List.mem_of_getElem? (i := 41) rfl) rfl
theorem t_573 : Cond.codeWith ⟨"EditionEqualLaw", "tick", "(LEditionEqual;III[J)I"⟩ method_9_code 6 (some .int) [(0, 12, 15, 13), (0, 12, 19, 15)] ∈ ez_T := ez_r3 (List.mem_of_getElem? (i := 44) rfl) rfl
theorem t_574 : Cond.methodLink "EditionEqualLaw" 35 ⟨"EditionEqual", "tick", "(III)I"⟩ ∈ ez_T := ez_r3 (List.mem_of_getElem? (i := 45) rfl) rfl
theorem t_575 : Cond.instanceMethod ⟨"EditionEqual", "tick", "(III)I"⟩ ∈ ez_T := ez_r3 (List.mem_of_getElem? (i := 46) rfl) rfl
theorem t_576 : Cond.selects "EditionEqual" ⟨"EditionEqual", "tick", "(III)I"⟩ ⟨"EditionEqual", "tick", "(III)I"⟩ ∈ ez_T := ez_r3 (List.mem_of_getElem? (i := 47) rfl) rfl
theorem t_577 : Cond.code ⟨"EditionEqual", "tick", "(III)I"⟩ prog_1_method_8_code 5 (some .int) ∈ ez_T := ez_r3 (List.mem_of_getElem? (i := 48) rfl) rfl
theorem t_578 : Cond.methodLink "EditionEqual" 137 ⟨"EditionEqual$Behaviour", "outsOf", "(II)I"⟩ ∈ ez_T := ez_r3 (List.mem_of_getElem? (i := 49) rfl) rfl
theorem t_579 : Cond.instanceMethod ⟨"EditionEqual$Behaviour", "outsOf", "(II)I"⟩ ∈ ez_T := ez_r3 (List.mem_of_getElem? (i := 50) rfl) rfl
theorem t_580 : Cond.selects "EditionEqual$Behaviour" ⟨"EditionEqual$Behaviour", "outsOf", "(II)I"⟩ ⟨"EditionEqual$Behaviour", "outsOf", "(II)I"⟩ ∈ ez_T := ez_r3 (List.mem_of_getElem? (i := 51) rfl) rfl
theorem t_581 : Cond.code ⟨"EditionEqual$Behaviour", "outsOf", "(II)I"⟩ prog_2_method_5_code 3 (some .int) ∈ ez_T := ez_r3 (List.mem_of_getElem? (i := 52) rfl) rfl
theorem t_582 : Cond.methodLink "EditionEqual" 140 ⟨"EditionEqual$Behaviour", "stateAfter", "(II)I"⟩ ∈ ez_T := ez_r3 (List.mem_of_getElem? (i := 53) rfl) rfl
theorem t_585 : Cond.codeWith ⟨"EditionEqualLaw", "reached", "(LEditionEqual;I[J)I"⟩ method_10_code 4 (some .int) [(0, 9, 12, 13), (0, 9, 15, 15)] ∈ ez_T := ez_r3 (List.mem_of_getElem? (i := 56) rfl) rfl
theorem t_586 : Cond.methodLink "EditionEqualLaw" 38 ⟨"EditionEqual", "reached", "(I)I"⟩ ∈ ez_T := ez_r3 (List.mem_of_getElem? (i := 57) rfl) rfl
theorem t_587 : Cond.instanceMethod ⟨"EditionEqual", "reached", "(I)I"⟩ ∈ ez_T := ez_r3 (List.mem_of_getElem? (i := 58) rfl) rfl
theorem t_588 : Cond.selects "EditionEqual" ⟨"EditionEqual", "reached", "(I)I"⟩ ⟨"EditionEqual", "reached", "(I)I"⟩ ∈ ez_T := ez_r3 (List.mem_of_getElem? (i := 59) rfl) rfl
theorem t_589 : Cond.code ⟨"EditionEqual", "reached", "(I)I"⟩ prog_1_method_9_code 2 (some .int) ∈ ez_T := ez_r3 (List.mem_of_getElem? (i := 60) rfl) rfl
theorem t_590 : Cond.methodLink "EditionEqual" 143 ⟨"EditionEqual$Behaviour", "countReached", "()I"⟩ ∈ ez_T := ez_r3 (List.mem_of_getElem? (i := 61) rfl) rfl
theorem t_591 : Cond.instanceMethod ⟨"EditionEqual$Behaviour", "countReached", "()I"⟩ ∈ ez_T := ez_r3 (List.mem_of_getElem? (i := 62) rfl) rfl
theorem t_592 : Cond.selects "EditionEqual$Behaviour" ⟨"EditionEqual$Behaviour", "countReached", "()I"⟩ ⟨"EditionEqual$Behaviour", "countReached", "()I"⟩ ∈ ez_T := ez_r3 (List.mem_of_getElem? (i := 63) rfl) rfl
theorem t_593 : Cond.code ⟨"EditionEqual$Behaviour", "countReached", "()I"⟩ prog_2_method_7_code 1 (some .int) ∈ ez_T := ez_r3 (List.mem_of_getElem? (i := 64) rfl) rfl
theorem t_594 : Cond.methodLink "EditionEqual$Behaviour" 84 ⟨"java/lang/Integer", "bitCount", "(I)I"⟩ ∈ ez_T := ez_r3 (List.mem_of_getElem? (i := 65) rfl) rfl
theorem t_595 : Cond.static ⟨"java/lang/Integer", "bitCount", "(I)I"⟩ ∈ ez_T := ez_r3 (List.mem_of_getElem? (i := 66) rfl) rfl
theorem t_596 : Cond.code ⟨"java/lang/Integer", "bitCount", "(I)I"⟩ prog_11_method_49_code 1 (some .int) ∈ ez_T := ez_r3 (List.mem_of_getElem? (i := 67) rfl) rfl
theorem t_602 : Cond.codeWith ⟨"EditionEqualLaw", "state", "(LEditionEqual;II[J)I"⟩ method_11_code 5 (some .int) [(0, 10, 13, 13), (0, 10, 17, 15)] ∈ ez_T := ez_r3 (List.mem_of_getElem? (i := 73) rfl) rfl
theorem t_603 : Cond.methodLink "EditionEqualLaw" 41 ⟨"EditionEqual", "state", "(II)I"⟩ ∈ ez_T := ez_r3 (List.mem_of_getElem? (i := 74) rfl) rfl
theorem t_604 : Cond.instanceMethod ⟨"EditionEqual", "state", "(II)I"⟩ ∈ ez_T := ez_r3 (List.mem_of_getElem? (i := 75) rfl) rfl
theorem t_605 : Cond.selects "EditionEqual" ⟨"EditionEqual", "state", "(II)I"⟩ ⟨"EditionEqual", "state", "(II)I"⟩ ∈ ez_T := ez_r3 (List.mem_of_getElem? (i := 76) rfl) rfl
theorem t_606 : Cond.code ⟨"EditionEqual", "state", "(II)I"⟩ prog_1_method_10_code 3 (some .int) ∈ ez_T := ez_r3 (List.mem_of_getElem? (i := 77) rfl) rfl
theorem t_608 : Cond.methodLink "EditionEqual" 148 ⟨"EditionEqual$Behaviour", "reachedAt", "(I)I"⟩ ∈ ez_T := ez_r3 (List.mem_of_getElem? (i := 79) rfl) rfl
theorem t_609 : Cond.instanceMethod ⟨"EditionEqual$Behaviour", "reachedAt", "(I)I"⟩ ∈ ez_T := ez_r3 (List.mem_of_getElem? (i := 80) rfl) rfl
theorem t_610 : Cond.selects "EditionEqual$Behaviour" ⟨"EditionEqual$Behaviour", "reachedAt", "(I)I"⟩ ⟨"EditionEqual$Behaviour", "reachedAt", "(I)I"⟩ ∈ ez_T := ez_r3 (List.mem_of_getElem? (i := 81) rfl) rfl
theorem t_611 : Cond.code ⟨"EditionEqual$Behaviour", "reachedAt", "(I)I"⟩ prog_2_method_8_code 4 (some .int) ∈ ez_T := ez_r3 (List.mem_of_getElem? (i := 82) rfl) rfl
theorem t_614 : Cond.codeWith ⟨"EditionEqualLaw", "least", "(LEditionEqual;I[J)I"⟩ method_12_code 4 (some .int) [(0, 9, 12, 13), (0, 9, 15, 15)] ∈ ez_T := ez_r3 (List.mem_of_getElem? (i := 85) rfl) rfl
theorem t_615 : Cond.methodLink "EditionEqualLaw" 45 ⟨"EditionEqual", "least", "(I)I"⟩ ∈ ez_T := ez_r3 (List.mem_of_getElem? (i := 86) rfl) rfl
theorem t_616 : Cond.instanceMethod ⟨"EditionEqual", "least", "(I)I"⟩ ∈ ez_T := ez_r3 (List.mem_of_getElem? (i := 87) rfl) rfl
theorem t_617 : Cond.selects "EditionEqual" ⟨"EditionEqual", "least", "(I)I"⟩ ⟨"EditionEqual", "least", "(I)I"⟩ ∈ ez_T := ez_r3 (List.mem_of_getElem? (i := 88) rfl) rfl
theorem t_618 : Cond.code ⟨"EditionEqual", "least", "(I)I"⟩ prog_1_method_11_code 2 (some .int) ∈ ez_T := ez_r3 (List.mem_of_getElem? (i := 89) rfl) rfl
theorem t_619 : Cond.methodLink "EditionEqual" 155 ⟨"EditionEqual$Behaviour", "countClasses", "(I)I"⟩ ∈ ez_T := ez_r3 (List.mem_of_getElem? (i := 90) rfl) rfl
theorem t_620 : Cond.instanceMethod ⟨"EditionEqual$Behaviour", "countClasses", "(I)I"⟩ ∈ ez_T := ez_r3 (List.mem_of_getElem? (i := 91) rfl) rfl
theorem t_621 : Cond.selects "EditionEqual$Behaviour" ⟨"EditionEqual$Behaviour", "countClasses", "(I)I"⟩ ⟨"EditionEqual$Behaviour", "countClasses", "(I)I"⟩ ∈ ez_T := ez_r3 (List.mem_of_getElem? (i := 92) rfl) rfl
theorem t_622 : Cond.code ⟨"EditionEqual$Behaviour", "countClasses", "(I)I"⟩ prog_2_method_16_code 7 (some .int) ∈ ez_T := ez_r3 (List.mem_of_getElem? (i := 93) rfl) rfl
theorem t_623 : Cond.methodLink "EditionEqual$Behaviour" 130 ⟨"java/util/Arrays", "fill", "([II)V"⟩ ∈ ez_T := ez_r3 (List.mem_of_getElem? (i := 94) rfl) rfl
theorem t_624 : Cond.methodLink "EditionEqual$Behaviour" 136 ⟨"EditionEqual$Behaviour", "partByOuts", "(I)I"⟩ ∈ ez_T := ez_r3 (List.mem_of_getElem? (i := 95) rfl) rfl
theorem t_626 : Cond.instanceMethod ⟨"EditionEqual$Behaviour", "partByOuts", "(I)I"⟩ ∈ ez_T := ez_r3 (List.mem_of_getElem? (i := 97) rfl) rfl
theorem t_627 : Cond.code ⟨"EditionEqual$Behaviour", "partByOuts", "(I)I"⟩ prog_2_method_17_code 3 (some .int) ∈ ez_T := ez_r3 (List.mem_of_getElem? (i := 98) rfl) rfl
theorem t_628 : Cond.methodLink "EditionEqual$Behaviour" 142 ⟨"EditionEqual$Behaviour", "outsOf", "(II)I"⟩ ∈ ez_T := ez_r3 (List.mem_of_getElem? (i := 99) rfl) rfl
theorem t_629 : Cond.methodLink "EditionEqual$Behaviour" 145 ⟨"EditionEqual$Behaviour", "partByKeys", "()I"⟩ ∈ ez_T := ez_r3 (List.mem_of_getElem? (i := 100) rfl) rfl
theorem t_631 : Cond.instanceMethod ⟨"EditionEqual$Behaviour", "partByKeys", "()I"⟩ ∈ ez_T := ez_r3 (List.mem_of_getElem? (i := 102) rfl) rfl
theorem t_632 : Cond.code ⟨"EditionEqual$Behaviour", "partByKeys", "()I"⟩ prog_2_method_19_code 4 (some .int) ∈ ez_T := ez_r3 (List.mem_of_getElem? (i := 103) rfl) rfl
theorem t_633 : Cond.methodLink "EditionEqual$Behaviour" 148 ⟨"EditionEqual$Behaviour", "firstLike", "(I)I"⟩ ∈ ez_T := ez_r3 (List.mem_of_getElem? (i := 104) rfl) rfl
theorem t_635 : Cond.instanceMethod ⟨"EditionEqual$Behaviour", "firstLike", "(I)I"⟩ ∈ ez_T := ez_r3 (List.mem_of_getElem? (i := 106) rfl) rfl
theorem t_636 : Cond.code ⟨"EditionEqual$Behaviour", "firstLike", "(I)I"⟩ prog_2_method_20_code 4 (some .int) ∈ ez_T := ez_r3 (List.mem_of_getElem? (i := 107) rfl) rfl
theorem t_640 : Cond.methodLink "EditionEqual$Behaviour" 139 ⟨"EditionEqual$Behaviour", "partByNextClass", "(I)I"⟩ ∈ ez_T := ez_r3 (List.mem_of_getElem? (i := 111) rfl) rfl
theorem t_642 : Cond.instanceMethod ⟨"EditionEqual$Behaviour", "partByNextClass", "(I)I"⟩ ∈ ez_T := ez_r3 (List.mem_of_getElem? (i := 113) rfl) rfl
theorem t_643 : Cond.code ⟨"EditionEqual$Behaviour", "partByNextClass", "(I)I"⟩ prog_2_method_18_code 4 (some .int) ∈ ez_T := ez_r3 (List.mem_of_getElem? (i := 114) rfl) rfl
theorem t_646 : Cond.codeWith ⟨"EditionEqualLaw", "compare", "(LEditionEqual;[J)I"⟩ method_13_code 3 (some .int) [(0, 8, 11, 15)] ∈ ez_T := ez_r3 (List.mem_of_getElem? (i := 117) rfl) rfl
theorem t_647 : Cond.methodLink "EditionEqualLaw" 48 ⟨"EditionEqual", "compare", "()I"⟩ ∈ ez_T := ez_r3 (List.mem_of_getElem? (i := 118) rfl) rfl
theorem t_648 : Cond.instanceMethod ⟨"EditionEqual", "compare", "()I"⟩ ∈ ez_T := ez_r3 (List.mem_of_getElem? (i := 119) rfl) rfl
theorem t_649 : Cond.selects "EditionEqual" ⟨"EditionEqual", "compare", "()I"⟩ ⟨"EditionEqual", "compare", "()I"⟩ ∈ ez_T := ez_r3 (List.mem_of_getElem? (i := 120) rfl) rfl
theorem t_650 : Cond.code ⟨"EditionEqual", "compare", "()I"⟩ prog_1_method_12_code 1 (some .int) ∈ ez_T := ez_r3 (List.mem_of_getElem? (i := 121) rfl) rfl
theorem t_651 : Cond.methodLink "EditionEqual" 158 ⟨"EditionEqual", "searchOfBoth", "()LEditionEqual$PairSearch;"⟩ ∈ ez_T := ez_r3 (List.mem_of_getElem? (i := 122) rfl) rfl
theorem t_653 : Cond.instanceMethod ⟨"EditionEqual", "searchOfBoth", "()LEditionEqual$PairSearch;"⟩ ∈ ez_T := ez_r3 (List.mem_of_getElem? (i := 124) rfl) rfl
theorem t_654 : Cond.code ⟨"EditionEqual", "searchOfBoth", "()LEditionEqual$PairSearch;"⟩ prog_1_method_22_code 1 (some (.object "EditionEqual$PairSearch")) ∈ ez_T := ez_r3 (List.mem_of_getElem? (i := 125) rfl) rfl
theorem t_655 : Cond.methodLink "EditionEqual" 181 ⟨"EditionEqual", "checkBothRight", "()V"⟩ ∈ ez_T := ez_r3 (List.mem_of_getElem? (i := 126) rfl) rfl
theorem t_657 : Cond.instanceMethod ⟨"EditionEqual", "checkBothRight", "()V"⟩ ∈ ez_T := ez_r3 (List.mem_of_getElem? (i := 128) rfl) rfl
theorem t_658 : Cond.code ⟨"EditionEqual", "checkBothRight", "()V"⟩ prog_1_method_27_code 1 none ∈ ez_T := ez_r3 (List.mem_of_getElem? (i := 129) rfl) rfl
theorem t_660 : Cond.methodLink "EditionEqual" 205 ⟨"EditionEqual$PairSearch", "learn", "(I)V"⟩ ∈ ez_T := ez_r3 (List.mem_of_getElem? (i := 131) rfl) rfl
theorem t_661 : Cond.instanceMethod ⟨"EditionEqual$PairSearch", "learn", "(I)V"⟩ ∈ ez_T := ez_r3 (List.mem_of_getElem? (i := 132) rfl) rfl
theorem t_662 : Cond.selects "EditionEqual$PairSearch" ⟨"EditionEqual$PairSearch", "learn", "(I)V"⟩ ⟨"EditionEqual$PairSearch", "learn", "(I)V"⟩ ∈ ez_T := ez_r3 (List.mem_of_getElem? (i := 133) rfl) rfl
theorem t_663 : Cond.code ⟨"EditionEqual$PairSearch", "learn", "(I)V"⟩ prog_5_method_3_code 3 none ∈ ez_T := ez_r3 (List.mem_of_getElem? (i := 134) rfl) rfl
theorem t_664 : Cond.methodLink "EditionEqual$PairSearch" 54 ⟨"java/util/Arrays", "fill", "([II)V"⟩ ∈ ez_T := ez_r3 (List.mem_of_getElem? (i := 135) rfl) rfl
theorem t_665 : Cond.methodLink "EditionEqual$PairSearch" 60 ⟨"EditionEqual$PairSearch", "meet", "(IIII)V"⟩ ∈ ez_T := ez_r3 (List.mem_of_getElem? (i := 136) rfl) rfl
theorem t_667 : Cond.instanceMethod ⟨"EditionEqual$PairSearch", "meet", "(IIII)V"⟩ ∈ ez_T := ez_r3 (List.mem_of_getElem? (i := 138) rfl) rfl
theorem t_668 : Cond.code ⟨"EditionEqual$PairSearch", "meet", "(IIII)V"⟩ prog_5_method_9_code 6 none ∈ ez_T := ez_r3 (List.mem_of_getElem? (i := 139) rfl) rfl
theorem t_669 : Cond.methodLinkNest "EditionEqual$PairSearch" 84 ⟨"EditionEqual", "isWithin", "(II)Z"⟩ "EditionEqual" ∈ ez_T := ez_r3 (List.mem_of_getElem? (i := 140) rfl) rfl
theorem t_670 : Cond.methodLinkNest "EditionEqual$PairSearch" 68 ⟨"EditionEqual", "holds", "(II)Z"⟩ "EditionEqual" ∈ ez_T := ez_r3 (List.mem_of_getElem? (i := 141) rfl) rfl
theorem t_671 : Cond.methodLinkNest "EditionEqual$PairSearch" 87 ⟨"EditionEqual", "bitOf", "(I)I"⟩ "EditionEqual" ∈ ez_T := ez_r3 (List.mem_of_getElem? (i := 142) rfl) rfl
theorem t_672 : Cond.methodLink "EditionEqual$PairSearch" 64 ⟨"EditionEqual$PairSearch", "goOnFrom", "(II)V"⟩ ∈ ez_T := ez_r3 (List.mem_of_getElem? (i := 143) rfl) rfl
theorem t_674 : Cond.instanceMethod ⟨"EditionEqual$PairSearch", "goOnFrom", "(II)V"⟩ ∈ ez_T := ez_r3 (List.mem_of_getElem? (i := 145) rfl) rfl
theorem t_675 : Cond.code ⟨"EditionEqual$PairSearch", "goOnFrom", "(II)V"⟩ prog_5_method_8_code 6 none ∈ ez_T := ez_r3 (List.mem_of_getElem? (i := 146) rfl) rfl
theorem t_676 : Cond.methodLink "EditionEqual$PairSearch" 72 ⟨"EditionEqual$Behaviour", "outsOf", "(II)I"⟩ ∈ ez_T := ez_r3 (List.mem_of_getElem? (i := 147) rfl) rfl
theorem t_677 : Cond.methodLink "EditionEqual$PairSearch" 78 ⟨"EditionEqual$PairSearch", "keepShown", "(II)V"⟩ ∈ ez_T := ez_r3 (List.mem_of_getElem? (i := 148) rfl) rfl
theorem t_679 : Cond.instanceMethod ⟨"EditionEqual$PairSearch", "keepShown", "(II)V"⟩ ∈ ez_T := ez_r3 (List.mem_of_getElem? (i := 150) rfl) rfl
theorem t_680 : Cond.code ⟨"EditionEqual$PairSearch", "keepShown", "(II)V"⟩ prog_5_method_10_code 4 none ∈ ez_T := ez_r3 (List.mem_of_getElem? (i := 151) rfl) rfl
theorem t_681 : Cond.methodLink "EditionEqual$PairSearch" 81 ⟨"EditionEqual$Behaviour", "stateAfter", "(II)I"⟩ ∈ ez_T := ez_r3 (List.mem_of_getElem? (i := 152) rfl) rfl
theorem t_682 : Cond.methodLink "EditionEqual" 162 ⟨"EditionEqual$PairSearch", "countShown", "()I"⟩ ∈ ez_T := ez_r3 (List.mem_of_getElem? (i := 153) rfl) rfl
theorem t_683 : Cond.instanceMethod ⟨"EditionEqual$PairSearch", "countShown", "()I"⟩ ∈ ez_T := ez_r3 (List.mem_of_getElem? (i := 154) rfl) rfl
theorem t_684 : Cond.selects "EditionEqual$PairSearch" ⟨"EditionEqual$PairSearch", "countShown", "()I"⟩ ⟨"EditionEqual$PairSearch", "countShown", "()I"⟩ ∈ ez_T := ez_r3 (List.mem_of_getElem? (i := 155) rfl) rfl
theorem t_685 : Cond.code ⟨"EditionEqual$PairSearch", "countShown", "()I"⟩ prog_5_method_5_code 1 (some .int) ∈ ez_T := ez_r3 (List.mem_of_getElem? (i := 156) rfl) rfl
theorem t_688 : Cond.codeWith ⟨"EditionEqualLaw", "shown", "(LEditionEqual;I[J)I"⟩ method_14_code 4 (some .int) [(0, 9, 12, 13), (0, 9, 15, 15)] ∈ ez_T := ez_r3 (List.mem_of_getElem? (i := 159) rfl) rfl
theorem t_689 : Cond.methodLink "EditionEqualLaw" 52 ⟨"EditionEqual", "shown", "(I)I"⟩ ∈ ez_T := ez_r3 (List.mem_of_getElem? (i := 160) rfl) rfl
theorem t_690 : Cond.instanceMethod ⟨"EditionEqual", "shown", "(I)I"⟩ ∈ ez_T := ez_r3 (List.mem_of_getElem? (i := 161) rfl) rfl
theorem t_691 : Cond.selects "EditionEqual" ⟨"EditionEqual", "shown", "(I)I"⟩ ⟨"EditionEqual", "shown", "(I)I"⟩ ∈ ez_T := ez_r3 (List.mem_of_getElem? (i := 162) rfl) rfl
theorem t_692 : Cond.code ⟨"EditionEqual", "shown", "(I)I"⟩ prog_1_method_13_code 3 (some .int) ∈ ez_T := ez_r3 (List.mem_of_getElem? (i := 163) rfl) rfl
theorem t_695 : Cond.methodLink "EditionEqual" 169 ⟨"EditionEqual$PairSearch", "shownRow", "(I)I"⟩ ∈ ez_T := ez_r3 (List.mem_of_getElem? (i := 166) rfl) rfl
theorem t_696 : Cond.instanceMethod ⟨"EditionEqual$PairSearch", "shownRow", "(I)I"⟩ ∈ ez_T := ez_r3 (List.mem_of_getElem? (i := 167) rfl) rfl
theorem t_697 : Cond.selects "EditionEqual$PairSearch" ⟨"EditionEqual$PairSearch", "shownRow", "(I)I"⟩ ⟨"EditionEqual$PairSearch", "shownRow", "(I)I"⟩ ∈ ez_T := ez_r3 (List.mem_of_getElem? (i := 168) rfl) rfl
theorem t_698 : Cond.code ⟨"EditionEqual$PairSearch", "shownRow", "(I)I"⟩ prog_5_method_6_code 4 (some .int) ∈ ez_T := ez_r3 (List.mem_of_getElem? (i := 169) rfl) rfl
theorem t_701 : Cond.codeWith ⟨"EditionEqualLaw", "last", "(LEditionEqual;I[J)I"⟩ method_15_code 4 (some .int) [(0, 9, 12, 13), (0, 9, 15, 15)] ∈ ez_T := ez_r3 (List.mem_of_getElem? (i := 172) rfl) rfl
theorem t_702 : Cond.methodLink "EditionEqualLaw" 55 ⟨"EditionEqual", "last", "(I)I"⟩ ∈ ez_T := ez_r3 (List.mem_of_getElem? (i := 173) rfl) rfl
theorem t_703 : Cond.instanceMethod ⟨"EditionEqual", "last", "(I)I"⟩ ∈ ez_T := ez_r3 (List.mem_of_getElem? (i := 174) rfl) rfl
theorem t_704 : Cond.selects "EditionEqual" ⟨"EditionEqual", "last", "(I)I"⟩ ⟨"EditionEqual", "last", "(I)I"⟩ ∈ ez_T := ez_r3 (List.mem_of_getElem? (i := 175) rfl) rfl
theorem t_705 : Cond.code ⟨"EditionEqual", "last", "(I)I"⟩ prog_1_method_14_code 2 (some .int) ∈ ez_T := ez_r3 (List.mem_of_getElem? (i := 176) rfl) rfl
theorem t_706 : Cond.methodLink "EditionEqual" 175 ⟨"EditionEqual$PairSearch", "lastOuts", "(I)I"⟩ ∈ ez_T := ez_r3 (List.mem_of_getElem? (i := 177) rfl) rfl
theorem t_707 : Cond.instanceMethod ⟨"EditionEqual$PairSearch", "lastOuts", "(I)I"⟩ ∈ ez_T := ez_r3 (List.mem_of_getElem? (i := 178) rfl) rfl
theorem t_708 : Cond.selects "EditionEqual$PairSearch" ⟨"EditionEqual$PairSearch", "lastOuts", "(I)I"⟩ ⟨"EditionEqual$PairSearch", "lastOuts", "(I)I"⟩ ∈ ez_T := ez_r3 (List.mem_of_getElem? (i := 179) rfl) rfl
theorem t_709 : Cond.code ⟨"EditionEqual$PairSearch", "lastOuts", "(I)I"⟩ prog_5_method_7_code 2 (some .int) ∈ ez_T := ez_r3 (List.mem_of_getElem? (i := 180) rfl) rfl
theorem t_712 : Cond.codeWith ⟨"EditionEqualLaw", "pairs", "(LEditionEqual;[J)I"⟩ method_16_code 3 (some .int) [(0, 8, 11, 15)] ∈ ez_T := ez_r3 (List.mem_of_getElem? (i := 183) rfl) rfl
theorem t_713 : Cond.methodLink "EditionEqualLaw" 58 ⟨"EditionEqual", "pairs", "()I"⟩ ∈ ez_T := ez_r3 (List.mem_of_getElem? (i := 184) rfl) rfl
theorem t_714 : Cond.instanceMethod ⟨"EditionEqual", "pairs", "()I"⟩ ∈ ez_T := ez_r3 (List.mem_of_getElem? (i := 185) rfl) rfl
theorem t_715 : Cond.selects "EditionEqual" ⟨"EditionEqual", "pairs", "()I"⟩ ⟨"EditionEqual", "pairs", "()I"⟩ ∈ ez_T := ez_r3 (List.mem_of_getElem? (i := 186) rfl) rfl
theorem t_716 : Cond.code ⟨"EditionEqual", "pairs", "()I"⟩ prog_1_method_15_code 1 (some .int) ∈ ez_T := ez_r3 (List.mem_of_getElem? (i := 187) rfl) rfl
theorem t_717 : Cond.methodLink "EditionEqual" 178 ⟨"EditionEqual$PairSearch", "countPairs", "()I"⟩ ∈ ez_T := ez_r3 (List.mem_of_getElem? (i := 188) rfl) rfl
theorem t_718 : Cond.instanceMethod ⟨"EditionEqual$PairSearch", "countPairs", "()I"⟩ ∈ ez_T := ez_r3 (List.mem_of_getElem? (i := 189) rfl) rfl
theorem t_719 : Cond.selects "EditionEqual$PairSearch" ⟨"EditionEqual$PairSearch", "countPairs", "()I"⟩ ⟨"EditionEqual$PairSearch", "countPairs", "()I"⟩ ∈ ez_T := ez_r3 (List.mem_of_getElem? (i := 190) rfl) rfl
theorem t_720 : Cond.code ⟨"EditionEqual$PairSearch", "countPairs", "()I"⟩ prog_5_method_4_code 1 (some .int) ∈ ez_T := ez_r3 (List.mem_of_getElem? (i := 191) rfl) rfl
theorem t_723 : Cond.codeWith ⟨"EditionEqualLaw", "same", "(LEditionEqual;[J)I"⟩ method_17_code 3 (some .int) [(0, 15, 18, 15)] ∈ ez_T := ez_r3 (List.mem_of_getElem? (i := 194) rfl) rfl
theorem t_724 : Cond.methodLink "EditionEqualLaw" 61 ⟨"EditionEqual", "same", "()Z"⟩ ∈ ez_T := ez_r3 (List.mem_of_getElem? (i := 195) rfl) rfl
theorem t_725 : Cond.instanceMethod ⟨"EditionEqual", "same", "()Z"⟩ ∈ ez_T := ez_r3 (List.mem_of_getElem? (i := 196) rfl) rfl
theorem t_726 : Cond.selects "EditionEqual" ⟨"EditionEqual", "same", "()Z"⟩ ⟨"EditionEqual", "same", "()Z"⟩ ∈ ez_T := ez_r3 (List.mem_of_getElem? (i := 197) rfl) rfl
theorem t_727 : Cond.code ⟨"EditionEqual", "same", "()Z"⟩ prog_1_method_16_code 1 (some .boolean) ∈ ez_T := ez_r3 (List.mem_of_getElem? (i := 198) rfl) rfl
theorem t_728 : Cond.methodLink "EditionEqual" 184 ⟨"EditionEqual$Matching", "matchAll", "()Z"⟩ ∈ ez_T := ez_r3 (List.mem_of_getElem? (i := 199) rfl) rfl
theorem t_729 : Cond.instanceMethod ⟨"EditionEqual$Matching", "matchAll", "()Z"⟩ ∈ ez_T := ez_r3 (List.mem_of_getElem? (i := 200) rfl) rfl
theorem t_730 : Cond.selects "EditionEqual$Matching" ⟨"EditionEqual$Matching", "matchAll", "()Z"⟩ ⟨"EditionEqual$Matching", "matchAll", "()Z"⟩ ∈ ez_T := ez_r3 (List.mem_of_getElem? (i := 201) rfl) rfl
theorem t_731 : Cond.code ⟨"EditionEqual$Matching", "matchAll", "()Z"⟩ prog_4_method_2_code 5 (some .boolean) ∈ ez_T := ez_r3 (List.mem_of_getElem? (i := 202) rfl) rfl
theorem t_732 : Cond.methodLink "EditionEqual$Matching" 32 ⟨"java/util/Arrays", "fill", "([II)V"⟩ ∈ ez_T := ez_r3 (List.mem_of_getElem? (i := 203) rfl) rfl
theorem t_733 : Cond.methodLink "EditionEqual$Matching" 38 ⟨"EditionEqual$Edition", "outputAt", "(I)I"⟩ ∈ ez_T := ez_r3 (List.mem_of_getElem? (i := 204) rfl) rfl
theorem t_734 : Cond.methodLink "EditionEqual$Matching" 44 ⟨"EditionEqual$Matching", "matchBoth", "(II)Z"⟩ ∈ ez_T := ez_r3 (List.mem_of_getElem? (i := 205) rfl) rfl
theorem t_736 : Cond.instanceMethod ⟨"EditionEqual$Matching", "matchBoth", "(II)Z"⟩ ∈ ez_T := ez_r3 (List.mem_of_getElem? (i := 207) rfl) rfl
theorem t_737 : Cond.code ⟨"EditionEqual$Matching", "matchBoth", "(II)Z"⟩ prog_4_method_4_code 4 (some .boolean) ∈ ez_T := ez_r3 (List.mem_of_getElem? (i := 208) rfl) rfl
theorem t_738 : Cond.methodLinkNest "EditionEqual$Matching" 55 ⟨"EditionEqual", "isWithin", "(II)Z"⟩ "EditionEqual" ∈ ez_T := ez_r3 (List.mem_of_getElem? (i := 209) rfl) rfl
theorem t_739 : Cond.methodLink "EditionEqual$Matching" 58 ⟨"EditionEqual$Matching", "areOfOneSort", "(II)Z"⟩ ∈ ez_T := ez_r3 (List.mem_of_getElem? (i := 210) rfl) rfl
theorem t_741 : Cond.instanceMethod ⟨"EditionEqual$Matching", "areOfOneSort", "(II)Z"⟩ ∈ ez_T := ez_r3 (List.mem_of_getElem? (i := 212) rfl) rfl
theorem t_742 : Cond.code ⟨"EditionEqual$Matching", "areOfOneSort", "(II)Z"⟩ prog_4_method_5_code 5 (some .boolean) ∈ ez_T := ez_r3 (List.mem_of_getElem? (i := 213) rfl) rfl
theorem t_743 : Cond.methodLink "EditionEqual$Matching" 61 ⟨"EditionEqual$Edition", "kindOf", "(I)I"⟩ ∈ ez_T := ez_r3 (List.mem_of_getElem? (i := 214) rfl) rfl
theorem t_744 : Cond.methodLink "EditionEqual$Matching" 64 ⟨"EditionEqual$Edition", "numberOf", "(I)I"⟩ ∈ ez_T := ez_r3 (List.mem_of_getElem? (i := 215) rfl) rfl
theorem t_745 : Cond.methodLink "EditionEqual$Matching" 48 ⟨"EditionEqual$Matching", "partnerOf", "(I)I"⟩ ∈ ez_T := ez_r3 (List.mem_of_getElem? (i := 216) rfl) rfl
theorem t_746 : Cond.instanceMethod ⟨"EditionEqual$Matching", "partnerOf", "(I)I"⟩ ∈ ez_T := ez_r3 (List.mem_of_getElem? (i := 217) rfl) rfl
theorem t_747 : Cond.selects "EditionEqual$Matching" ⟨"EditionEqual$Matching", "partnerOf", "(I)I"⟩ ⟨"EditionEqual$Matching", "partnerOf", "(I)I"⟩ ∈ ez_T := ez_r3 (List.mem_of_getElem? (i := 218) rfl) rfl
theorem t_748 : Cond.code ⟨"EditionEqual$Matching", "partnerOf", "(I)I"⟩ prog_4_method_3_code 2 (some .int) ∈ ez_T := ez_r3 (List.mem_of_getElem? (i := 219) rfl) rfl
theorem t_749 : Cond.methodLink "EditionEqual$Matching" 51 ⟨"EditionEqual$Edition", "neededAt", "(II)I"⟩ ∈ ez_T := ez_r3 (List.mem_of_getElem? (i := 220) rfl) rfl
theorem t_752 : Cond.codeWith ⟨"EditionEqualLaw", "matched", "(LEditionEqual;I[J)I"⟩ method_18_code 4 (some .int) [(0, 9, 12, 13), (0, 9, 15, 15)] ∈ ez_T := ez_r3 (List.mem_of_getElem? (i := 223) rfl) rfl
theorem t_753 : Cond.methodLink "EditionEqualLaw" 65 ⟨"EditionEqual", "matched", "(I)I"⟩ ∈ ez_T := ez_r3 (List.mem_of_getElem? (i := 224) rfl) rfl
theorem t_754 : Cond.instanceMethod ⟨"EditionEqual", "matched", "(I)I"⟩ ∈ ez_T := ez_r3 (List.mem_of_getElem? (i := 225) rfl) rfl
theorem t_755 : Cond.selects "EditionEqual" ⟨"EditionEqual", "matched", "(I)I"⟩ ⟨"EditionEqual", "matched", "(I)I"⟩ ∈ ez_T := ez_r3 (List.mem_of_getElem? (i := 226) rfl) rfl
theorem t_756 : Cond.code ⟨"EditionEqual", "matched", "(I)I"⟩ prog_1_method_17_code 2 (some .int) ∈ ez_T := ez_r3 (List.mem_of_getElem? (i := 227) rfl) rfl
theorem t_757 : Cond.methodLink "EditionEqual" 188 ⟨"EditionEqual$Matching", "partnerOf", "(I)I"⟩ ∈ ez_T := ez_r3 (List.mem_of_getElem? (i := 228) rfl) rfl
theorem t_760 : Cond.codeWith ⟨"EditionEqualLaw", "idle", "(LEditionEqual;II[J)I"⟩ method_19_code 5 (some .int) [(0, 10, 13, 13)] ∈ ez_T := ez_r3 (List.mem_of_getElem? (i := 231) rfl) rfl
theorem t_761 : Cond.methodLink "EditionEqualLaw" 68 ⟨"EditionEqual", "idle", "(II)I"⟩ ∈ ez_T := ez_r3 (List.mem_of_getElem? (i := 232) rfl) rfl
theorem t_762 : Cond.instanceMethod ⟨"EditionEqual", "idle", "(II)I"⟩ ∈ ez_T := ez_r3 (List.mem_of_getElem? (i := 233) rfl) rfl
theorem t_763 : Cond.selects "EditionEqual" ⟨"EditionEqual", "idle", "(II)I"⟩ ⟨"EditionEqual", "idle", "(II)I"⟩ ∈ ez_T := ez_r3 (List.mem_of_getElem? (i := 234) rfl) rfl
theorem t_764 : Cond.code ⟨"EditionEqual", "idle", "(II)I"⟩ prog_1_method_18_code 4 (some .int) ∈ ez_T := ez_r3 (List.mem_of_getElem? (i := 235) rfl) rfl
theorem t_766 : Cond.methodLink "EditionEqual" 193 ⟨"EditionEqual$Edition", "idleAt", "(I)I"⟩ ∈ ez_T := ez_r3 (List.mem_of_getElem? (i := 237) rfl) rfl
theorem t_767 : Cond.instanceMethod ⟨"EditionEqual$Edition", "idleAt", "(I)I"⟩ ∈ ez_T := ez_r3 (List.mem_of_getElem? (i := 238) rfl) rfl
theorem t_768 : Cond.selects "EditionEqual$Edition" ⟨"EditionEqual$Edition", "idleAt", "(I)I"⟩ ⟨"EditionEqual$Edition", "idleAt", "(I)I"⟩ ∈ ez_T := ez_r3 (List.mem_of_getElem? (i := 239) rfl) rfl
theorem t_769 : Cond.code ⟨"EditionEqual$Edition", "idleAt", "(I)I"⟩ prog_3_method_20_code 5 (some .int) ∈ ez_T := ez_r4 (List.mem_of_getElem? (i := 0) rfl) rfl
theorem t_770 : Cond.methodLink "EditionEqual$Edition" 87 ⟨"EditionEqual$Edition", "liveBlocks", "()I"⟩ ∈ ez_T := ez_r4 (List.mem_of_getElem? (i := 1) rfl) rfl
theorem t_772 : Cond.instanceMethod ⟨"EditionEqual$Edition", "liveBlocks", "()I"⟩ ∈ ez_T := ez_r4 (List.mem_of_getElem? (i := 3) rfl) rfl
theorem t_773 : Cond.code ⟨"EditionEqual$Edition", "liveBlocks", "()I"⟩ prog_3_method_21_code 6 (some .int) ∈ ez_T := ez_r4 (List.mem_of_getElem? (i := 4) rfl) rfl
theorem t_776 : Cond.codeWith ⟨"EditionEqualLaw", "blocks", "(LEditionEqual;I[J)I"⟩ method_20_code 4 (some .int) [(0, 9, 12, 13)] ∈ ez_T := ez_r4 (List.mem_of_getElem? (i := 7) rfl) rfl
theorem t_777 : Cond.methodLink "EditionEqualLaw" 71 ⟨"EditionEqual", "blocks", "(I)I"⟩ ∈ ez_T := ez_r4 (List.mem_of_getElem? (i := 8) rfl) rfl
theorem t_778 : Cond.instanceMethod ⟨"EditionEqual", "blocks", "(I)I"⟩ ∈ ez_T := ez_r4 (List.mem_of_getElem? (i := 9) rfl) rfl
theorem t_779 : Cond.selects "EditionEqual" ⟨"EditionEqual", "blocks", "(I)I"⟩ ⟨"EditionEqual", "blocks", "(I)I"⟩ ∈ ez_T := ez_r4 (List.mem_of_getElem? (i := 10) rfl) rfl
theorem t_780 : Cond.code ⟨"EditionEqual", "blocks", "(I)I"⟩ prog_1_method_19_code 2 (some .int) ∈ ez_T := ez_r4 (List.mem_of_getElem? (i := 11) rfl) rfl
theorem t_781 : Cond.methodLink "EditionEqual" 196 ⟨"EditionEqual$Edition", "countBlocks", "()I"⟩ ∈ ez_T := ez_r4 (List.mem_of_getElem? (i := 12) rfl) rfl
theorem t_786 : Cond.code ⟨"EditionEqualModel", "<init>", "(I)V"⟩ prog_7_method_1_code 3 none ∈ ez_T := ez_r4 (List.mem_of_getElem? (i := 17) rfl) rfl
theorem t_788 : Cond.fieldLink "EditionEqualModel" 66 "EditionEqualModel" "thrown" "I" ∈ ez_T := ez_r4 (List.mem_of_getElem? (i := 19) rfl) rfl
theorem t_789 : Cond.fieldLink "EditionEqualModel" 62 "EditionEqualModel" "points" "I" ∈ ez_T := ez_r4 (List.mem_of_getElem? (i := 20) rfl) rfl
theorem t_790 : Cond.fieldLink "EditionEqualModel" 7 "EditionEqualModel" "barred" "[Z" ∈ ez_T := ez_r4 (List.mem_of_getElem? (i := 21) rfl) rfl
theorem t_791 : Cond.fieldLink "EditionEqualModel" 13 "EditionEqualModel" "counts" "[I" ∈ ez_T := ez_r4 (List.mem_of_getElem? (i := 22) rfl) rfl
theorem t_792 : Cond.fieldLink "EditionEqualModel" 17 "EditionEqualModel" "kinds" "[I" ∈ ez_T := ez_r4 (List.mem_of_getElem? (i := 23) rfl) rfl
theorem t_793 : Cond.fieldLink "EditionEqualModel" 20 "EditionEqualModel" "numbers" "[I" ∈ ez_T := ez_r4 (List.mem_of_getElem? (i := 24) rfl) rfl
theorem t_794 : Cond.fieldLink "EditionEqualModel" 23 "EditionEqualModel" "firsts" "[I" ∈ ez_T := ez_r4 (List.mem_of_getElem? (i := 25) rfl) rfl
theorem t_795 : Cond.fieldLink "EditionEqualModel" 26 "EditionEqualModel" "seconds" "[I" ∈ ez_T := ez_r4 (List.mem_of_getElem? (i := 26) rfl) rfl
theorem t_796 : Cond.fieldLink "EditionEqualModel" 29 "EditionEqualModel" "outs" "[I" ∈ ez_T := ez_r4 (List.mem_of_getElem? (i := 27) rfl) rfl
theorem t_797 : Cond.fieldLink "EditionEqualModel" 32 "EditionEqualModel" "come" "[Z" ∈ ez_T := ez_r4 (List.mem_of_getElem? (i := 28) rfl) rfl
theorem t_798 : Cond.fieldLink "EditionEqualModel" 35 "EditionEqualModel" "values" "[I" ∈ ez_T := ez_r4 (List.mem_of_getElem? (i := 29) rfl) rfl
theorem t_799 : Cond.fieldLink "EditionEqualModel" 38 "EditionEqualModel" "table" "[I" ∈ ez_T := ez_r4 (List.mem_of_getElem? (i := 30) rfl) rfl
theorem t_800 : Cond.fieldLink "EditionEqualModel" 41 "EditionEqualModel" "reached" "[Z" ∈ ez_T := ez_r4 (List.mem_of_getElem? (i := 31) rfl) rfl
theorem t_801 : Cond.fieldLink "EditionEqualModel" 44 "EditionEqualModel" "apart" "[Z" ∈ ez_T := ez_r4 (List.mem_of_getElem? (i := 32) rfl) rfl
theorem t_802 : Cond.fieldLink "EditionEqualModel" 129 "EditionEqualModel" "pairCount" "I" ∈ ez_T := ez_r4 (List.mem_of_getElem? (i := 33) rfl) rfl
theorem t_803 : Cond.fieldLink "EditionEqualModel" 47 "EditionEqualModel" "pairs" "[I" ∈ ez_T := ez_r4 (List.mem_of_getElem? (i := 34) rfl) rfl
theorem t_804 : Cond.fieldLink "EditionEqualModel" 50 "EditionEqualModel" "cameFrom" "[I" ∈ ez_T := ez_r4 (List.mem_of_getElem? (i := 35) rfl) rfl
theorem t_805 : Cond.fieldLink "EditionEqualModel" 53 "EditionEqualModel" "cameBy" "[I" ∈ ez_T := ez_r4 (List.mem_of_getElem? (i := 36) rfl) rfl
theorem t_806 : Cond.fieldLink "EditionEqualModel" 56 "EditionEqualModel" "seen" "[Z" ∈ ez_T := ez_r4 (List.mem_of_getElem? (i := 37) rfl) rfl
theorem t_807 : Cond.fieldLink "EditionEqualModel" 132 "EditionEqualModel" "differsAt" "I" ∈ ez_T := ez_r4 (List.mem_of_getElem? (i := 38) rfl) rfl
theorem t_808 : Cond.fieldLink "EditionEqualModel" 138 "EditionEqualModel" "differsBy" "I" ∈ ez_T := ez_r4 (List.mem_of_getElem? (i := 39) rfl) rfl
theorem t_809 : Cond.fieldLink "EditionEqualModel" 59 "EditionEqualModel" "match" "[Z" ∈ ez_T := ez_r4 (List.mem_of_getElem? (i := 40) rfl) rfl
theorem t_810 : Cond.lays "EditionEqualModel" "EditionEqualModel" "thrown" "I" ∈ ez_T := ez_r4 (List.mem_of_getElem? (i := 41) rfl) rfl
theorem t_812 : Cond.laysFinal "EditionEqualModel" "EditionEqualModel" "points" "I" ∈ ez_T := ez_r4 (List.mem_of_getElem? (i := 43) rfl) rfl
theorem t_814 : Cond.laysFinal "EditionEqualModel" "EditionEqualModel" "barred" "[Z" ∈ ez_T := ez_r4 (List.mem_of_getElem? (i := 45) rfl) rfl
theorem t_816 : Cond.laysFinal "EditionEqualModel" "EditionEqualModel" "counts" "[I" ∈ ez_T := ez_r4 (List.mem_of_getElem? (i := 47) rfl) rfl
theorem t_818 : Cond.laysFinal "EditionEqualModel" "EditionEqualModel" "kinds" "[I" ∈ ez_T := ez_r4 (List.mem_of_getElem? (i := 49) rfl) rfl
theorem t_820 : Cond.laysFinal "EditionEqualModel" "EditionEqualModel" "numbers" "[I" ∈ ez_T := ez_r4 (List.mem_of_getElem? (i := 51) rfl) rfl
theorem t_822 : Cond.laysFinal "EditionEqualModel" "EditionEqualModel" "firsts" "[I" ∈ ez_T := ez_r4 (List.mem_of_getElem? (i := 53) rfl) rfl
theorem t_824 : Cond.laysFinal "EditionEqualModel" "EditionEqualModel" "seconds" "[I" ∈ ez_T := ez_r4 (List.mem_of_getElem? (i := 55) rfl) rfl
theorem t_826 : Cond.laysFinal "EditionEqualModel" "EditionEqualModel" "outs" "[I" ∈ ez_T := ez_r4 (List.mem_of_getElem? (i := 57) rfl) rfl
theorem t_828 : Cond.laysFinal "EditionEqualModel" "EditionEqualModel" "come" "[Z" ∈ ez_T := ez_r4 (List.mem_of_getElem? (i := 59) rfl) rfl
theorem t_830 : Cond.laysFinal "EditionEqualModel" "EditionEqualModel" "values" "[I" ∈ ez_T := ez_r4 (List.mem_of_getElem? (i := 61) rfl) rfl
theorem t_832 : Cond.laysFinal "EditionEqualModel" "EditionEqualModel" "table" "[I" ∈ ez_T := ez_r4 (List.mem_of_getElem? (i := 63) rfl) rfl
theorem t_834 : Cond.laysFinal "EditionEqualModel" "EditionEqualModel" "reached" "[Z" ∈ ez_T := ez_r4 (List.mem_of_getElem? (i := 65) rfl) rfl
theorem t_836 : Cond.laysFinal "EditionEqualModel" "EditionEqualModel" "apart" "[Z" ∈ ez_T := ez_r4 (List.mem_of_getElem? (i := 67) rfl) rfl
theorem t_838 : Cond.lays "EditionEqualModel" "EditionEqualModel" "pairCount" "I" ∈ ez_T := ez_r4 (List.mem_of_getElem? (i := 69) rfl) rfl
theorem t_840 : Cond.laysFinal "EditionEqualModel" "EditionEqualModel" "pairs" "[I" ∈ ez_T := ez_r4 (List.mem_of_getElem? (i := 71) rfl) rfl
theorem t_842 : Cond.laysFinal "EditionEqualModel" "EditionEqualModel" "cameFrom" "[I" ∈ ez_T := ez_r4 (List.mem_of_getElem? (i := 73) rfl) rfl
theorem t_844 : Cond.laysFinal "EditionEqualModel" "EditionEqualModel" "cameBy" "[I" ∈ ez_T := ez_r4 (List.mem_of_getElem? (i := 75) rfl) rfl
theorem t_846 : Cond.laysFinal "EditionEqualModel" "EditionEqualModel" "seen" "[Z" ∈ ez_T := ez_r4 (List.mem_of_getElem? (i := 77) rfl) rfl
theorem t_848 : Cond.lays "EditionEqualModel" "EditionEqualModel" "differsAt" "I" ∈ ez_T := ez_r4 (List.mem_of_getElem? (i := 79) rfl) rfl
theorem t_850 : Cond.lays "EditionEqualModel" "EditionEqualModel" "differsBy" "I" ∈ ez_T := ez_r4 (List.mem_of_getElem? (i := 81) rfl) rfl
theorem t_852 : Cond.laysFinal "EditionEqualModel" "EditionEqualModel" "match" "[Z" ∈ ez_T := ez_r4 (List.mem_of_getElem? (i := 83) rfl) rfl
theorem t_859 : Cond.code ⟨"EditionEqualModel", "thrown", "()I"⟩ prog_7_method_2_code 1 (some .int) ∈ ez_T := ez_r4 (List.mem_of_getElem? (i := 90) rfl) rfl
theorem t_863 : Cond.code ⟨"EditionEqualModel", "block", "(III)I"⟩ prog_7_method_10_code 6 (some .int) ∈ ez_T := ez_r4 (List.mem_of_getElem? (i := 94) rfl) rfl
theorem t_864 : Cond.methodLink "EditionEqualModel" 69 ⟨"EditionEqualModel", "in", "(III)Z"⟩ ∈ ez_T := ez_r4 (List.mem_of_getElem? (i := 95) rfl) rfl
theorem t_865 : Cond.static ⟨"EditionEqualModel", "in", "(III)Z"⟩ ∈ ez_T := ez_r4 (List.mem_of_getElem? (i := 96) rfl) rfl
theorem t_866 : Cond.code ⟨"EditionEqualModel", "in", "(III)Z"⟩ prog_7_method_3_code 3 (some .boolean) ∈ ez_T := ez_r4 (List.mem_of_getElem? (i := 97) rfl) rfl
theorem t_867 : Cond.methodLink "EditionEqualModel" 73 ⟨"EditionEqualModel", "delays", "(I)I"⟩ ∈ ez_T := ez_r4 (List.mem_of_getElem? (i := 98) rfl) rfl
theorem t_869 : Cond.instanceMethod ⟨"EditionEqualModel", "delays", "(I)I"⟩ ∈ ez_T := ez_r4 (List.mem_of_getElem? (i := 100) rfl) rfl
theorem t_870 : Cond.code ⟨"EditionEqualModel", "delays", "(I)I"⟩ prog_7_method_9_code 4 (some .int) ∈ ez_T := ez_r4 (List.mem_of_getElem? (i := 101) rfl) rfl
theorem t_871 : Cond.methodLink "EditionEqualModel" 77 ⟨"EditionEqualModel", "goes", "(ZZ)Z"⟩ ∈ ez_T := ez_r4 (List.mem_of_getElem? (i := 102) rfl) rfl
theorem t_873 : Cond.instanceMethod ⟨"EditionEqualModel", "goes", "(ZZ)Z"⟩ ∈ ez_T := ez_r4 (List.mem_of_getElem? (i := 104) rfl) rfl
theorem t_874 : Cond.code ⟨"EditionEqualModel", "goes", "(ZZ)Z"⟩ prog_7_method_4_code 3 (some .boolean) ∈ ez_T := ez_r4 (List.mem_of_getElem? (i := 105) rfl) rfl
theorem t_878 : Cond.code ⟨"EditionEqualModel", "wire", "(IIII)I"⟩ prog_7_method_11_code 7 (some .int) ∈ ez_T := ez_r4 (List.mem_of_getElem? (i := 109) rfl) rfl
theorem t_879 : Cond.methodLink "EditionEqualModel" 81 ⟨"EditionEqualModel", "isBlock", "(II)Z"⟩ ∈ ez_T := ez_r4 (List.mem_of_getElem? (i := 110) rfl) rfl
theorem t_881 : Cond.instanceMethod ⟨"EditionEqualModel", "isBlock", "(II)Z"⟩ ∈ ez_T := ez_r4 (List.mem_of_getElem? (i := 112) rfl) rfl
theorem t_882 : Cond.code ⟨"EditionEqualModel", "isBlock", "(II)Z"⟩ prog_7_method_5_code 3 (some .boolean) ∈ ez_T := ez_r4 (List.mem_of_getElem? (i := 113) rfl) rfl
theorem t_883 : Cond.methodLink "EditionEqualModel" 85 ⟨"EditionEqualModel", "input", "(III)I"⟩ ∈ ez_T := ez_r4 (List.mem_of_getElem? (i := 114) rfl) rfl
theorem t_885 : Cond.instanceMethod ⟨"EditionEqualModel", "input", "(III)I"⟩ ∈ ez_T := ez_r4 (List.mem_of_getElem? (i := 116) rfl) rfl
theorem t_886 : Cond.code ⟨"EditionEqualModel", "input", "(III)I"⟩ prog_7_method_8_code 4 (some .int) ∈ ez_T := ez_r4 (List.mem_of_getElem? (i := 117) rfl) rfl
theorem t_890 : Cond.code ⟨"EditionEqualModel", "out", "(III)I"⟩ prog_7_method_12_code 5 (some .int) ∈ ez_T := ez_r4 (List.mem_of_getElem? (i := 121) rfl) rfl
theorem t_894 : Cond.code ⟨"EditionEqualModel", "bar", "(IZ)Z"⟩ prog_7_method_13_code 4 (some .boolean) ∈ ez_T := ez_r4 (List.mem_of_getElem? (i := 125) rfl) rfl
theorem t_895 : Cond.methodLink "EditionEqualModel" 89 ⟨"EditionEqualModel", "isRow", "(I)Z"⟩ ∈ ez_T := ez_r4 (List.mem_of_getElem? (i := 126) rfl) rfl
theorem t_897 : Cond.instanceMethod ⟨"EditionEqualModel", "isRow", "(I)Z"⟩ ∈ ez_T := ez_r4 (List.mem_of_getElem? (i := 128) rfl) rfl
theorem t_898 : Cond.code ⟨"EditionEqualModel", "isRow", "(I)Z"⟩ prog_7_method_6_code 2 (some .boolean) ∈ ez_T := ez_r4 (List.mem_of_getElem? (i := 129) rfl) rfl
theorem t_902 : Cond.code ⟨"EditionEqualModel", "wrong", "(I)I"⟩ prog_7_method_17_code 2 (some .int) ∈ ez_T := ez_r4 (List.mem_of_getElem? (i := 133) rfl) rfl
theorem t_903 : Cond.methodLink "EditionEqualModel" 102 ⟨"EditionEqualModel", "fault", "(I)I"⟩ ∈ ez_T := ez_r4 (List.mem_of_getElem? (i := 134) rfl) rfl
theorem t_905 : Cond.instanceMethod ⟨"EditionEqualModel", "fault", "(I)I"⟩ ∈ ez_T := ez_r4 (List.mem_of_getElem? (i := 136) rfl) rfl
theorem t_906 : Cond.code ⟨"EditionEqualModel", "fault", "(I)I"⟩ prog_7_method_16_code 4 (some .int) ∈ ez_T := ez_r4 (List.mem_of_getElem? (i := 137) rfl) rfl
theorem t_907 : Cond.methodLink "EditionEqualModel" 96 ⟨"EditionEqualModel", "needs", "(I)I"⟩ ∈ ez_T := ez_r4 (List.mem_of_getElem? (i := 138) rfl) rfl
theorem t_908 : Cond.static ⟨"EditionEqualModel", "needs", "(I)I"⟩ ∈ ez_T := ez_r4 (List.mem_of_getElem? (i := 139) rfl) rfl
theorem t_909 : Cond.code ⟨"EditionEqualModel", "needs", "(I)I"⟩ prog_7_method_7_code 1 (some .int) ∈ ez_T := ez_r4 (List.mem_of_getElem? (i := 140) rfl) rfl
theorem t_910 : Cond.methodLink "EditionEqualModel" 99 ⟨"EditionEqualModel", "isRound", "(II)Z"⟩ ∈ ez_T := ez_r4 (List.mem_of_getElem? (i := 141) rfl) rfl
theorem t_912 : Cond.instanceMethod ⟨"EditionEqualModel", "isRound", "(II)Z"⟩ ∈ ez_T := ez_r4 (List.mem_of_getElem? (i := 143) rfl) rfl
theorem t_913 : Cond.code ⟨"EditionEqualModel", "isRound", "(II)Z"⟩ prog_7_method_14_code 5 (some .boolean) ∈ ez_T := ez_r4 (List.mem_of_getElem? (i := 144) rfl) rfl
theorem t_914 : Cond.methodLink "EditionEqualModel" 93 ⟨"EditionEqualModel", "mark", "(II)Z"⟩ ∈ ez_T := ez_r4 (List.mem_of_getElem? (i := 145) rfl) rfl
theorem t_916 : Cond.instanceMethod ⟨"EditionEqualModel", "mark", "(II)Z"⟩ ∈ ez_T := ez_r4 (List.mem_of_getElem? (i := 147) rfl) rfl
theorem t_917 : Cond.code ⟨"EditionEqualModel", "mark", "(II)Z"⟩ prog_7_method_15_code 7 (some .boolean) ∈ ez_T := ez_r4 (List.mem_of_getElem? (i := 148) rfl) rfl
theorem t_921 : Cond.code ⟨"EditionEqualModel", "value", "(IIII)I"⟩ prog_7_method_23_code 5 (some .int) ∈ ez_T := ez_r4 (List.mem_of_getElem? (i := 152) rfl) rfl
theorem t_922 : Cond.methodLink "EditionEqualModel" 105 ⟨"EditionEqualModel", "isRight", "(I)Z"⟩ ∈ ez_T := ez_r4 (List.mem_of_getElem? (i := 153) rfl) rfl
theorem t_924 : Cond.instanceMethod ⟨"EditionEqualModel", "isRight", "(I)Z"⟩ ∈ ez_T := ez_r4 (List.mem_of_getElem? (i := 155) rfl) rfl
theorem t_925 : Cond.code ⟨"EditionEqualModel", "isRight", "(I)Z"⟩ prog_7_method_18_code 2 (some .boolean) ∈ ez_T := ez_r4 (List.mem_of_getElem? (i := 156) rfl) rfl
theorem t_926 : Cond.methodLink "EditionEqualModel" 112 ⟨"EditionEqualModel", "settle", "(III)V"⟩ ∈ ez_T := ez_r4 (List.mem_of_getElem? (i := 157) rfl) rfl
theorem t_928 : Cond.instanceMethod ⟨"EditionEqualModel", "settle", "(III)V"⟩ ∈ ez_T := ez_r4 (List.mem_of_getElem? (i := 159) rfl) rfl
theorem t_929 : Cond.code ⟨"EditionEqualModel", "settle", "(III)V"⟩ prog_7_method_20_code 7 none ∈ ez_T := ez_r4 (List.mem_of_getElem? (i := 160) rfl) rfl
theorem t_930 : Cond.methodLink "EditionEqualModel" 108 ⟨"EditionEqualModel", "reckon", "(II)I"⟩ ∈ ez_T := ez_r4 (List.mem_of_getElem? (i := 161) rfl) rfl
theorem t_932 : Cond.instanceMethod ⟨"EditionEqualModel", "reckon", "(II)I"⟩ ∈ ez_T := ez_r4 (List.mem_of_getElem? (i := 163) rfl) rfl
theorem t_933 : Cond.code ⟨"EditionEqualModel", "reckon", "(II)I"⟩ prog_7_method_21_code 6 (some .int) ∈ ez_T := ez_r4 (List.mem_of_getElem? (i := 164) rfl) rfl
theorem t_937 : Cond.code ⟨"EditionEqualModel", "tick", "(III)I"⟩ prog_7_method_24_code 4 (some .int) ∈ ez_T := ez_r4 (List.mem_of_getElem? (i := 168) rfl) rfl
theorem t_938 : Cond.methodLink "EditionEqualModel" 116 ⟨"EditionEqualModel", "answer", "(III)I"⟩ ∈ ez_T := ez_r4 (List.mem_of_getElem? (i := 169) rfl) rfl
theorem t_940 : Cond.instanceMethod ⟨"EditionEqualModel", "answer", "(III)I"⟩ ∈ ez_T := ez_r4 (List.mem_of_getElem? (i := 171) rfl) rfl
theorem t_941 : Cond.code ⟨"EditionEqualModel", "answer", "(III)I"⟩ prog_7_method_22_code 7 (some .int) ∈ ez_T := ez_r4 (List.mem_of_getElem? (i := 172) rfl) rfl
theorem t_945 : Cond.code ⟨"EditionEqualModel", "reached", "(I)I"⟩ prog_7_method_27_code 2 (some .int) ∈ ez_T := ez_r4 (List.mem_of_getElem? (i := 176) rfl) rfl
theorem t_946 : Cond.methodLink "EditionEqualModel" 119 ⟨"EditionEqualModel", "explore", "(I)V"⟩ ∈ ez_T := ez_r4 (List.mem_of_getElem? (i := 177) rfl) rfl
theorem t_948 : Cond.instanceMethod ⟨"EditionEqualModel", "explore", "(I)V"⟩ ∈ ez_T := ez_r4 (List.mem_of_getElem? (i := 179) rfl) rfl
theorem t_949 : Cond.code ⟨"EditionEqualModel", "explore", "(I)V"⟩ prog_7_method_25_code 7 none ∈ ez_T := ez_r4 (List.mem_of_getElem? (i := 180) rfl) rfl
theorem t_950 : Cond.methodLink "EditionEqualModel" 123 ⟨"EditionEqualModel", "reachedCount", "(I)I"⟩ ∈ ez_T := ez_r4 (List.mem_of_getElem? (i := 181) rfl) rfl
theorem t_952 : Cond.instanceMethod ⟨"EditionEqualModel", "reachedCount", "(I)I"⟩ ∈ ez_T := ez_r4 (List.mem_of_getElem? (i := 183) rfl) rfl
theorem t_953 : Cond.code ⟨"EditionEqualModel", "reachedCount", "(I)I"⟩ prog_7_method_26_code 4 (some .int) ∈ ez_T := ez_r4 (List.mem_of_getElem? (i := 184) rfl) rfl
theorem t_957 : Cond.code ⟨"EditionEqualModel", "state", "(II)I"⟩ prog_7_method_28_code 5 (some .int) ∈ ez_T := ez_r4 (List.mem_of_getElem? (i := 188) rfl) rfl
theorem t_961 : Cond.code ⟨"EditionEqualModel", "least", "(I)I"⟩ prog_7_method_30_code 8 (some .int) ∈ ez_T := ez_r4 (List.mem_of_getElem? (i := 192) rfl) rfl
theorem t_962 : Cond.methodLink "EditionEqualModel" 126 ⟨"EditionEqualModel", "tells", "(III)Z"⟩ ∈ ez_T := ez_r4 (List.mem_of_getElem? (i := 193) rfl) rfl
theorem t_964 : Cond.instanceMethod ⟨"EditionEqualModel", "tells", "(III)Z"⟩ ∈ ez_T := ez_r4 (List.mem_of_getElem? (i := 195) rfl) rfl
theorem t_965 : Cond.code ⟨"EditionEqualModel", "tells", "(III)Z"⟩ prog_7_method_29_code 8 (some .boolean) ∈ ez_T := ez_r4 (List.mem_of_getElem? (i := 196) rfl) rfl
theorem t_969 : Cond.code ⟨"EditionEqualModel", "compare", "()I"⟩ prog_7_method_34_code 1 (some .int) ∈ ez_T := ez_r4 (List.mem_of_getElem? (i := 200) rfl) rfl
theorem t_970 : Cond.methodLink "EditionEqualModel" 141 ⟨"EditionEqualModel", "areRight", "()Z"⟩ ∈ ez_T := ez_r4 (List.mem_of_getElem? (i := 201) rfl) rfl
theorem t_972 : Cond.instanceMethod ⟨"EditionEqualModel", "areRight", "()Z"⟩ ∈ ez_T := ez_r4 (List.mem_of_getElem? (i := 203) rfl) rfl
theorem t_973 : Cond.code ⟨"EditionEqualModel", "areRight", "()Z"⟩ prog_7_method_19_code 1 (some .boolean) ∈ ez_T := ez_r4 (List.mem_of_getElem? (i := 204) rfl) rfl
theorem t_974 : Cond.methodLink "EditionEqualModel" 145 ⟨"EditionEqualModel", "goOver", "()V"⟩ ∈ ez_T := ez_r4 (List.mem_of_getElem? (i := 205) rfl) rfl
theorem t_976 : Cond.instanceMethod ⟨"EditionEqualModel", "goOver", "()V"⟩ ∈ ez_T := ez_r4 (List.mem_of_getElem? (i := 207) rfl) rfl
theorem t_977 : Cond.code ⟨"EditionEqualModel", "goOver", "()V"⟩ prog_7_method_32_code 5 none ∈ ez_T := ez_r4 (List.mem_of_getElem? (i := 208) rfl) rfl
theorem t_978 : Cond.methodLink "EditionEqualModel" 135 ⟨"EditionEqualModel", "meet", "(III)V"⟩ ∈ ez_T := ez_r4 (List.mem_of_getElem? (i := 209) rfl) rfl
theorem t_980 : Cond.instanceMethod ⟨"EditionEqualModel", "meet", "(III)V"⟩ ∈ ez_T := ez_r4 (List.mem_of_getElem? (i := 211) rfl) rfl
theorem t_981 : Cond.code ⟨"EditionEqualModel", "meet", "(III)V"⟩ prog_7_method_31_code 4 none ∈ ez_T := ez_r4 (List.mem_of_getElem? (i := 212) rfl) rfl
theorem t_982 : Cond.methodLink "EditionEqualModel" 148 ⟨"EditionEqualModel", "shownCount", "()I"⟩ ∈ ez_T := ez_r4 (List.mem_of_getElem? (i := 213) rfl) rfl
theorem t_984 : Cond.instanceMethod ⟨"EditionEqualModel", "shownCount", "()I"⟩ ∈ ez_T := ez_r4 (List.mem_of_getElem? (i := 215) rfl) rfl
theorem t_985 : Cond.code ⟨"EditionEqualModel", "shownCount", "()I"⟩ prog_7_method_33_code 3 (some .int) ∈ ez_T := ez_r4 (List.mem_of_getElem? (i := 216) rfl) rfl
theorem t_989 : Cond.code ⟨"EditionEqualModel", "shown", "(I)I"⟩ prog_7_method_35_code 6 (some .int) ∈ ez_T := ez_r4 (List.mem_of_getElem? (i := 220) rfl) rfl
theorem t_993 : Cond.code ⟨"EditionEqualModel", "last", "(I)I"⟩ prog_7_method_36_code 3 (some .int) ∈ ez_T := ez_r4 (List.mem_of_getElem? (i := 224) rfl) rfl
theorem t_997 : Cond.code ⟨"EditionEqualModel", "pairs", "()I"⟩ prog_7_method_37_code 1 (some .int) ∈ ez_T := ez_r4 (List.mem_of_getElem? (i := 228) rfl) rfl
theorem t_1001 : Cond.code ⟨"EditionEqualModel", "same", "()Z"⟩ prog_7_method_40_code 1 (some .boolean) ∈ ez_T := ez_r4 (List.mem_of_getElem? (i := 232) rfl) rfl
theorem t_1002 : Cond.methodLink "EditionEqualModel" 155 ⟨"EditionEqualModel", "areSame", "()Z"⟩ ∈ ez_T := ez_r4 (List.mem_of_getElem? (i := 233) rfl) rfl
theorem t_1004 : Cond.instanceMethod ⟨"EditionEqualModel", "areSame", "()Z"⟩ ∈ ez_T := ez_r4 (List.mem_of_getElem? (i := 235) rfl) rfl
theorem t_1005 : Cond.code ⟨"EditionEqualModel", "areSame", "()Z"⟩ prog_7_method_38_code 8 (some .boolean) ∈ ez_T := ez_r4 (List.mem_of_getElem? (i := 236) rfl) rfl
theorem t_1006 : Cond.methodLink "EditionEqualModel" 152 ⟨"EditionEqualModel", "areSingle", "()Z"⟩ ∈ ez_T := ez_r4 (List.mem_of_getElem? (i := 237) rfl) rfl
theorem t_1008 : Cond.instanceMethod ⟨"EditionEqualModel", "areSingle", "()Z"⟩ ∈ ez_T := ez_r4 (List.mem_of_getElem? (i := 239) rfl) rfl
theorem t_1009 : Cond.code ⟨"EditionEqualModel", "areSingle", "()Z"⟩ prog_7_method_39_code 6 (some .boolean) ∈ ez_T := ez_r5 (List.mem_of_getElem? (i := 0) rfl) rfl
theorem t_1013 : Cond.code ⟨"EditionEqualModel", "matched", "(I)I"⟩ prog_7_method_41_code 4 (some .int) ∈ ez_T := ez_r5 (List.mem_of_getElem? (i := 4) rfl) rfl
theorem t_1017 : Cond.code ⟨"EditionEqualModel", "idle", "(II)I"⟩ prog_7_method_42_code 7 (some .int) ∈ ez_T := ez_r5 (List.mem_of_getElem? (i := 8) rfl) rfl
theorem t_1021 : Cond.code ⟨"EditionEqualModel", "blocks", "(I)I"⟩ prog_7_method_43_code 2 (some .int) ∈ ez_T := ez_r5 (List.mem_of_getElem? (i := 12) rfl) rfl
end
section
/-! ===== links, fields ===== -/
theorem ok_EE_init : ez_ok X_EE_init 1 := ⟨by decide +kernel, t_69, t_50, by decide +kernel, by decide +kernel⟩
theorem ok_EE_block : ez_ok X_EE_block 3 := ⟨by decide +kernel, t_276, t_50, by decide +kernel, by decide +kernel⟩
theorem ok_EE_wire : ez_ok X_EE_wire 4 := ⟨by decide +kernel, t_405, t_50, by decide +kernel, by decide +kernel⟩
theorem ok_EE_out : ez_ok X_EE_out 3 := ⟨by decide +kernel, t_434, t_50, by decide +kernel, by decide +kernel⟩
theorem ok_EE_bar : ez_ok X_EE_bar 2 := ⟨by decide +kernel, t_450, t_50, by decide +kernel, by decide +kernel⟩
theorem ok_EE_wrong : ez_ok X_EE_wrong 1 := ⟨by decide +kernel, t_462, t_50, by decide +kernel, by decide +kernel⟩
theorem ok_EE_value : ez_ok X_EE_value 4 := ⟨by decide +kernel, t_488, t_50, by decide +kernel, by decide +kernel⟩
theorem ok_EE_tick : ez_ok X_EE_tick 3 := ⟨by decide +kernel, t_577, t_50, by decide +kernel, by decide +kernel⟩
theorem ok_EE_reached : ez_ok X_EE_reached 1 := ⟨by decide +kernel, t_589, t_50, by decide +kernel, by decide +kernel⟩
theorem ok_EE_state : ez_ok X_EE_state 2 := ⟨by decide +kernel, t_606, t_50, by decide +kernel, by decide +kernel⟩
theorem ok_EE_least : ez_ok X_EE_least 1 := ⟨by decide +kernel, t_618, t_50, by decide +kernel, by decide +kernel⟩
theorem ok_EE_compare : ez_ok X_EE_compare 0 := ⟨by decide +kernel, t_650, t_50, by decide +kernel, by decide +kernel⟩
theorem ok_EE_shown : ez_ok X_EE_shown 1 := ⟨by decide +kernel, t_692, t_50, by decide +kernel, by decide +kernel⟩
theorem ok_EE_last : ez_ok X_EE_last 1 := ⟨by decide +kernel, t_705, t_50, by decide +kernel, by decide +kernel⟩
theorem ok_EE_pairs : ez_ok X_EE_pairs 0 := ⟨by decide +kernel, t_716, t_50, by decide +kernel, by decide +kernel⟩
theorem ok_EE_same : ez_ok X_EE_same 0 := ⟨by decide +kernel, t_727, t_50, by decide +kernel, by decide +kernel⟩
theorem ok_EE_matched : ez_ok X_EE_matched 1 := ⟨by decide +kernel, t_756, t_50, by decide +kernel, by decide +kernel⟩
theorem ok_EE_idle : ez_ok X_EE_idle 2 := ⟨by decide +kernel, t_764, t_50, by decide +kernel, by decide +kernel⟩
theorem ok_EE_blocks : ez_ok X_EE_blocks 1 := ⟨by decide +kernel, t_780, t_50, by decide +kernel, by decide +kernel⟩
theorem ok_EE_editionOf : ez_ok X_EE_editionOf 1 := ⟨by decide +kernel, t_280, t_50, by decide +kernel, by decide +kernel⟩
theorem ok_EE_behaviourOf : ez_ok X_EE_behaviourOf 1 := ⟨by decide +kernel, t_496, t_50, by decide +kernel, by decide +kernel⟩
theorem ok_EE_searchOfBoth : ez_ok X_EE_searchOfBoth 0 := ⟨by decide +kernel, t_654, t_50, by decide +kernel, by decide +kernel⟩
theorem ok_EE_forgetAnswers : ez_ok X_EE_forgetAnswers 0 := ⟨by decide +kernel, t_382, t_50, by decide +kernel, by decide +kernel⟩
theorem ok_EE_openRows : ez_ok X_EE_openRows 0 := ⟨by decide +kernel, t_501, t_50, by decide +kernel, by decide +kernel⟩
theorem ok_EE_isNumberOfKind : ez_ok X_EE_isNumberOfKind 2 := ⟨by decide +kernel, t_357, t_50, by decide +kernel, by decide +kernel⟩
theorem ok_EE_checkRow : ez_ok X_EE_checkRow 1 := ⟨by decide +kernel, t_454, t_50, by decide +kernel, by decide +kernel⟩
theorem ok_EE_checkBothRight : ez_ok X_EE_checkBothRight 0 := ⟨by decide +kernel, t_658, t_50, by decide +kernel, by decide +kernel⟩
theorem ok_EE_checkEdition : ez_ok X_EE_checkEdition 1 := ⟨by decide +kernel, t_283, t_50, by decide +kernel, by decide +kernel⟩
theorem ok_EE_checkBlock : ez_ok X_EE_checkBlock 2 := ⟨by decide +kernel, t_491, t_50, by decide +kernel, by decide +kernel⟩
theorem ok_EE_isWithin : ez_ok X_EE_isWithin 2 := ⟨by decide +kernel, t_286, t_50, by decide +kernel, by decide +kernel⟩
theorem ok_EE_bitOf : ez_ok X_EE_bitOf 1 := ⟨by decide +kernel, t_427, t_50, by decide +kernel, by decide +kernel⟩
theorem ok_EE_holds : ez_ok X_EE_holds 2 := ⟨by decide +kernel, t_481, t_50, by decide +kernel, by decide +kernel⟩
theorem ok_MD_init : ez_ok X_MD_init 1 := ⟨by decide +kernel, t_786, t_57, by decide +kernel, by decide +kernel⟩
theorem ok_MD_thrown : ez_ok X_MD_thrown 0 := ⟨by decide +kernel, t_859, t_57, by decide +kernel, by decide +kernel⟩
theorem ok_MD_in : ez_ok X_MD_in 3 := ⟨by decide +kernel, t_866, t_57, by decide +kernel, by decide +kernel⟩
theorem ok_MD_goes : ez_ok X_MD_goes 2 := ⟨by decide +kernel, t_874, t_57, by decide +kernel, by decide +kernel⟩
theorem ok_MD_isBlock : ez_ok X_MD_isBlock 2 := ⟨by decide +kernel, t_882, t_57, by decide +kernel, by decide +kernel⟩
theorem ok_MD_isRow : ez_ok X_MD_isRow 1 := ⟨by decide +kernel, t_898, t_57, by decide +kernel, by decide +kernel⟩
theorem ok_MD_needs : ez_ok X_MD_needs 1 := ⟨by decide +kernel, t_909, t_57, by decide +kernel, by decide +kernel⟩
theorem ok_MD_input : ez_ok X_MD_input 3 := ⟨by decide +kernel, t_886, t_57, by decide +kernel, by decide +kernel⟩
theorem ok_MD_delays : ez_ok X_MD_delays 1 := ⟨by decide +kernel, t_870, t_57, by decide +kernel, by decide +kernel⟩
theorem ok_MD_block : ez_ok X_MD_block 3 := ⟨by decide +kernel, t_863, t_57, by decide +kernel, by decide +kernel⟩
theorem ok_MD_wire : ez_ok X_MD_wire 4 := ⟨by decide +kernel, t_878, t_57, by decide +kernel, by decide +kernel⟩
theorem ok_MD_out : ez_ok X_MD_out 3 := ⟨by decide +kernel, t_890, t_57, by decide +kernel, by decide +kernel⟩
theorem ok_MD_bar : ez_ok X_MD_bar 2 := ⟨by decide +kernel, t_894, t_57, by decide +kernel, by decide +kernel⟩
theorem ok_MD_isRound : ez_ok X_MD_isRound 2 := ⟨by decide +kernel, t_913, t_57, by decide +kernel, by decide +kernel⟩
theorem ok_MD_mark : ez_ok X_MD_mark 2 := ⟨by decide +kernel, t_917, t_57, by decide +kernel, by decide +kernel⟩
theorem ok_MD_fault : ez_ok X_MD_fault 1 := ⟨by decide +kernel, t_906, t_57, by decide +kernel, by decide +kernel⟩
theorem ok_MD_wrong : ez_ok X_MD_wrong 1 := ⟨by decide +kernel, t_902, t_57, by decide +kernel, by decide +kernel⟩
theorem ok_MD_isRight : ez_ok X_MD_isRight 1 := ⟨by decide +kernel, t_925, t_57, by decide +kernel, by decide +kernel⟩
theorem ok_MD_areRight : ez_ok X_MD_areRight 0 := ⟨by decide +kernel, t_973, t_57, by decide +kernel, by decide +kernel⟩
theorem ok_MD_settle : ez_ok X_MD_settle 3 := ⟨by decide +kernel, t_929, t_57, by decide +kernel, by decide +kernel⟩
theorem ok_MD_reckon : ez_ok X_MD_reckon 2 := ⟨by decide +kernel, t_933, t_57, by decide +kernel, by decide +kernel⟩
theorem ok_MD_answer : ez_ok X_MD_answer 3 := ⟨by decide +kernel, t_941, t_57, by decide +kernel, by decide +kernel⟩
theorem ok_MD_value : ez_ok X_MD_value 4 := ⟨by decide +kernel, t_921, t_57, by decide +kernel, by decide +kernel⟩
theorem ok_MD_tick : ez_ok X_MD_tick 3 := ⟨by decide +kernel, t_937, t_57, by decide +kernel, by decide +kernel⟩
theorem ok_MD_explore : ez_ok X_MD_explore 1 := ⟨by decide +kernel, t_949, t_57, by decide +kernel, by decide +kernel⟩
theorem ok_MD_reachedCount : ez_ok X_MD_reachedCount 1 := ⟨by decide +kernel, t_953, t_57, by decide +kernel, by decide +kernel⟩
theorem ok_MD_reached : ez_ok X_MD_reached 1 := ⟨by decide +kernel, t_945, t_57, by decide +kernel, by decide +kernel⟩
theorem ok_MD_state : ez_ok X_MD_state 2 := ⟨by decide +kernel, t_957, t_57, by decide +kernel, by decide +kernel⟩
theorem ok_MD_tells : ez_ok X_MD_tells 3 := ⟨by decide +kernel, t_965, t_57, by decide +kernel, by decide +kernel⟩
theorem ok_MD_least : ez_ok X_MD_least 1 := ⟨by decide +kernel, t_961, t_57, by decide +kernel, by decide +kernel⟩
theorem ok_MD_meet : ez_ok X_MD_meet 3 := ⟨by decide +kernel, t_981, t_57, by decide +kernel, by decide +kernel⟩
theorem ok_MD_goOver : ez_ok X_MD_goOver 0 := ⟨by decide +kernel, t_977, t_57, by decide +kernel, by decide +kernel⟩
theorem ok_MD_shownCount : ez_ok X_MD_shownCount 0 := ⟨by decide +kernel, t_985, t_57, by decide +kernel, by decide +kernel⟩
theorem ok_MD_compare : ez_ok X_MD_compare 0 := ⟨by decide +kernel, t_969, t_57, by decide +kernel, by decide +kernel⟩
theorem ok_MD_shown : ez_ok X_MD_shown 1 := ⟨by decide +kernel, t_989, t_57, by decide +kernel, by decide +kernel⟩
theorem ok_MD_last : ez_ok X_MD_last 1 := ⟨by decide +kernel, t_993, t_57, by decide +kernel, by decide +kernel⟩
theorem ok_MD_pairs : ez_ok X_MD_pairs 0 := ⟨by decide +kernel, t_997, t_57, by decide +kernel, by decide +kernel⟩
theorem ok_MD_areSame : ez_ok X_MD_areSame 0 := ⟨by decide +kernel, t_1005, t_57, by decide +kernel, by decide +kernel⟩
theorem ok_MD_areSingle : ez_ok X_MD_areSingle 0 := ⟨by decide +kernel, t_1009, t_57, by decide +kernel, by decide +kernel⟩
theorem ok_MD_same : ez_ok X_MD_same 0 := ⟨by decide +kernel, t_1001, t_57, by decide +kernel, by decide +kernel⟩
theorem ok_MD_matched : ez_ok X_MD_matched 1 := ⟨by decide +kernel, t_1013, t_57, by decide +kernel, by decide +kernel⟩
theorem ok_MD_idle : ez_ok X_MD_idle 2 := ⟨by decide +kernel, t_1017, t_57, by decide +kernel, by decide +kernel⟩
theorem ok_MD_blocks : ez_ok X_MD_blocks 1 := ⟨by decide +kernel, t_1021, t_57, by decide +kernel, by decide +kernel⟩
theorem ok_BH_init : ez_ok X_BH_init 1 := ⟨by decide +kernel, t_124, t_54, by decide +kernel, by decide +kernel⟩
theorem ok_BH_forget : ez_ok X_BH_forget 0 := ⟨by decide +kernel, t_386, t_54, by decide +kernel, by decide +kernel⟩
theorem ok_BH_learn : ez_ok X_BH_learn 2 := ⟨by decide +kernel, t_505, t_54, by decide +kernel, by decide +kernel⟩
theorem ok_BH_valueOf : ez_ok X_BH_valueOf 3 := ⟨by decide +kernel, t_553, t_54, by decide +kernel, by decide +kernel⟩
theorem ok_BH_outsOf : ez_ok X_BH_outsOf 2 := ⟨by decide +kernel, t_581, t_54, by decide +kernel, by decide +kernel⟩
theorem ok_BH_stateAfter : ez_ok X_BH_stateAfter 2 := ⟨by decide +kernel, t_565, t_54, by decide +kernel, by decide +kernel⟩
theorem ok_BH_countReached : ez_ok X_BH_countReached 0 := ⟨by decide +kernel, t_593, t_54, by decide +kernel, by decide +kernel⟩
theorem ok_BH_reachedAt : ez_ok X_BH_reachedAt 1 := ⟨by decide +kernel, t_611, t_54, by decide +kernel, by decide +kernel⟩
theorem ok_BH_placeOf : ez_ok X_BH_placeOf 2 := ⟨by decide +kernel, t_569, t_54, by decide +kernel, by decide +kernel⟩
theorem ok_BH_orderBlocks : ez_ok X_BH_orderBlocks 0 := ⟨by decide +kernel, t_513, t_54, by decide +kernel, by decide +kernel⟩
theorem ok_BH_fillColumns : ez_ok X_BH_fillColumns 1 := ⟨by decide +kernel, t_524, t_54, by decide +kernel, by decide +kernel⟩
theorem ok_BH_workOutColumn : ez_ok X_BH_workOutColumn 2 := ⟨by decide +kernel, t_528, t_54, by decide +kernel, by decide +kernel⟩
theorem ok_BH_columnAt : ez_ok X_BH_columnAt 2 := ⟨by decide +kernel, t_537, t_54, by decide +kernel, by decide +kernel⟩
theorem ok_BH_fillTicks : ez_ok X_BH_fillTicks 1 := ⟨by decide +kernel, t_548, t_54, by decide +kernel, by decide +kernel⟩
theorem ok_BH_findReached : ez_ok X_BH_findReached 1 := ⟨by decide +kernel, t_561, t_54, by decide +kernel, by decide +kernel⟩
theorem ok_BH_countClasses : ez_ok X_BH_countClasses 1 := ⟨by decide +kernel, t_622, t_54, by decide +kernel, by decide +kernel⟩
theorem ok_BH_partByOuts : ez_ok X_BH_partByOuts 1 := ⟨by decide +kernel, t_627, t_54, by decide +kernel, by decide +kernel⟩
theorem ok_BH_partByNextClass : ez_ok X_BH_partByNextClass 1 := ⟨by decide +kernel, t_643, t_54, by decide +kernel, by decide +kernel⟩
theorem ok_BH_partByKeys : ez_ok X_BH_partByKeys 0 := ⟨by decide +kernel, t_632, t_54, by decide +kernel, by decide +kernel⟩
theorem ok_BH_firstLike : ez_ok X_BH_firstLike 1 := ⟨by decide +kernel, t_636, t_54, by decide +kernel, by decide +kernel⟩
theorem ok_ED_init : ez_ok X_ED_init 0 := ⟨by decide +kernel, t_83, t_52, by decide +kernel, by decide +kernel⟩
theorem ok_ED_hasRoomFor : ez_ok X_ED_hasRoomFor 1 := ⟨by decide +kernel, t_362, t_52, by decide +kernel, by decide +kernel⟩
theorem ok_ED_addBlock : ez_ok X_ED_addBlock 2 := ⟨by decide +kernel, t_394, t_52, by decide +kernel, by decide +kernel⟩
theorem ok_ED_countNeeded : ez_ok X_ED_countNeeded 1 := ⟨by decide +kernel, t_398, t_52, by decide +kernel, by decide +kernel⟩
theorem ok_ED_rewire : ez_ok X_ED_rewire 3 := ⟨by decide +kernel, t_419, t_52, by decide +kernel, by decide +kernel⟩
theorem ok_ED_changeOutput : ez_ok X_ED_changeOutput 2 := ⟨by decide +kernel, t_439, t_52, by decide +kernel, by decide +kernel⟩
theorem ok_ED_countBlocks : ez_ok X_ED_countBlocks 0 := ⟨by decide +kernel, t_517, t_52, by decide +kernel, by decide +kernel⟩
theorem ok_ED_countDelays : ez_ok X_ED_countDelays 0 := ⟨by decide +kernel, t_509, t_52, by decide +kernel, by decide +kernel⟩
theorem ok_ED_hasBlock : ez_ok X_ED_hasBlock 1 := ⟨by decide +kernel, t_409, t_52, by decide +kernel, by decide +kernel⟩
theorem ok_ED_hasBlockOrNone : ez_ok X_ED_hasBlockOrNone 1 := ⟨by decide +kernel, t_413, t_52, by decide +kernel, by decide +kernel⟩
theorem ok_ED_kindOf : ez_ok X_ED_kindOf 1 := ⟨by decide +kernel, t_542, t_52, by decide +kernel, by decide +kernel⟩
theorem ok_ED_numberOf : ez_ok X_ED_numberOf 1 := ⟨by decide +kernel, t_532, t_52, by decide +kernel, by decide +kernel⟩
theorem ok_ED_outputAt : ez_ok X_ED_outputAt 1 := ⟨by decide +kernel, t_443, t_52, by decide +kernel, by decide +kernel⟩
theorem ok_ED_delayAt : ez_ok X_ED_delayAt 1 := ⟨by decide +kernel, t_557, t_52, by decide +kernel, by decide +kernel⟩
theorem ok_ED_neededAt : ez_ok X_ED_neededAt 2 := ⟨by decide +kernel, t_424, t_52, by decide +kernel, by decide +kernel⟩
theorem ok_ED_neededInTick : ez_ok X_ED_neededInTick 1 := ⟨by decide +kernel, t_478, t_52, by decide +kernel, by decide +kernel⟩
theorem ok_ED_firstFault : ez_ok X_ED_firstFault 0 := ⟨by decide +kernel, t_466, t_52, by decide +kernel, by decide +kernel⟩
theorem ok_ED_firstUnwired : ez_ok X_ED_firstUnwired 0 := ⟨by decide +kernel, t_470, t_52, by decide +kernel, by decide +kernel⟩
theorem ok_ED_firstComingBack : ez_ok X_ED_firstComingBack 0 := ⟨by decide +kernel, t_474, t_52, by decide +kernel, by decide +kernel⟩
theorem ok_ED_idleAt : ez_ok X_ED_idleAt 1 := ⟨by decide +kernel, t_769, t_52, by decide +kernel, by decide +kernel⟩
theorem ok_ED_liveBlocks : ez_ok X_ED_liveBlocks 0 := ⟨by decide +kernel, t_773, t_52, by decide +kernel, by decide +kernel⟩
theorem ok_MT_init : ez_ok X_MT_init 2 := ⟨by decide +kernel, t_216, t_56, by decide +kernel, by decide +kernel⟩
theorem ok_MT_matchAll : ez_ok X_MT_matchAll 0 := ⟨by decide +kernel, t_731, t_56, by decide +kernel, by decide +kernel⟩
theorem ok_MT_partnerOf : ez_ok X_MT_partnerOf 1 := ⟨by decide +kernel, t_748, t_56, by decide +kernel, by decide +kernel⟩
theorem ok_MT_matchBoth : ez_ok X_MT_matchBoth 2 := ⟨by decide +kernel, t_737, t_56, by decide +kernel, by decide +kernel⟩
theorem ok_MT_areOfOneSort : ez_ok X_MT_areOfOneSort 2 := ⟨by decide +kernel, t_742, t_56, by decide +kernel, by decide +kernel⟩
theorem ok_PS_init : ez_ok X_PS_init 2 := ⟨by decide +kernel, t_170, t_55, by decide +kernel, by decide +kernel⟩
theorem ok_PS_forget : ez_ok X_PS_forget 0 := ⟨by decide +kernel, t_390, t_55, by decide +kernel, by decide +kernel⟩
theorem ok_PS_learn : ez_ok X_PS_learn 1 := ⟨by decide +kernel, t_663, t_55, by decide +kernel, by decide +kernel⟩
theorem ok_PS_countPairs : ez_ok X_PS_countPairs 0 := ⟨by decide +kernel, t_720, t_55, by decide +kernel, by decide +kernel⟩
theorem ok_PS_countShown : ez_ok X_PS_countShown 0 := ⟨by decide +kernel, t_685, t_55, by decide +kernel, by decide +kernel⟩
theorem ok_PS_shownRow : ez_ok X_PS_shownRow 1 := ⟨by decide +kernel, t_698, t_55, by decide +kernel, by decide +kernel⟩
theorem ok_PS_lastOuts : ez_ok X_PS_lastOuts 1 := ⟨by decide +kernel, t_709, t_55, by decide +kernel, by decide +kernel⟩
theorem ok_PS_goOnFrom : ez_ok X_PS_goOnFrom 2 := ⟨by decide +kernel, t_675, t_55, by decide +kernel, by decide +kernel⟩
theorem ok_PS_meet : ez_ok X_PS_meet 4 := ⟨by decide +kernel, t_668, t_55, by decide +kernel, by decide +kernel⟩
theorem ok_PS_keepShown : ez_ok X_PS_keepShown 2 := ⟨by decide +kernel, t_680, t_55, by decide +kernel, by decide +kernel⟩
theorem ok_LW_cell : ez_ok X_LW_cell 2 := ⟨by decide +kernel, t_267, t_49, by decide +kernel, by decide +kernel⟩
theorem ok_LW_block : ez_ok X_LW_block 5 := ⟨by decide +kernel, t_270, t_49, by decide +kernel, by decide +kernel⟩
theorem ok_LW_wire : ez_ok X_LW_wire 6 := ⟨by decide +kernel, t_401, t_49, by decide +kernel, by decide +kernel⟩
theorem ok_LW_out : ez_ok X_LW_out 5 := ⟨by decide +kernel, t_430, t_49, by decide +kernel, by decide +kernel⟩
theorem ok_LW_bar : ez_ok X_LW_bar 4 := ⟨by decide +kernel, t_446, t_49, by decide +kernel, by decide +kernel⟩
theorem ok_LW_wrong : ez_ok X_LW_wrong 3 := ⟨by decide +kernel, t_458, t_49, by decide +kernel, by decide +kernel⟩
theorem ok_LW_value : ez_ok X_LW_value 6 := ⟨by decide +kernel, t_484, t_49, by decide +kernel, by decide +kernel⟩
theorem ok_LW_tick : ez_ok X_LW_tick 5 := ⟨by decide +kernel, t_573, t_49, by decide +kernel, by decide +kernel⟩
theorem ok_LW_reached : ez_ok X_LW_reached 3 := ⟨by decide +kernel, t_585, t_49, by decide +kernel, by decide +kernel⟩
theorem ok_LW_state : ez_ok X_LW_state 4 := ⟨by decide +kernel, t_602, t_49, by decide +kernel, by decide +kernel⟩
theorem ok_LW_least : ez_ok X_LW_least 3 := ⟨by decide +kernel, t_614, t_49, by decide +kernel, by decide +kernel⟩
theorem ok_LW_compare : ez_ok X_LW_compare 2 := ⟨by decide +kernel, t_646, t_49, by decide +kernel, by decide +kernel⟩
theorem ok_LW_shown : ez_ok X_LW_shown 3 := ⟨by decide +kernel, t_688, t_49, by decide +kernel, by decide +kernel⟩
theorem ok_LW_last : ez_ok X_LW_last 3 := ⟨by decide +kernel, t_701, t_49, by decide +kernel, by decide +kernel⟩
theorem ok_LW_pairs : ez_ok X_LW_pairs 2 := ⟨by decide +kernel, t_712, t_49, by decide +kernel, by decide +kernel⟩
theorem ok_LW_same : ez_ok X_LW_same 2 := ⟨by decide +kernel, t_723, t_49, by decide +kernel, by decide +kernel⟩
theorem ok_LW_matched : ez_ok X_LW_matched 3 := ⟨by decide +kernel, t_752, t_49, by decide +kernel, by decide +kernel⟩
theorem ok_LW_idle : ez_ok X_LW_idle 4 := ⟨by decide +kernel, t_760, t_49, by decide +kernel, by decide +kernel⟩
theorem ok_LW_blocks : ez_ok X_LW_blocks 3 := ⟨by decide +kernel, t_776, t_49, by decide +kernel, by decide +kernel⟩
theorem ok_JI_bitCount : ez_ok X_JI_bitCount 1 := ⟨by decide +kernel, t_596, t_63, by decide +kernel, by decide +kernel⟩
theorem ok_JA_fill : ez_ok X_JA_fill 2 := ⟨by decide +kernel, t_87, t_53, by decide +kernel, by decide +kernel⟩
theorem in_EE : ∀ w ∈ u_ws "EditionEqual" T_EE 9, w ∈ ez_T := List.forall_mem_cons.mpr ⟨t_246, List.forall_mem_cons.mpr ⟨t_248, List.forall_mem_cons.mpr ⟨t_250, List.forall_mem_cons.mpr ⟨t_252, List.forall_mem_cons.mpr ⟨t_254, List.forall_mem_cons.mpr ⟨t_256, List.forall_mem_cons.mpr ⟨t_258, List.forall_mem_cons.mpr ⟨t_260, List.forall_mem_cons.mpr ⟨t_262, fun _ h => absurd h List.not_mem_nil⟩⟩⟩⟩⟩⟩⟩⟩⟩
theorem y_EE_pointCount : ez_fty 0 0 true (.int) := ⟨_, _, _, ty_EE, rfl, tp_EE, nm_EE, rfl, by decide +kernel, rfl⟩
theorem y_EE_rowCount : ez_fty 0 1 true (.int) := ⟨_, _, _, ty_EE, rfl, tp_EE, nm_EE, rfl, by decide +kernel, rfl⟩
theorem y_EE_firstEdition : ez_fty 0 2 true (.object "EditionEqual$Edition") := ⟨_, _, _, ty_EE, rfl, tp_EE, nm_EE, rfl, by decide +kernel, rfl⟩
theorem y_EE_secondEdition : ez_fty 0 3 true (.object "EditionEqual$Edition") := ⟨_, _, _, ty_EE, rfl, tp_EE, nm_EE, rfl, by decide +kernel, rfl⟩
theorem y_EE_firstBehaviour : ez_fty 0 4 true (.object "EditionEqual$Behaviour") := ⟨_, _, _, ty_EE, rfl, tp_EE, nm_EE, rfl, by decide +kernel, rfl⟩
theorem y_EE_secondBehaviour : ez_fty 0 5 true (.object "EditionEqual$Behaviour") := ⟨_, _, _, ty_EE, rfl, tp_EE, nm_EE, rfl, by decide +kernel, rfl⟩
theorem y_EE_search : ez_fty 0 6 true (.object "EditionEqual$PairSearch") := ⟨_, _, _, ty_EE, rfl, tp_EE, nm_EE, rfl, by decide +kernel, rfl⟩
theorem y_EE_matching : ez_fty 0 7 true (.object "EditionEqual$Matching") := ⟨_, _, _, ty_EE, rfl, tp_EE, nm_EE, rfl, by decide +kernel, rfl⟩
theorem y_EE_barredRows : ez_fty 0 8 false (.int) := ⟨_, _, _, ty_EE, rfl, tp_EE, nm_EE, rfl, by decide +kernel, rfl⟩
theorem in_ED : ∀ w ∈ u_ws "EditionEqual$Edition" T_ED 10, w ∈ ez_T := List.forall_mem_cons.mpr ⟨t_98, List.forall_mem_cons.mpr ⟨t_100, List.forall_mem_cons.mpr ⟨t_102, List.forall_mem_cons.mpr ⟨t_104, List.forall_mem_cons.mpr ⟨t_106, List.forall_mem_cons.mpr ⟨t_108, List.forall_mem_cons.mpr ⟨t_110, List.forall_mem_cons.mpr ⟨t_112, List.forall_mem_cons.mpr ⟨t_114, List.forall_mem_cons.mpr ⟨t_116, fun _ h => absurd h List.not_mem_nil⟩⟩⟩⟩⟩⟩⟩⟩⟩⟩
theorem y_ED_kinds : ez_fty 1 0 true (.array .int) := ⟨_, _, _, ty_ED, rfl, tp_ED, nm_ED, rfl, by decide +kernel, rfl⟩
theorem y_ED_numbers : ez_fty 1 1 true (.array .int) := ⟨_, _, _, ty_ED, rfl, tp_ED, nm_ED, rfl, by decide +kernel, rfl⟩
theorem y_ED_neededInputs : ez_fty 1 2 true (.array .int) := ⟨_, _, _, ty_ED, rfl, tp_ED, nm_ED, rfl, by decide +kernel, rfl⟩
theorem y_ED_wires : ez_fty 1 3 true (.array .int) := ⟨_, _, _, ty_ED, rfl, tp_ED, nm_ED, rfl, by decide +kernel, rfl⟩
theorem y_ED_neededBlocks : ez_fty 1 4 true (.array .int) := ⟨_, _, _, ty_ED, rfl, tp_ED, nm_ED, rfl, by decide +kernel, rfl⟩
theorem y_ED_outputs : ez_fty 1 5 true (.array .int) := ⟨_, _, _, ty_ED, rfl, tp_ED, nm_ED, rfl, by decide +kernel, rfl⟩
theorem y_ED_delays : ez_fty 1 6 true (.array .int) := ⟨_, _, _, ty_ED, rfl, tp_ED, nm_ED, rfl, by decide +kernel, rfl⟩
theorem y_ED_ahead : ez_fty 1 7 true (.array .int) := ⟨_, _, _, ty_ED, rfl, tp_ED, nm_ED, rfl, by decide +kernel, rfl⟩
theorem y_ED_blockCount : ez_fty 1 8 false (.int) := ⟨_, _, _, ty_ED, rfl, tp_ED, nm_ED, rfl, by decide +kernel, rfl⟩
theorem y_ED_delayCount : ez_fty 1 9 false (.int) := ⟨_, _, _, ty_ED, rfl, tp_ED, nm_ED, rfl, by decide +kernel, rfl⟩
theorem in_BH : ∀ w ∈ u_ws "EditionEqual$Behaviour" T_BH 13, w ∈ ez_T := List.forall_mem_cons.mpr ⟨t_139, List.forall_mem_cons.mpr ⟨t_141, List.forall_mem_cons.mpr ⟨t_143, List.forall_mem_cons.mpr ⟨t_145, List.forall_mem_cons.mpr ⟨t_147, List.forall_mem_cons.mpr ⟨t_149, List.forall_mem_cons.mpr ⟨t_151, List.forall_mem_cons.mpr ⟨t_153, List.forall_mem_cons.mpr ⟨t_155, List.forall_mem_cons.mpr ⟨t_157, List.forall_mem_cons.mpr ⟨t_159, List.forall_mem_cons.mpr ⟨t_161, List.forall_mem_cons.mpr ⟨t_163, fun _ h => absurd h List.not_mem_nil⟩⟩⟩⟩⟩⟩⟩⟩⟩⟩⟩⟩⟩
theorem y_BH_edition : ez_fty 2 0 true (.object "EditionEqual$Edition") := ⟨_, _, _, ty_BH, rfl, tp_BH, nm_BH, rfl, by decide +kernel, rfl⟩
theorem y_BH_order : ez_fty 2 1 true (.array .int) := ⟨_, _, _, ty_BH, rfl, tp_BH, nm_BH, rfl, by decide +kernel, rfl⟩
theorem y_BH_columns : ez_fty 2 2 true (.array .int) := ⟨_, _, _, ty_BH, rfl, tp_BH, nm_BH, rfl, by decide +kernel, rfl⟩
theorem y_BH_outs : ez_fty 2 3 true (.array .int) := ⟨_, _, _, ty_BH, rfl, tp_BH, nm_BH, rfl, by decide +kernel, rfl⟩
theorem y_BH_nextStates : ez_fty 2 4 true (.array .int) := ⟨_, _, _, ty_BH, rfl, tp_BH, nm_BH, rfl, by decide +kernel, rfl⟩
theorem y_BH_queue : ez_fty 2 5 true (.array .int) := ⟨_, _, _, ty_BH, rfl, tp_BH, nm_BH, rfl, by decide +kernel, rfl⟩
theorem y_BH_classes : ez_fty 2 6 true (.array .int) := ⟨_, _, _, ty_BH, rfl, tp_BH, nm_BH, rfl, by decide +kernel, rfl⟩
theorem y_BH_keys : ez_fty 2 7 true (.array .int) := ⟨_, _, _, ty_BH, rfl, tp_BH, nm_BH, rfl, by decide +kernel, rfl⟩
theorem y_BH_newClasses : ez_fty 2 8 true (.array .int) := ⟨_, _, _, ty_BH, rfl, tp_BH, nm_BH, rfl, by decide +kernel, rfl⟩
theorem y_BH_orderedCount : ez_fty 2 9 false (.int) := ⟨_, _, _, ty_BH, rfl, tp_BH, nm_BH, rfl, by decide +kernel, rfl⟩
theorem y_BH_stateCount : ez_fty 2 10 false (.int) := ⟨_, _, _, ty_BH, rfl, tp_BH, nm_BH, rfl, by decide +kernel, rfl⟩
theorem y_BH_reachedStates : ez_fty 2 11 false (.int) := ⟨_, _, _, ty_BH, rfl, tp_BH, nm_BH, rfl, by decide +kernel, rfl⟩
theorem y_BH_known : ez_fty 2 12 false (.boolean) := ⟨_, _, _, ty_BH, rfl, tp_BH, nm_BH, rfl, by decide +kernel, rfl⟩
theorem in_PS : ∀ w ∈ u_ws "EditionEqual$PairSearch" T_PS 13, w ∈ ez_T := List.forall_mem_cons.mpr ⟨t_185, List.forall_mem_cons.mpr ⟨t_187, List.forall_mem_cons.mpr ⟨t_189, List.forall_mem_cons.mpr ⟨t_191, List.forall_mem_cons.mpr ⟨t_193, List.forall_mem_cons.mpr ⟨t_195, List.forall_mem_cons.mpr ⟨t_197, List.forall_mem_cons.mpr ⟨t_199, List.forall_mem_cons.mpr ⟨t_201, List.forall_mem_cons.mpr ⟨t_203, List.forall_mem_cons.mpr ⟨t_205, List.forall_mem_cons.mpr ⟨t_207, List.forall_mem_cons.mpr ⟨t_209, fun _ h => absurd h List.not_mem_nil⟩⟩⟩⟩⟩⟩⟩⟩⟩⟩⟩⟩⟩
theorem y_PS_first : ez_fty 3 0 true (.object "EditionEqual$Behaviour") := ⟨_, _, _, ty_PS, rfl, tp_PS, nm_PS, rfl, by decide +kernel, rfl⟩
theorem y_PS_second : ez_fty 3 1 true (.object "EditionEqual$Behaviour") := ⟨_, _, _, ty_PS, rfl, tp_PS, nm_PS, rfl, by decide +kernel, rfl⟩
theorem y_PS_met : ez_fty 3 2 true (.array .int) := ⟨_, _, _, ty_PS, rfl, tp_PS, nm_PS, rfl, by decide +kernel, rfl⟩
theorem y_PS_queue : ez_fty 3 3 true (.array .int) := ⟨_, _, _, ty_PS, rfl, tp_PS, nm_PS, rfl, by decide +kernel, rfl⟩
theorem y_PS_cameFrom : ez_fty 3 4 true (.array .int) := ⟨_, _, _, ty_PS, rfl, tp_PS, nm_PS, rfl, by decide +kernel, rfl⟩
theorem y_PS_cameBy : ez_fty 3 5 true (.array .int) := ⟨_, _, _, ty_PS, rfl, tp_PS, nm_PS, rfl, by decide +kernel, rfl⟩
theorem y_PS_pairCount : ez_fty 3 6 false (.int) := ⟨_, _, _, ty_PS, rfl, tp_PS, nm_PS, rfl, by decide +kernel, rfl⟩
theorem y_PS_shownCount : ez_fty 3 7 false (.int) := ⟨_, _, _, ty_PS, rfl, tp_PS, nm_PS, rfl, by decide +kernel, rfl⟩
theorem y_PS_shownFrom : ez_fty 3 8 false (.int) := ⟨_, _, _, ty_PS, rfl, tp_PS, nm_PS, rfl, by decide +kernel, rfl⟩
theorem y_PS_shownLast : ez_fty 3 9 false (.int) := ⟨_, _, _, ty_PS, rfl, tp_PS, nm_PS, rfl, by decide +kernel, rfl⟩
theorem y_PS_firstOuts : ez_fty 3 10 false (.int) := ⟨_, _, _, ty_PS, rfl, tp_PS, nm_PS, rfl, by decide +kernel, rfl⟩
theorem y_PS_secondOuts : ez_fty 3 11 false (.int) := ⟨_, _, _, ty_PS, rfl, tp_PS, nm_PS, rfl, by decide +kernel, rfl⟩
theorem y_PS_known : ez_fty 3 12 false (.boolean) := ⟨_, _, _, ty_PS, rfl, tp_PS, nm_PS, rfl, by decide +kernel, rfl⟩
theorem in_MT : ∀ w ∈ u_ws "EditionEqual$Matching" T_MT 6, w ∈ ez_T := List.forall_mem_cons.mpr ⟨t_224, List.forall_mem_cons.mpr ⟨t_226, List.forall_mem_cons.mpr ⟨t_228, List.forall_mem_cons.mpr ⟨t_230, List.forall_mem_cons.mpr ⟨t_232, List.forall_mem_cons.mpr ⟨t_234, fun _ h => absurd h List.not_mem_nil⟩⟩⟩⟩⟩⟩
theorem y_MT_first : ez_fty 4 0 true (.object "EditionEqual$Edition") := ⟨_, _, _, ty_MT, rfl, tp_MT, nm_MT, rfl, by decide +kernel, rfl⟩
theorem y_MT_second : ez_fty 4 1 true (.object "EditionEqual$Edition") := ⟨_, _, _, ty_MT, rfl, tp_MT, nm_MT, rfl, by decide +kernel, rfl⟩
theorem y_MT_partners : ez_fty 4 2 true (.array .int) := ⟨_, _, _, ty_MT, rfl, tp_MT, nm_MT, rfl, by decide +kernel, rfl⟩
theorem y_MT_partnersBack : ez_fty 4 3 true (.array .int) := ⟨_, _, _, ty_MT, rfl, tp_MT, nm_MT, rfl, by decide +kernel, rfl⟩
theorem y_MT_queue : ez_fty 4 4 true (.array .int) := ⟨_, _, _, ty_MT, rfl, tp_MT, nm_MT, rfl, by decide +kernel, rfl⟩
theorem y_MT_matchCount : ez_fty 4 5 false (.int) := ⟨_, _, _, ty_MT, rfl, tp_MT, nm_MT, rfl, by decide +kernel, rfl⟩
theorem in_MD : ∀ w ∈ u_ws "EditionEqualModel" T_MD 22, w ∈ ez_T := List.forall_mem_cons.mpr ⟨t_810, List.forall_mem_cons.mpr ⟨t_812, List.forall_mem_cons.mpr ⟨t_814, List.forall_mem_cons.mpr ⟨t_816, List.forall_mem_cons.mpr ⟨t_818, List.forall_mem_cons.mpr ⟨t_820, List.forall_mem_cons.mpr ⟨t_822, List.forall_mem_cons.mpr ⟨t_824, List.forall_mem_cons.mpr ⟨t_826, List.forall_mem_cons.mpr ⟨t_828, List.forall_mem_cons.mpr ⟨t_830, List.forall_mem_cons.mpr ⟨t_832, List.forall_mem_cons.mpr ⟨t_834, List.forall_mem_cons.mpr ⟨t_836, List.forall_mem_cons.mpr ⟨t_838, List.forall_mem_cons.mpr ⟨t_840, List.forall_mem_cons.mpr ⟨t_842, List.forall_mem_cons.mpr ⟨t_844, List.forall_mem_cons.mpr ⟨t_846, List.forall_mem_cons.mpr ⟨t_848, List.forall_mem_cons.mpr ⟨t_850, List.forall_mem_cons.mpr ⟨t_852, fun _ h => absurd h List.not_mem_nil⟩⟩⟩⟩⟩⟩⟩⟩⟩⟩⟩⟩⟩⟩⟩⟩⟩⟩⟩⟩⟩⟩
theorem y_MD_thrown : ez_fty 5 0 false (.int) := ⟨_, _, _, ty_MD, rfl, tp_MD, nm_MD, rfl, by decide +kernel, rfl⟩
theorem y_MD_points : ez_fty 5 1 true (.int) := ⟨_, _, _, ty_MD, rfl, tp_MD, nm_MD, rfl, by decide +kernel, rfl⟩
theorem y_MD_barred : ez_fty 5 2 true (.array .boolean) := ⟨_, _, _, ty_MD, rfl, tp_MD, nm_MD, rfl, by decide +kernel, rfl⟩
theorem y_MD_counts : ez_fty 5 3 true (.array .int) := ⟨_, _, _, ty_MD, rfl, tp_MD, nm_MD, rfl, by decide +kernel, rfl⟩
theorem y_MD_kinds : ez_fty 5 4 true (.array .int) := ⟨_, _, _, ty_MD, rfl, tp_MD, nm_MD, rfl, by decide +kernel, rfl⟩
theorem y_MD_numbers : ez_fty 5 5 true (.array .int) := ⟨_, _, _, ty_MD, rfl, tp_MD, nm_MD, rfl, by decide +kernel, rfl⟩
theorem y_MD_firsts : ez_fty 5 6 true (.array .int) := ⟨_, _, _, ty_MD, rfl, tp_MD, nm_MD, rfl, by decide +kernel, rfl⟩
theorem y_MD_seconds : ez_fty 5 7 true (.array .int) := ⟨_, _, _, ty_MD, rfl, tp_MD, nm_MD, rfl, by decide +kernel, rfl⟩
theorem y_MD_outs : ez_fty 5 8 true (.array .int) := ⟨_, _, _, ty_MD, rfl, tp_MD, nm_MD, rfl, by decide +kernel, rfl⟩
theorem y_MD_come : ez_fty 5 9 true (.array .boolean) := ⟨_, _, _, ty_MD, rfl, tp_MD, nm_MD, rfl, by decide +kernel, rfl⟩
theorem y_MD_values : ez_fty 5 10 true (.array .int) := ⟨_, _, _, ty_MD, rfl, tp_MD, nm_MD, rfl, by decide +kernel, rfl⟩
theorem y_MD_table : ez_fty 5 11 true (.array .int) := ⟨_, _, _, ty_MD, rfl, tp_MD, nm_MD, rfl, by decide +kernel, rfl⟩
theorem y_MD_reached : ez_fty 5 12 true (.array .boolean) := ⟨_, _, _, ty_MD, rfl, tp_MD, nm_MD, rfl, by decide +kernel, rfl⟩
theorem y_MD_apart : ez_fty 5 13 true (.array .boolean) := ⟨_, _, _, ty_MD, rfl, tp_MD, nm_MD, rfl, by decide +kernel, rfl⟩
theorem y_MD_pairCount : ez_fty 5 14 false (.int) := ⟨_, _, _, ty_MD, rfl, tp_MD, nm_MD, rfl, by decide +kernel, rfl⟩
theorem y_MD_pairs : ez_fty 5 15 true (.array .int) := ⟨_, _, _, ty_MD, rfl, tp_MD, nm_MD, rfl, by decide +kernel, rfl⟩
theorem y_MD_cameFrom : ez_fty 5 16 true (.array .int) := ⟨_, _, _, ty_MD, rfl, tp_MD, nm_MD, rfl, by decide +kernel, rfl⟩
theorem y_MD_cameBy : ez_fty 5 17 true (.array .int) := ⟨_, _, _, ty_MD, rfl, tp_MD, nm_MD, rfl, by decide +kernel, rfl⟩
theorem y_MD_seen : ez_fty 5 18 true (.array .boolean) := ⟨_, _, _, ty_MD, rfl, tp_MD, nm_MD, rfl, by decide +kernel, rfl⟩
theorem y_MD_differsAt : ez_fty 5 19 false (.int) := ⟨_, _, _, ty_MD, rfl, tp_MD, nm_MD, rfl, by decide +kernel, rfl⟩
theorem y_MD_differsBy : ez_fty 5 20 false (.int) := ⟨_, _, _, ty_MD, rfl, tp_MD, nm_MD, rfl, by decide +kernel, rfl⟩
theorem y_MD_match : ez_fty 5 21 true (.array .boolean) := ⟨_, _, _, ty_MD, rfl, tp_MD, nm_MD, rfl, by decide +kernel, rfl⟩
theorem lk_EE_init_32 : ez_ok X_ED_init 0 ∧ ez_link X_EE_init.1.cls 27 X_ED_init.1 ∧ Cond.instanceMethod X_ED_init.1 ∈ ez_T := ⟨ok_ED_init, Or.inl t_81, t_82⟩
theorem lk_EE_init_43 : ez_ok X_ED_init 0 ∧ ez_link X_EE_init.1.cls 27 X_ED_init.1 ∧ Cond.instanceMethod X_ED_init.1 ∈ ez_T := ⟨ok_ED_init, Or.inl t_81, t_82⟩
theorem lk_EE_init_58 : ez_ok X_BH_init 1 ∧ ez_link X_EE_init.1.cls 37 X_BH_init.1 ∧ Cond.instanceMethod X_BH_init.1 ∈ ez_T := ⟨ok_BH_init, Or.inl t_122, t_123⟩
theorem lk_EE_init_73 : ez_ok X_BH_init 1 ∧ ez_link X_EE_init.1.cls 37 X_BH_init.1 ∧ Cond.instanceMethod X_BH_init.1 ∈ ez_T := ⟨ok_BH_init, Or.inl t_122, t_123⟩
theorem lk_EE_init_92 : ez_ok X_PS_init 2 ∧ ez_link X_EE_init.1.cls 49 X_PS_init.1 ∧ Cond.instanceMethod X_PS_init.1 ∈ ez_T := ⟨ok_PS_init, Or.inl t_168, t_169⟩
theorem lk_EE_init_111 : ez_ok X_MT_init 2 ∧ ez_link X_EE_init.1.cls 58 X_MT_init.1 ∧ Cond.instanceMethod X_MT_init.1 ∈ ez_T := ⟨ok_MT_init, Or.inl t_214, t_215⟩
theorem lk_EE_block_2 : es_lkV X_EE_block X_EE_editionOf 68 1 0 := ⟨ok_EE_editionOf, Or.inl t_277, t_279, t_0, _, _, rfl⟩
theorem lk_EE_block_10 : es_lkS X_EE_block X_EE_isWithin 72 2 := ⟨ok_EE_isWithin, Or.inl t_284, t_285⟩
theorem lk_EE_block_19 : es_lkV X_EE_block X_EE_isNumberOfKind 76 2 0 := ⟨ok_EE_isNumberOfKind, Or.inl t_354, t_356, t_2, _, _, rfl⟩
theorem lk_EE_block_38 : es_lkV X_EE_block X_ED_hasRoomFor 86 1 1 := ⟨ok_ED_hasRoomFor, Or.inl t_359, t_360, t_361, _, _, rfl⟩
theorem lk_EE_block_55 : es_lkV X_EE_block X_EE_forgetAnswers 95 0 0 := ⟨ok_EE_forgetAnswers, Or.inl t_379, t_381, t_3, _, _, rfl⟩
theorem lk_EE_block_62 : es_lkV X_EE_block X_ED_addBlock 98 2 1 := ⟨ok_ED_addBlock, Or.inl t_391, t_392, t_393, _, _, rfl⟩
theorem lk_EE_wire_2 : es_lkV X_EE_wire X_EE_editionOf 68 1 0 := ⟨ok_EE_editionOf, Or.inl t_277, t_279, t_0, _, _, rfl⟩
theorem lk_EE_wire_10 : es_lkV X_EE_wire X_ED_hasBlock 101 1 1 := ⟨ok_ED_hasBlock, Or.inl t_406, t_407, t_408, _, _, rfl⟩
theorem lk_EE_wire_18 : es_lkS X_EE_wire X_EE_isWithin 72 2 := ⟨ok_EE_isWithin, Or.inl t_284, t_285⟩
theorem lk_EE_wire_28 : es_lkV X_EE_wire X_ED_hasBlockOrNone 104 1 1 := ⟨ok_ED_hasBlockOrNone, Or.inl t_410, t_411, t_412, _, _, rfl⟩
theorem lk_EE_wire_45 : es_lkV X_EE_wire X_EE_forgetAnswers 95 0 0 := ⟨ok_EE_forgetAnswers, Or.inl t_379, t_381, t_3, _, _, rfl⟩
theorem lk_EE_wire_54 : es_lkV X_EE_wire X_ED_rewire 109 3 1 := ⟨ok_ED_rewire, Or.inl t_416, t_417, t_418, _, _, rfl⟩
theorem lk_EE_out_2 : es_lkV X_EE_out X_EE_editionOf 68 1 0 := ⟨ok_EE_editionOf, Or.inl t_277, t_279, t_0, _, _, rfl⟩
theorem lk_EE_out_9 : es_lkS X_EE_out X_EE_isWithin 72 2 := ⟨ok_EE_isWithin, Or.inl t_284, t_285⟩
theorem lk_EE_out_18 : es_lkV X_EE_out X_ED_hasBlockOrNone 104 1 1 := ⟨ok_ED_hasBlockOrNone, Or.inl t_410, t_411, t_412, _, _, rfl⟩
theorem lk_EE_out_35 : es_lkV X_EE_out X_EE_forgetAnswers 95 0 0 := ⟨ok_EE_forgetAnswers, Or.inl t_379, t_381, t_3, _, _, rfl⟩
theorem lk_EE_out_42 : es_lkV X_EE_out X_ED_changeOutput 115 2 1 := ⟨ok_ED_changeOutput, Or.inl t_436, t_437, t_438, _, _, rfl⟩
theorem lk_EE_bar_2 : es_lkV X_EE_bar X_EE_checkRow 118 1 0 := ⟨ok_EE_checkRow, Or.inl t_451, t_453, t_4, _, _, rfl⟩
theorem lk_EE_bar_6 : es_lkV X_EE_bar X_EE_forgetAnswers 95 0 0 := ⟨ok_EE_forgetAnswers, Or.inl t_379, t_381, t_3, _, _, rfl⟩
theorem lk_EE_wrong_2 : es_lkV X_EE_wrong X_EE_editionOf 68 1 0 := ⟨ok_EE_editionOf, Or.inl t_277, t_279, t_0, _, _, rfl⟩
theorem lk_EE_wrong_5 : es_lkV X_EE_wrong X_ED_firstFault 122 0 1 := ⟨ok_ED_firstFault, Or.inl t_463, t_464, t_465, _, _, rfl⟩
theorem lk_EE_value_2 : es_lkV X_EE_value X_EE_editionOf 68 1 0 := ⟨ok_EE_editionOf, Or.inl t_277, t_279, t_0, _, _, rfl⟩
theorem lk_EE_value_6 : es_lkS X_EE_value X_EE_checkBlock 126 2 := ⟨ok_EE_checkBlock, Or.inl t_489, t_490⟩
theorem lk_EE_value_12 : es_lkV X_EE_value X_EE_checkRow 118 1 0 := ⟨ok_EE_checkRow, Or.inl t_451, t_453, t_4, _, _, rfl⟩
theorem lk_EE_value_17 : es_lkV X_EE_value X_EE_behaviourOf 130 1 0 := ⟨ok_EE_behaviourOf, Or.inl t_493, t_495, t_7, _, _, rfl⟩
theorem lk_EE_value_24 : es_lkV X_EE_value X_BH_valueOf 134 3 2 := ⟨ok_BH_valueOf, Or.inl t_570, t_551, t_552, _, _, rfl⟩
theorem lk_EE_tick_2 : es_lkV X_EE_tick X_EE_checkRow 118 1 0 := ⟨ok_EE_checkRow, Or.inl t_451, t_453, t_4, _, _, rfl⟩
theorem lk_EE_tick_7 : es_lkV X_EE_tick X_EE_behaviourOf 130 1 0 := ⟨ok_EE_behaviourOf, Or.inl t_493, t_495, t_7, _, _, rfl⟩
theorem lk_EE_tick_16 : es_lkV X_EE_tick X_BH_outsOf 137 2 2 := ⟨ok_BH_outsOf, Or.inl t_578, t_579, t_580, _, _, rfl⟩
theorem lk_EE_tick_25 : es_lkV X_EE_tick X_BH_stateAfter 140 2 2 := ⟨ok_BH_stateAfter, Or.inl t_582, t_563, t_564, _, _, rfl⟩
theorem lk_EE_reached_2 : es_lkV X_EE_reached X_EE_behaviourOf 130 1 0 := ⟨ok_EE_behaviourOf, Or.inl t_493, t_495, t_7, _, _, rfl⟩
theorem lk_EE_reached_5 : es_lkV X_EE_reached X_BH_countReached 143 0 2 := ⟨ok_BH_countReached, Or.inl t_590, t_591, t_592, _, _, rfl⟩
theorem lk_EE_state_16 : es_lkV X_EE_state X_EE_behaviourOf 130 1 0 := ⟨ok_EE_behaviourOf, Or.inl t_493, t_495, t_7, _, _, rfl⟩
theorem lk_EE_state_20 : es_lkV X_EE_state X_BH_reachedAt 148 1 2 := ⟨ok_BH_reachedAt, Or.inl t_608, t_609, t_610, _, _, rfl⟩
theorem lk_EE_least_2 : es_lkV X_EE_least X_EE_behaviourOf 130 1 0 := ⟨ok_EE_behaviourOf, Or.inl t_493, t_495, t_7, _, _, rfl⟩
theorem lk_EE_least_6 : es_lkV X_EE_least X_EE_openRows 152 0 0 := ⟨ok_EE_openRows, Or.inl t_498, t_500, t_8, _, _, rfl⟩
theorem lk_EE_least_9 : es_lkV X_EE_least X_BH_countClasses 155 1 2 := ⟨ok_BH_countClasses, Or.inl t_619, t_620, t_621, _, _, rfl⟩
theorem lk_EE_compare_1 : es_lkV X_EE_compare X_EE_searchOfBoth 158 0 0 := ⟨ok_EE_searchOfBoth, Or.inl t_651, t_653, t_20, _, _, rfl⟩
theorem lk_EE_compare_4 : es_lkV X_EE_compare X_PS_countShown 162 0 3 := ⟨ok_PS_countShown, Or.inl t_682, t_683, t_684, _, _, rfl⟩
theorem lk_EE_shown_15 : es_lkV X_EE_shown X_EE_searchOfBoth 158 0 0 := ⟨ok_EE_searchOfBoth, Or.inl t_651, t_653, t_20, _, _, rfl⟩
theorem lk_EE_shown_21 : es_lkV X_EE_shown X_PS_countShown 162 0 3 := ⟨ok_PS_countShown, Or.inl t_682, t_683, t_684, _, _, rfl⟩
theorem lk_EE_shown_39 : es_lkV X_EE_shown X_PS_shownRow 169 1 3 := ⟨ok_PS_shownRow, Or.inl t_695, t_696, t_697, _, _, rfl⟩
theorem lk_EE_last_1 : es_lkS X_EE_last X_EE_checkEdition 172 1 := ⟨ok_EE_checkEdition, Or.inl t_281, t_282⟩
theorem lk_EE_last_5 : es_lkV X_EE_last X_EE_searchOfBoth 158 0 0 := ⟨ok_EE_searchOfBoth, Or.inl t_651, t_653, t_20, _, _, rfl⟩
theorem lk_EE_last_9 : es_lkV X_EE_last X_PS_lastOuts 175 1 3 := ⟨ok_PS_lastOuts, Or.inl t_706, t_707, t_708, _, _, rfl⟩
theorem lk_EE_pairs_1 : es_lkV X_EE_pairs X_EE_searchOfBoth 158 0 0 := ⟨ok_EE_searchOfBoth, Or.inl t_651, t_653, t_20, _, _, rfl⟩
theorem lk_EE_pairs_4 : es_lkV X_EE_pairs X_PS_countPairs 178 0 3 := ⟨ok_PS_countPairs, Or.inl t_717, t_718, t_719, _, _, rfl⟩
theorem lk_EE_same_1 : es_lkV X_EE_same X_EE_checkBothRight 181 0 0 := ⟨ok_EE_checkBothRight, Or.inl t_655, t_657, t_21, _, _, rfl⟩
theorem lk_EE_same_8 : es_lkV X_EE_same X_MT_matchAll 184 0 4 := ⟨ok_MT_matchAll, Or.inl t_728, t_729, t_730, _, _, rfl⟩
theorem lk_EE_matched_5 : es_lkS X_EE_matched X_EE_checkBlock 126 2 := ⟨ok_EE_checkBlock, Or.inl t_489, t_490⟩
theorem lk_EE_matched_9 : es_lkV X_EE_matched X_EE_checkBothRight 181 0 0 := ⟨ok_EE_checkBothRight, Or.inl t_655, t_657, t_21, _, _, rfl⟩
theorem lk_EE_matched_16 : es_lkV X_EE_matched X_MT_matchAll 184 0 4 := ⟨ok_MT_matchAll, Or.inl t_728, t_729, t_730, _, _, rfl⟩
theorem lk_EE_matched_27 : es_lkV X_EE_matched X_MT_partnerOf 188 1 4 := ⟨ok_MT_partnerOf, Or.inl t_757, t_746, t_747, _, _, rfl⟩
theorem lk_EE_idle_2 : es_lkV X_EE_idle X_EE_editionOf 68 1 0 := ⟨ok_EE_editionOf, Or.inl t_277, t_279, t_0, _, _, rfl⟩
theorem lk_EE_idle_22 : es_lkV X_EE_idle X_ED_idleAt 193 1 1 := ⟨ok_ED_idleAt, Or.inl t_766, t_767, t_768, _, _, rfl⟩
theorem lk_EE_blocks_2 : es_lkV X_EE_blocks X_EE_editionOf 68 1 0 := ⟨ok_EE_editionOf, Or.inl t_277, t_279, t_0, _, _, rfl⟩
theorem lk_EE_blocks_5 : es_lkV X_EE_blocks X_ED_countBlocks 196 0 1 := ⟨ok_ED_countBlocks, Or.inl t_781, t_515, t_516, _, _, rfl⟩
theorem lk_EE_editionOf_1 : es_lkS X_EE_editionOf X_EE_checkEdition 172 1 := ⟨ok_EE_checkEdition, Or.inl t_281, t_282⟩
theorem lk_EE_behaviourOf_2 : es_lkV X_EE_behaviourOf X_EE_editionOf 68 1 0 := ⟨ok_EE_editionOf, Or.inl t_277, t_279, t_0, _, _, rfl⟩
theorem lk_EE_behaviourOf_5 : es_lkV X_EE_behaviourOf X_ED_firstFault 122 0 1 := ⟨ok_ED_firstFault, Or.inl t_463, t_464, t_465, _, _, rfl⟩
theorem lk_EE_behaviourOf_44 : es_lkV X_EE_behaviourOf X_EE_openRows 152 0 0 := ⟨ok_EE_openRows, Or.inl t_498, t_500, t_8, _, _, rfl⟩
theorem lk_EE_behaviourOf_47 : es_lkV X_EE_behaviourOf X_BH_learn 201 2 2 := ⟨ok_BH_learn, Or.inl t_502, t_503, t_504, _, _, rfl⟩
theorem lk_EE_searchOfBoth_1 : es_lkV X_EE_searchOfBoth X_EE_checkBothRight 181 0 0 := ⟨ok_EE_checkBothRight, Or.inl t_655, t_657, t_21, _, _, rfl⟩
theorem lk_EE_searchOfBoth_13 : es_lkV X_EE_searchOfBoth X_EE_openRows 152 0 0 := ⟨ok_EE_openRows, Or.inl t_498, t_500, t_8, _, _, rfl⟩
theorem lk_EE_searchOfBoth_16 : es_lkV X_EE_searchOfBoth X_BH_learn 201 2 2 := ⟨ok_BH_learn, Or.inl t_502, t_503, t_504, _, _, rfl⟩
theorem lk_EE_searchOfBoth_28 : es_lkV X_EE_searchOfBoth X_EE_openRows 152 0 0 := ⟨ok_EE_openRows, Or.inl t_498, t_500, t_8, _, _, rfl⟩
theorem lk_EE_searchOfBoth_31 : es_lkV X_EE_searchOfBoth X_BH_learn 201 2 2 := ⟨ok_BH_learn, Or.inl t_502, t_503, t_504, _, _, rfl⟩
theorem lk_EE_searchOfBoth_39 : es_lkV X_EE_searchOfBoth X_EE_openRows 152 0 0 := ⟨ok_EE_openRows, Or.inl t_498, t_500, t_8, _, _, rfl⟩
theorem lk_EE_searchOfBoth_42 : es_lkV X_EE_searchOfBoth X_PS_learn 205 1 3 := ⟨ok_PS_learn, Or.inl t_660, t_661, t_662, _, _, rfl⟩
theorem lk_EE_forgetAnswers_4 : es_lkV X_EE_forgetAnswers X_BH_forget 207 0 2 := ⟨ok_BH_forget, Or.inl t_383, t_384, t_385, _, _, rfl⟩
theorem lk_EE_forgetAnswers_11 : es_lkV X_EE_forgetAnswers X_BH_forget 207 0 2 := ⟨ok_BH_forget, Or.inl t_383, t_384, t_385, _, _, rfl⟩
theorem lk_EE_forgetAnswers_18 : es_lkV X_EE_forgetAnswers X_PS_forget 210 0 3 := ⟨ok_PS_forget, Or.inl t_387, t_388, t_389, _, _, rfl⟩
theorem lk_EE_isNumberOfKind_33 : es_lkS X_EE_isNumberOfKind X_EE_isWithin 72 2 := ⟨ok_EE_isWithin, Or.inl t_284, t_285⟩
theorem lk_EE_isNumberOfKind_39 : es_lkS X_EE_isNumberOfKind X_EE_isWithin 72 2 := ⟨ok_EE_isWithin, Or.inl t_284, t_285⟩
theorem lk_EE_checkRow_5 : es_lkS X_EE_checkRow X_EE_isWithin 72 2 := ⟨ok_EE_isWithin, Or.inl t_284, t_285⟩
theorem lk_EE_checkBothRight_4 : es_lkV X_EE_checkBothRight X_ED_firstFault 122 0 1 := ⟨ok_ED_firstFault, Or.inl t_463, t_464, t_465, _, _, rfl⟩
theorem lk_EE_checkBothRight_15 : es_lkV X_EE_checkBothRight X_ED_firstFault 122 0 1 := ⟨ok_ED_firstFault, Or.inl t_463, t_464, t_465, _, _, rfl⟩
theorem lk_EE_checkEdition_2 : es_lkS X_EE_checkEdition X_EE_isWithin 72 2 := ⟨ok_EE_isWithin, Or.inl t_284, t_285⟩
theorem lk_EE_checkBlock_2 : es_lkV X_EE_checkBlock X_ED_hasBlock 101 1 1 := ⟨ok_ED_hasBlock, Or.inl t_406, t_407, t_408, _, _, rfl⟩
theorem lk_MD_isBlock_3 : es_lkS X_MD_isBlock X_MD_in 69 3 := ⟨ok_MD_in, Or.inl t_864, t_865⟩
theorem lk_MD_isBlock_19 : es_lkS X_MD_isBlock X_MD_in 69 3 := ⟨ok_MD_in, Or.inl t_864, t_865⟩
theorem lk_MD_isRow_10 : es_lkS X_MD_isRow X_MD_in 69 3 := ⟨ok_MD_in, Or.inl t_864, t_865⟩
theorem lk_MD_block_3 : es_lkS X_MD_block X_MD_in 69 3 := ⟨ok_MD_in, Or.inl t_864, t_865⟩
theorem lk_MD_block_13 : es_lkS X_MD_block X_MD_in 69 3 := ⟨ok_MD_in, Or.inl t_864, t_865⟩
theorem lk_MD_block_31 : es_lkS X_MD_block X_MD_in 69 3 := ⟨ok_MD_in, Or.inl t_864, t_865⟩
theorem lk_MD_block_45 : es_lkS X_MD_block X_MD_in 69 3 := ⟨ok_MD_in, Or.inl t_864, t_865⟩
theorem lk_MD_block_85 : es_lkV X_MD_block X_MD_delays 73 1 5 := ⟨ok_MD_delays, Or.inl t_867, t_869, t_28, _, _, rfl⟩
theorem lk_MD_block_97 : es_lkV X_MD_block X_MD_goes 77 2 5 := ⟨ok_MD_goes, Or.inl t_871, t_873, t_29, _, _, rfl⟩
theorem lk_MD_wire_4 : es_lkV X_MD_wire X_MD_isBlock 81 2 5 := ⟨ok_MD_isBlock, Or.inl t_879, t_881, t_30, _, _, rfl⟩
theorem lk_MD_wire_13 : es_lkS X_MD_wire X_MD_in 69 3 := ⟨ok_MD_in, Or.inl t_864, t_865⟩
theorem lk_MD_wire_29 : es_lkV X_MD_wire X_MD_isBlock 81 2 5 := ⟨ok_MD_isBlock, Or.inl t_879, t_881, t_30, _, _, rfl⟩
theorem lk_MD_wire_41 : es_lkV X_MD_wire X_MD_goes 77 2 5 := ⟨ok_MD_goes, Or.inl t_871, t_873, t_29, _, _, rfl⟩
theorem lk_MD_wire_61 : es_lkV X_MD_wire X_MD_input 85 3 5 := ⟨ok_MD_input, Or.inl t_883, t_885, t_31, _, _, rfl⟩
theorem lk_MD_out_4 : es_lkS X_MD_out X_MD_in 69 3 := ⟨ok_MD_in, Or.inl t_864, t_865⟩
theorem lk_MD_out_13 : es_lkS X_MD_out X_MD_in 69 3 := ⟨ok_MD_in, Or.inl t_864, t_865⟩
theorem lk_MD_out_27 : es_lkV X_MD_out X_MD_isBlock 81 2 5 := ⟨ok_MD_isBlock, Or.inl t_879, t_881, t_30, _, _, rfl⟩
theorem lk_MD_out_39 : es_lkV X_MD_out X_MD_goes 77 2 5 := ⟨ok_MD_goes, Or.inl t_871, t_873, t_29, _, _, rfl⟩
theorem lk_MD_bar_3 : es_lkV X_MD_bar X_MD_isRow 89 1 5 := ⟨ok_MD_isRow, Or.inl t_895, t_897, t_32, _, _, rfl⟩
theorem lk_MD_bar_7 : es_lkV X_MD_bar X_MD_goes 77 2 5 := ⟨ok_MD_goes, Or.inl t_871, t_873, t_29, _, _, rfl⟩
theorem lk_MD_isRound_24 : es_lkV X_MD_isRound X_MD_mark 93 2 5 := ⟨ok_MD_mark, Or.inl t_914, t_916, t_35, _, _, rfl⟩
theorem lk_MD_isRound_73 : es_lkV X_MD_isRound X_MD_mark 93 2 5 := ⟨ok_MD_mark, Or.inl t_914, t_916, t_35, _, _, rfl⟩
theorem lk_MD_mark_21 : es_lkS X_MD_mark X_MD_needs 96 1 := ⟨ok_MD_needs, Or.inl t_907, t_908⟩
theorem lk_MD_mark_38 : es_lkV X_MD_mark X_MD_input 85 3 5 := ⟨ok_MD_input, Or.inl t_883, t_885, t_31, _, _, rfl⟩
theorem lk_MD_fault_26 : es_lkS X_MD_fault X_MD_needs 96 1 := ⟨ok_MD_needs, Or.inl t_907, t_908⟩
theorem lk_MD_fault_36 : es_lkV X_MD_fault X_MD_input 85 3 5 := ⟨ok_MD_input, Or.inl t_883, t_885, t_31, _, _, rfl⟩
theorem lk_MD_fault_72 : es_lkV X_MD_fault X_MD_isRound 99 2 5 := ⟨ok_MD_isRound, Or.inl t_910, t_912, t_34, _, _, rfl⟩
theorem lk_MD_wrong_4 : es_lkS X_MD_wrong X_MD_in 69 3 := ⟨ok_MD_in, Or.inl t_864, t_865⟩
theorem lk_MD_wrong_8 : es_lkV X_MD_wrong X_MD_goes 77 2 5 := ⟨ok_MD_goes, Or.inl t_871, t_873, t_29, _, _, rfl⟩
theorem lk_MD_wrong_16 : es_lkV X_MD_wrong X_MD_fault 102 1 5 := ⟨ok_MD_fault, Or.inl t_903, t_905, t_33, _, _, rfl⟩
theorem lk_MD_isRight_3 : es_lkS X_MD_isRight X_MD_in 69 3 := ⟨ok_MD_in, Or.inl t_864, t_865⟩
theorem lk_MD_isRight_11 : es_lkV X_MD_isRight X_MD_fault 102 1 5 := ⟨ok_MD_fault, Or.inl t_903, t_905, t_33, _, _, rfl⟩
theorem lk_MD_areRight_2 : es_lkV X_MD_areRight X_MD_isRight 105 1 5 := ⟨ok_MD_isRight, Or.inl t_922, t_924, t_36, _, _, rfl⟩
theorem lk_MD_areRight_10 : es_lkV X_MD_areRight X_MD_isRight 105 1 5 := ⟨ok_MD_isRight, Or.inl t_922, t_924, t_36, _, _, rfl⟩
theorem lk_MD_settle_159 : es_lkV X_MD_settle X_MD_reckon 108 2 5 := ⟨ok_MD_reckon, Or.inl t_930, t_932, t_38, _, _, rfl⟩
theorem lk_MD_reckon_20 : es_lkV X_MD_reckon X_MD_input 85 3 5 := ⟨ok_MD_input, Or.inl t_883, t_885, t_31, _, _, rfl⟩
theorem lk_MD_reckon_43 : es_lkV X_MD_reckon X_MD_input 85 3 5 := ⟨ok_MD_input, Or.inl t_883, t_885, t_31, _, _, rfl⟩
theorem lk_MD_answer_4 : es_lkV X_MD_answer X_MD_settle 112 3 5 := ⟨ok_MD_settle, Or.inl t_926, t_928, t_37, _, _, rfl⟩
theorem lk_MD_answer_109 : es_lkV X_MD_answer X_MD_input 85 3 5 := ⟨ok_MD_input, Or.inl t_883, t_885, t_31, _, _, rfl⟩
theorem lk_MD_value_4 : es_lkV X_MD_value X_MD_isBlock 81 2 5 := ⟨ok_MD_isBlock, Or.inl t_879, t_881, t_30, _, _, rfl⟩
theorem lk_MD_value_13 : es_lkV X_MD_value X_MD_isRow 89 1 5 := ⟨ok_MD_isRow, Or.inl t_895, t_897, t_32, _, _, rfl⟩
theorem lk_MD_value_26 : es_lkV X_MD_value X_MD_isRight 105 1 5 := ⟨ok_MD_isRight, Or.inl t_922, t_924, t_36, _, _, rfl⟩
theorem lk_MD_value_29 : es_lkV X_MD_value X_MD_goes 77 2 5 := ⟨ok_MD_goes, Or.inl t_871, t_873, t_29, _, _, rfl⟩
theorem lk_MD_value_42 : es_lkV X_MD_value X_MD_settle 112 3 5 := ⟨ok_MD_settle, Or.inl t_926, t_928, t_37, _, _, rfl⟩
theorem lk_MD_tick_4 : es_lkS X_MD_tick X_MD_in 69 3 := ⟨ok_MD_in, Or.inl t_864, t_865⟩
theorem lk_MD_tick_12 : es_lkV X_MD_tick X_MD_isRow 89 1 5 := ⟨ok_MD_isRow, Or.inl t_895, t_897, t_32, _, _, rfl⟩
theorem lk_MD_tick_25 : es_lkV X_MD_tick X_MD_isRight 105 1 5 := ⟨ok_MD_isRight, Or.inl t_922, t_924, t_36, _, _, rfl⟩
theorem lk_MD_tick_28 : es_lkV X_MD_tick X_MD_goes 77 2 5 := ⟨ok_MD_goes, Or.inl t_871, t_873, t_29, _, _, rfl⟩
theorem lk_MD_tick_38 : es_lkV X_MD_tick X_MD_answer 116 3 5 := ⟨ok_MD_answer, Or.inl t_938, t_940, t_39, _, _, rfl⟩
theorem lk_MD_explore_3 : es_lkV X_MD_explore X_MD_delays 73 1 5 := ⟨ok_MD_delays, Or.inl t_867, t_869, t_28, _, _, rfl⟩
theorem lk_MD_explore_76 : es_lkV X_MD_explore X_MD_answer 116 3 5 := ⟨ok_MD_answer, Or.inl t_938, t_940, t_39, _, _, rfl⟩
theorem lk_MD_reached_4 : es_lkS X_MD_reached X_MD_in 69 3 := ⟨ok_MD_in, Or.inl t_864, t_865⟩
theorem lk_MD_reached_9 : es_lkV X_MD_reached X_MD_isRight 105 1 5 := ⟨ok_MD_isRight, Or.inl t_922, t_924, t_36, _, _, rfl⟩
theorem lk_MD_reached_12 : es_lkV X_MD_reached X_MD_goes 77 2 5 := ⟨ok_MD_goes, Or.inl t_871, t_873, t_29, _, _, rfl⟩
theorem lk_MD_reached_22 : es_lkV X_MD_reached X_MD_explore 119 1 5 := ⟨ok_MD_explore, Or.inl t_946, t_948, t_40, _, _, rfl⟩
theorem lk_MD_reached_27 : es_lkV X_MD_reached X_MD_reachedCount 123 1 5 := ⟨ok_MD_reachedCount, Or.inl t_950, t_952, t_41, _, _, rfl⟩
theorem lk_MD_state_4 : es_lkS X_MD_state X_MD_in 69 3 := ⟨ok_MD_in, Or.inl t_864, t_865⟩
theorem lk_MD_state_21 : es_lkV X_MD_state X_MD_isRight 105 1 5 := ⟨ok_MD_isRight, Or.inl t_922, t_924, t_36, _, _, rfl⟩
theorem lk_MD_state_24 : es_lkV X_MD_state X_MD_goes 77 2 5 := ⟨ok_MD_goes, Or.inl t_871, t_873, t_29, _, _, rfl⟩
theorem lk_MD_state_34 : es_lkV X_MD_state X_MD_explore 119 1 5 := ⟨ok_MD_explore, Or.inl t_946, t_948, t_40, _, _, rfl⟩
theorem lk_MD_least_4 : es_lkS X_MD_least X_MD_in 69 3 := ⟨ok_MD_in, Or.inl t_864, t_865⟩
theorem lk_MD_least_9 : es_lkV X_MD_least X_MD_isRight 105 1 5 := ⟨ok_MD_isRight, Or.inl t_922, t_924, t_36, _, _, rfl⟩
theorem lk_MD_least_12 : es_lkV X_MD_least X_MD_goes 77 2 5 := ⟨ok_MD_goes, Or.inl t_871, t_873, t_29, _, _, rfl⟩
theorem lk_MD_least_22 : es_lkV X_MD_least X_MD_explore 119 1 5 := ⟨ok_MD_explore, Or.inl t_946, t_948, t_40, _, _, rfl⟩
theorem lk_MD_least_50 : es_lkV X_MD_least X_MD_delays 73 1 5 := ⟨ok_MD_delays, Or.inl t_867, t_869, t_28, _, _, rfl⟩
theorem lk_MD_least_103 : es_lkV X_MD_least X_MD_tells 126 3 5 := ⟨ok_MD_tells, Or.inl t_962, t_964, t_42, _, _, rfl⟩
theorem lk_MD_goOver_2 : es_lkV X_MD_goOver X_MD_explore 119 1 5 := ⟨ok_MD_explore, Or.inl t_946, t_948, t_40, _, _, rfl⟩
theorem lk_MD_goOver_7 : es_lkV X_MD_goOver X_MD_explore 119 1 5 := ⟨ok_MD_explore, Or.inl t_946, t_948, t_40, _, _, rfl⟩
theorem lk_MD_goOver_46 : es_lkV X_MD_goOver X_MD_meet 135 3 5 := ⟨ok_MD_meet, Or.inl t_978, t_980, t_45, _, _, rfl⟩
theorem lk_MD_goOver_179 : es_lkV X_MD_goOver X_MD_meet 135 3 5 := ⟨ok_MD_meet, Or.inl t_978, t_980, t_45, _, _, rfl⟩
theorem lk_MD_compare_2 : es_lkV X_MD_compare X_MD_areRight 141 0 5 := ⟨ok_MD_areRight, Or.inl t_970, t_972, t_43, _, _, rfl⟩
theorem lk_MD_compare_6 : es_lkV X_MD_compare X_MD_goes 77 2 5 := ⟨ok_MD_goes, Or.inl t_871, t_873, t_29, _, _, rfl⟩
theorem lk_MD_compare_15 : es_lkV X_MD_compare X_MD_goOver 145 0 5 := ⟨ok_MD_goOver, Or.inl t_974, t_976, t_44, _, _, rfl⟩
theorem lk_MD_compare_19 : es_lkV X_MD_compare X_MD_shownCount 148 0 5 := ⟨ok_MD_shownCount, Or.inl t_982, t_984, t_46, _, _, rfl⟩
theorem lk_MD_shown_1 : es_lkV X_MD_shown X_MD_areRight 141 0 5 := ⟨ok_MD_areRight, Or.inl t_970, t_972, t_43, _, _, rfl⟩
theorem lk_MD_shown_12 : es_lkV X_MD_shown X_MD_goOver 145 0 5 := ⟨ok_MD_goOver, Or.inl t_974, t_976, t_44, _, _, rfl⟩
theorem lk_MD_shown_16 : es_lkV X_MD_shown X_MD_shownCount 148 0 5 := ⟨ok_MD_shownCount, Or.inl t_982, t_984, t_46, _, _, rfl⟩
theorem lk_MD_shown_40 : es_lkV X_MD_shown X_MD_goes 77 2 5 := ⟨ok_MD_goes, Or.inl t_871, t_873, t_29, _, _, rfl⟩
theorem lk_MD_last_4 : es_lkS X_MD_last X_MD_in 69 3 := ⟨ok_MD_in, Or.inl t_864, t_865⟩
theorem lk_MD_last_8 : es_lkV X_MD_last X_MD_areRight 141 0 5 := ⟨ok_MD_areRight, Or.inl t_970, t_972, t_43, _, _, rfl⟩
theorem lk_MD_last_11 : es_lkV X_MD_last X_MD_goes 77 2 5 := ⟨ok_MD_goes, Or.inl t_871, t_873, t_29, _, _, rfl⟩
theorem lk_MD_last_20 : es_lkV X_MD_last X_MD_goOver 145 0 5 := ⟨ok_MD_goOver, Or.inl t_974, t_976, t_44, _, _, rfl⟩
theorem lk_MD_pairs_2 : es_lkV X_MD_pairs X_MD_areRight 141 0 5 := ⟨ok_MD_areRight, Or.inl t_970, t_972, t_43, _, _, rfl⟩
theorem lk_MD_pairs_6 : es_lkV X_MD_pairs X_MD_goes 77 2 5 := ⟨ok_MD_goes, Or.inl t_871, t_873, t_29, _, _, rfl⟩
theorem lk_MD_pairs_15 : es_lkV X_MD_pairs X_MD_goOver 145 0 5 := ⟨ok_MD_goOver, Or.inl t_974, t_976, t_44, _, _, rfl⟩
theorem lk_MD_areSame_187 : es_lkS X_MD_areSame X_MD_needs 96 1 := ⟨ok_MD_needs, Or.inl t_907, t_908⟩
theorem lk_MD_areSame_200 : es_lkV X_MD_areSame X_MD_input 85 3 5 := ⟨ok_MD_input, Or.inl t_883, t_885, t_31, _, _, rfl⟩
theorem lk_MD_areSame_210 : es_lkV X_MD_areSame X_MD_input 85 3 5 := ⟨ok_MD_input, Or.inl t_883, t_885, t_31, _, _, rfl⟩
theorem lk_MD_areSame_260 : es_lkV X_MD_areSame X_MD_areSingle 152 0 5 := ⟨ok_MD_areSingle, Or.inl t_1006, t_1008, t_48, _, _, rfl⟩
theorem lk_MD_same_2 : es_lkV X_MD_same X_MD_areRight 141 0 5 := ⟨ok_MD_areRight, Or.inl t_970, t_972, t_43, _, _, rfl⟩
theorem lk_MD_same_6 : es_lkV X_MD_same X_MD_goes 77 2 5 := ⟨ok_MD_goes, Or.inl t_871, t_873, t_29, _, _, rfl⟩
theorem lk_MD_same_13 : es_lkV X_MD_same X_MD_areSame 155 0 5 := ⟨ok_MD_areSame, Or.inl t_1002, t_1004, t_47, _, _, rfl⟩
theorem lk_MD_matched_4 : es_lkV X_MD_matched X_MD_isBlock 81 2 5 := ⟨ok_MD_isBlock, Or.inl t_879, t_881, t_30, _, _, rfl⟩
theorem lk_MD_matched_8 : es_lkV X_MD_matched X_MD_areRight 141 0 5 := ⟨ok_MD_areRight, Or.inl t_970, t_972, t_43, _, _, rfl⟩
theorem lk_MD_matched_11 : es_lkV X_MD_matched X_MD_goes 77 2 5 := ⟨ok_MD_goes, Or.inl t_871, t_873, t_29, _, _, rfl⟩
theorem lk_MD_matched_20 : es_lkV X_MD_matched X_MD_areSame 155 0 5 := ⟨ok_MD_areSame, Or.inl t_1002, t_1004, t_47, _, _, rfl⟩
theorem lk_MD_idle_4 : es_lkS X_MD_idle X_MD_in 69 3 := ⟨ok_MD_in, Or.inl t_864, t_865⟩
theorem lk_MD_idle_20 : es_lkV X_MD_idle X_MD_goes 77 2 5 := ⟨ok_MD_goes, Or.inl t_871, t_873, t_29, _, _, rfl⟩
theorem lk_MD_idle_131 : es_lkS X_MD_idle X_MD_needs 96 1 := ⟨ok_MD_needs, Or.inl t_907, t_908⟩
theorem lk_MD_idle_153 : es_lkV X_MD_idle X_MD_input 85 3 5 := ⟨ok_MD_input, Or.inl t_883, t_885, t_31, _, _, rfl⟩
theorem lk_MD_blocks_4 : es_lkS X_MD_blocks X_MD_in 69 3 := ⟨ok_MD_in, Or.inl t_864, t_865⟩
theorem lk_MD_blocks_8 : es_lkV X_MD_blocks X_MD_goes 77 2 5 := ⟨ok_MD_goes, Or.inl t_871, t_873, t_29, _, _, rfl⟩
theorem lk_BH_learn_14 : es_lkV X_BH_learn X_ED_countDelays 54 0 1 := ⟨ok_ED_countDelays, Or.inl t_506, t_507, t_508, _, _, rfl⟩
theorem lk_BH_learn_22 : es_lkV X_BH_learn X_BH_orderBlocks 60 0 2 := ⟨ok_BH_orderBlocks, Or.inl t_510, t_512, t_9, _, _, rfl⟩
theorem lk_BH_learn_40 : es_lkV X_BH_learn X_BH_fillColumns 63 1 2 := ⟨ok_BH_fillColumns, Or.inl t_521, t_523, t_10, _, _, rfl⟩
theorem lk_BH_learn_45 : es_lkV X_BH_learn X_BH_fillTicks 67 1 2 := ⟨ok_BH_fillTicks, Or.inl t_545, t_547, t_13, _, _, rfl⟩
theorem lk_BH_learn_56 : es_lkV X_BH_learn X_BH_findReached 70 1 2 := ⟨ok_BH_findReached, Or.inl t_558, t_560, t_14, _, _, rfl⟩
theorem lk_BH_valueOf_3 : es_lkV X_BH_valueOf X_BH_columnAt 73 2 2 := ⟨ok_BH_columnAt, Or.inl t_534, t_536, t_12, _, _, rfl⟩
theorem lk_BH_outsOf_3 : es_lkS X_BH_outsOf X_EE_isWithin 77 2 := ⟨ok_EE_isWithin, Or.inr ⟨_, t_538⟩, t_285⟩
theorem lk_BH_outsOf_16 : es_lkV X_BH_outsOf X_BH_placeOf 81 2 2 := ⟨ok_BH_placeOf, Or.inl t_566, t_568, t_15, _, _, rfl⟩
theorem lk_BH_stateAfter_3 : es_lkS X_BH_stateAfter X_EE_isWithin 77 2 := ⟨ok_EE_isWithin, Or.inr ⟨_, t_538⟩, t_285⟩
theorem lk_BH_stateAfter_16 : es_lkV X_BH_stateAfter X_BH_placeOf 81 2 2 := ⟨ok_BH_placeOf, Or.inl t_566, t_568, t_15, _, _, rfl⟩
theorem lk_BH_countReached_4 : es_lkS X_BH_countReached X_JI_bitCount 84 1 := ⟨ok_JI_bitCount, Or.inl t_594, t_595⟩
theorem lk_BH_reachedAt_15 : es_lkS X_BH_reachedAt X_EE_holds 90 2 := ⟨ok_EE_holds, Or.inr ⟨_, t_519⟩, t_480⟩
theorem lk_BH_orderBlocks_23 : es_lkV X_BH_orderBlocks X_ED_countBlocks 93 0 1 := ⟨ok_ED_countBlocks, Or.inl t_514, t_515, t_516, _, _, rfl⟩
theorem lk_BH_orderBlocks_36 : es_lkV X_BH_orderBlocks X_ED_countBlocks 93 0 1 := ⟨ok_ED_countBlocks, Or.inl t_514, t_515, t_516, _, _, rfl⟩
theorem lk_BH_orderBlocks_47 : es_lkV X_BH_orderBlocks X_ED_neededInTick 96 1 1 := ⟨ok_ED_neededInTick, Or.inl t_518, t_476, t_477, _, _, rfl⟩
theorem lk_BH_orderBlocks_71 : es_lkS X_BH_orderBlocks X_EE_holds 90 2 := ⟨ok_EE_holds, Or.inr ⟨_, t_519⟩, t_480⟩
theorem lk_BH_orderBlocks_108 : es_lkS X_BH_orderBlocks X_EE_bitOf 99 1 := ⟨ok_EE_bitOf, Or.inr ⟨_, t_520⟩, t_426⟩
theorem lk_BH_fillColumns_30 : es_lkV X_BH_fillColumns X_BH_workOutColumn 102 2 2 := ⟨ok_BH_workOutColumn, Or.inl t_525, t_527, t_11, _, _, rfl⟩
theorem lk_BH_workOutColumn_5 : es_lkV X_BH_workOutColumn X_ED_numberOf 105 1 1 := ⟨ok_ED_numberOf, Or.inl t_529, t_530, t_531, _, _, rfl⟩
theorem lk_BH_workOutColumn_16 : es_lkV X_BH_workOutColumn X_ED_neededAt 108 2 1 := ⟨ok_ED_neededAt, Or.inl t_533, t_422, t_423, _, _, rfl⟩
theorem lk_BH_workOutColumn_20 : es_lkV X_BH_workOutColumn X_BH_columnAt 73 2 2 := ⟨ok_BH_columnAt, Or.inl t_534, t_536, t_12, _, _, rfl⟩
theorem lk_BH_workOutColumn_32 : es_lkV X_BH_workOutColumn X_ED_neededAt 108 2 1 := ⟨ok_ED_neededAt, Or.inl t_533, t_422, t_423, _, _, rfl⟩
theorem lk_BH_workOutColumn_36 : es_lkV X_BH_workOutColumn X_BH_columnAt 73 2 2 := ⟨ok_BH_columnAt, Or.inl t_534, t_536, t_12, _, _, rfl⟩
theorem lk_BH_workOutColumn_46 : es_lkV X_BH_workOutColumn X_ED_kindOf 111 1 1 := ⟨ok_ED_kindOf, Or.inl t_539, t_540, t_541, _, _, rfl⟩
theorem lk_BH_workOutColumn_90 : es_lkS X_BH_workOutColumn X_EE_holds 90 2 := ⟨ok_EE_holds, Or.inr ⟨_, t_519⟩, t_480⟩
theorem lk_BH_workOutColumn_138 : es_lkS X_BH_workOutColumn X_EE_isWithin 77 2 := ⟨ok_EE_isWithin, Or.inr ⟨_, t_538⟩, t_285⟩
theorem lk_BH_columnAt_3 : es_lkS X_BH_columnAt X_EE_isWithin 77 2 := ⟨ok_EE_isWithin, Or.inr ⟨_, t_538⟩, t_285⟩
theorem lk_BH_columnAt_12 : es_lkS X_BH_columnAt X_EE_isWithin 77 2 := ⟨ok_EE_isWithin, Or.inr ⟨_, t_538⟩, t_285⟩
theorem lk_BH_fillTicks_35 : es_lkV X_BH_fillTicks X_ED_outputAt 117 1 1 := ⟨ok_ED_outputAt, Or.inl t_549, t_441, t_442, _, _, rfl⟩
theorem lk_BH_fillTicks_40 : es_lkV X_BH_fillTicks X_BH_valueOf 120 3 2 := ⟨ok_BH_valueOf, Or.inl t_550, t_551, t_552, _, _, rfl⟩
theorem lk_BH_fillTicks_66 : es_lkV X_BH_fillTicks X_ED_countDelays 54 0 1 := ⟨ok_ED_countDelays, Or.inl t_506, t_507, t_508, _, _, rfl⟩
theorem lk_BH_fillTicks_82 : es_lkV X_BH_fillTicks X_ED_delayAt 124 1 1 := ⟨ok_ED_delayAt, Or.inl t_554, t_555, t_556, _, _, rfl⟩
theorem lk_BH_fillTicks_86 : es_lkV X_BH_fillTicks X_ED_neededAt 108 2 1 := ⟨ok_ED_neededAt, Or.inl t_533, t_422, t_423, _, _, rfl⟩
theorem lk_BH_fillTicks_98 : es_lkV X_BH_fillTicks X_BH_valueOf 120 3 2 := ⟨ok_BH_valueOf, Or.inl t_550, t_551, t_552, _, _, rfl⟩
theorem lk_BH_findReached_11 : es_lkS X_BH_findReached X_EE_bitOf 99 1 := ⟨ok_EE_bitOf, Or.inr ⟨_, t_520⟩, t_426⟩
theorem lk_BH_findReached_43 : es_lkS X_BH_findReached X_EE_holds 90 2 := ⟨ok_EE_holds, Or.inr ⟨_, t_519⟩, t_480⟩
theorem lk_BH_findReached_58 : es_lkV X_BH_findReached X_BH_stateAfter 127 2 2 := ⟨ok_BH_stateAfter, Or.inl t_562, t_563, t_564, _, _, rfl⟩
theorem lk_BH_findReached_73 : es_lkS X_BH_findReached X_EE_holds 90 2 := ⟨ok_EE_holds, Or.inr ⟨_, t_519⟩, t_480⟩
theorem lk_BH_findReached_92 : es_lkS X_BH_findReached X_EE_bitOf 99 1 := ⟨ok_EE_bitOf, Or.inr ⟨_, t_520⟩, t_426⟩
theorem lk_BH_countClasses_5 : es_lkS X_BH_countClasses X_JA_fill 130 2 := ⟨ok_JA_fill, Or.inl t_623, t_86⟩
theorem lk_BH_countClasses_20 : es_lkS X_BH_countClasses X_EE_holds 90 2 := ⟨ok_EE_holds, Or.inr ⟨_, t_519⟩, t_480⟩
theorem lk_BH_countClasses_28 : es_lkV X_BH_countClasses X_BH_partByOuts 136 1 2 := ⟨ok_BH_partByOuts, Or.inl t_624, t_626, t_16, _, _, rfl⟩
theorem lk_BH_countClasses_70 : es_lkS X_BH_countClasses X_EE_holds 90 2 := ⟨ok_EE_holds, Or.inr ⟨_, t_519⟩, t_480⟩
theorem lk_BH_countClasses_79 : es_lkV X_BH_countClasses X_BH_partByNextClass 139 1 2 := ⟨ok_BH_partByNextClass, Or.inl t_640, t_642, t_19, _, _, rfl⟩
theorem lk_BH_partByOuts_16 : es_lkV X_BH_partByOuts X_BH_outsOf 142 2 2 := ⟨ok_BH_outsOf, Or.inl t_628, t_579, t_580, _, _, rfl⟩
theorem lk_BH_partByOuts_27 : es_lkV X_BH_partByOuts X_BH_partByKeys 145 0 2 := ⟨ok_BH_partByKeys, Or.inl t_629, t_631, t_17, _, _, rfl⟩
theorem lk_BH_partByNextClass_11 : es_lkV X_BH_partByNextClass X_BH_stateAfter 127 2 2 := ⟨ok_BH_stateAfter, Or.inl t_562, t_563, t_564, _, _, rfl⟩
theorem lk_BH_partByNextClass_23 : es_lkS X_BH_partByNextClass X_EE_isWithin 77 2 := ⟨ok_EE_isWithin, Or.inr ⟨_, t_538⟩, t_285⟩
theorem lk_BH_partByNextClass_47 : es_lkV X_BH_partByNextClass X_BH_partByKeys 145 0 2 := ⟨ok_BH_partByKeys, Or.inl t_629, t_631, t_17, _, _, rfl⟩
theorem lk_BH_partByKeys_15 : es_lkS X_BH_partByKeys X_EE_holds 90 2 := ⟨ok_EE_holds, Or.inr ⟨_, t_519⟩, t_480⟩
theorem lk_BH_partByKeys_23 : es_lkV X_BH_partByKeys X_BH_firstLike 148 1 2 := ⟨ok_BH_firstLike, Or.inl t_633, t_635, t_18, _, _, rfl⟩
theorem lk_BH_firstLike_52 : es_lkS X_BH_firstLike X_EE_holds 90 2 := ⟨ok_EE_holds, Or.inr ⟨_, t_519⟩, t_480⟩
theorem lk_ED_init_81 : es_lkS X_ED_init X_JA_fill 43 2 := ⟨ok_JA_fill, Or.inl t_85, t_86⟩
theorem lk_ED_init_89 : es_lkS X_ED_init X_JA_fill 43 2 := ⟨ok_JA_fill, Or.inl t_85, t_86⟩
theorem lk_ED_addBlock_2 : es_lkV X_ED_addBlock X_ED_hasRoomFor 49 1 1 := ⟨ok_ED_hasRoomFor, Or.inl t_395, t_360, t_361, _, _, rfl⟩
theorem lk_ED_addBlock_35 : es_lkS X_ED_addBlock X_ED_countNeeded 53 1 := ⟨ok_ED_countNeeded, Or.inl t_396, t_397⟩
theorem lk_ED_rewire_2 : es_lkV X_ED_rewire X_ED_hasBlock 57 1 1 := ⟨ok_ED_hasBlock, Or.inl t_414, t_407, t_408, _, _, rfl⟩
theorem lk_ED_rewire_10 : es_lkS X_ED_rewire X_EE_isWithin 60 2 := ⟨ok_EE_isWithin, Or.inr ⟨_, t_420⟩, t_285⟩
theorem lk_ED_rewire_49 : es_lkV X_ED_rewire X_ED_neededAt 64 2 1 := ⟨ok_ED_neededAt, Or.inl t_421, t_422, t_423, _, _, rfl⟩
theorem lk_ED_rewire_52 : es_lkS X_ED_rewire X_EE_bitOf 68 1 := ⟨ok_EE_bitOf, Or.inr ⟨_, t_425⟩, t_426⟩
theorem lk_ED_rewire_58 : es_lkV X_ED_rewire X_ED_neededAt 64 2 1 := ⟨ok_ED_neededAt, Or.inl t_421, t_422, t_423, _, _, rfl⟩
theorem lk_ED_rewire_61 : es_lkS X_ED_rewire X_EE_bitOf 68 1 := ⟨ok_EE_bitOf, Or.inr ⟨_, t_425⟩, t_426⟩
theorem lk_ED_changeOutput_2 : es_lkV X_ED_changeOutput X_ED_outputAt 71 1 1 := ⟨ok_ED_outputAt, Or.inl t_440, t_441, t_442, _, _, rfl⟩
theorem lk_ED_changeOutput_8 : es_lkS X_ED_changeOutput X_EE_isWithin 60 2 := ⟨ok_EE_isWithin, Or.inr ⟨_, t_420⟩, t_285⟩
theorem lk_ED_hasBlockOrNone_7 : es_lkV X_ED_hasBlockOrNone X_ED_hasBlock 57 1 1 := ⟨ok_ED_hasBlock, Or.inl t_414, t_407, t_408, _, _, rfl⟩
theorem lk_ED_kindOf_2 : es_lkV X_ED_kindOf X_ED_hasBlock 57 1 1 := ⟨ok_ED_hasBlock, Or.inl t_414, t_407, t_408, _, _, rfl⟩
theorem lk_ED_numberOf_2 : es_lkV X_ED_numberOf X_ED_hasBlock 57 1 1 := ⟨ok_ED_hasBlock, Or.inl t_414, t_407, t_408, _, _, rfl⟩
theorem lk_ED_outputAt_2 : es_lkS X_ED_outputAt X_EE_isWithin 60 2 := ⟨ok_EE_isWithin, Or.inr ⟨_, t_420⟩, t_285⟩
theorem lk_ED_delayAt_5 : es_lkS X_ED_delayAt X_EE_isWithin 60 2 := ⟨ok_EE_isWithin, Or.inr ⟨_, t_420⟩, t_285⟩
theorem lk_ED_neededAt_2 : es_lkV X_ED_neededAt X_ED_hasBlock 57 1 1 := ⟨ok_ED_hasBlock, Or.inl t_414, t_407, t_408, _, _, rfl⟩
theorem lk_ED_neededInTick_2 : es_lkV X_ED_neededInTick X_ED_hasBlock 57 1 1 := ⟨ok_ED_hasBlock, Or.inl t_414, t_407, t_408, _, _, rfl⟩
theorem lk_ED_firstFault_1 : es_lkV X_ED_firstFault X_ED_firstUnwired 74 0 1 := ⟨ok_ED_firstUnwired, Or.inl t_467, t_469, t_5, _, _, rfl⟩
theorem lk_ED_firstFault_15 : es_lkV X_ED_firstFault X_ED_firstComingBack 78 0 1 := ⟨ok_ED_firstComingBack, Or.inl t_471, t_473, t_6, _, _, rfl⟩
theorem lk_ED_firstComingBack_17 : es_lkV X_ED_firstComingBack X_ED_neededInTick 81 1 1 := ⟨ok_ED_neededInTick, Or.inl t_475, t_476, t_477, _, _, rfl⟩
theorem lk_ED_firstComingBack_54 : es_lkS X_ED_firstComingBack X_EE_holds 84 2 := ⟨ok_EE_holds, Or.inr ⟨_, t_479⟩, t_480⟩
theorem lk_ED_firstComingBack_104 : es_lkS X_ED_firstComingBack X_EE_holds 84 2 := ⟨ok_EE_holds, Or.inr ⟨_, t_479⟩, t_480⟩
theorem lk_ED_idleAt_1 : es_lkV X_ED_idleAt X_ED_liveBlocks 87 0 1 := ⟨ok_ED_liveBlocks, Or.inl t_770, t_772, t_27, _, _, rfl⟩
theorem lk_ED_idleAt_22 : es_lkS X_ED_idleAt X_EE_holds 84 2 := ⟨ok_EE_holds, Or.inr ⟨_, t_479⟩, t_480⟩
theorem lk_ED_liveBlocks_16 : es_lkS X_ED_liveBlocks X_EE_bitOf 68 1 := ⟨ok_EE_bitOf, Or.inr ⟨_, t_425⟩, t_426⟩
theorem lk_ED_liveBlocks_60 : es_lkS X_ED_liveBlocks X_EE_holds 84 2 := ⟨ok_EE_holds, Or.inr ⟨_, t_479⟩, t_480⟩
theorem lk_MT_matchAll_5 : es_lkS X_MT_matchAll X_JA_fill 32 2 := ⟨ok_JA_fill, Or.inl t_732, t_86⟩
theorem lk_MT_matchAll_13 : es_lkS X_MT_matchAll X_JA_fill 32 2 := ⟨ok_JA_fill, Or.inl t_732, t_86⟩
theorem lk_MT_matchAll_34 : es_lkV X_MT_matchAll X_ED_outputAt 38 1 1 := ⟨ok_ED_outputAt, Or.inl t_733, t_441, t_442, _, _, rfl⟩
theorem lk_MT_matchAll_42 : es_lkV X_MT_matchAll X_ED_outputAt 38 1 1 := ⟨ok_ED_outputAt, Or.inl t_733, t_441, t_442, _, _, rfl⟩
theorem lk_MT_matchAll_45 : es_lkV X_MT_matchAll X_MT_matchBoth 44 2 4 := ⟨ok_MT_matchBoth, Or.inl t_734, t_736, t_25, _, _, rfl⟩
theorem lk_MT_matchAll_84 : es_lkV X_MT_matchAll X_MT_partnerOf 48 1 4 := ⟨ok_MT_partnerOf, Or.inl t_745, t_746, t_747, _, _, rfl⟩
theorem lk_MT_matchAll_105 : es_lkV X_MT_matchAll X_ED_neededAt 51 2 1 := ⟨ok_ED_neededAt, Or.inl t_749, t_422, t_423, _, _, rfl⟩
theorem lk_MT_matchAll_115 : es_lkV X_MT_matchAll X_ED_neededAt 51 2 1 := ⟨ok_ED_neededAt, Or.inl t_749, t_422, t_423, _, _, rfl⟩
theorem lk_MT_matchAll_118 : es_lkV X_MT_matchAll X_MT_matchBoth 44 2 4 := ⟨ok_MT_matchBoth, Or.inl t_734, t_736, t_25, _, _, rfl⟩
theorem lk_MT_partnerOf_3 : es_lkS X_MT_partnerOf X_EE_isWithin 55 2 := ⟨ok_EE_isWithin, Or.inr ⟨_, t_738⟩, t_285⟩
theorem lk_MT_matchBoth_3 : es_lkS X_MT_matchBoth X_EE_isWithin 55 2 := ⟨ok_EE_isWithin, Or.inr ⟨_, t_738⟩, t_285⟩
theorem lk_MT_matchBoth_12 : es_lkS X_MT_matchBoth X_EE_isWithin 55 2 := ⟨ok_EE_isWithin, Or.inr ⟨_, t_738⟩, t_285⟩
theorem lk_MT_matchBoth_74 : es_lkV X_MT_matchBoth X_MT_areOfOneSort 58 2 4 := ⟨ok_MT_areOfOneSort, Or.inl t_739, t_741, t_26, _, _, rfl⟩
theorem lk_MT_areOfOneSort_5 : es_lkV X_MT_areOfOneSort X_ED_kindOf 61 1 1 := ⟨ok_ED_kindOf, Or.inl t_743, t_540, t_541, _, _, rfl⟩
theorem lk_MT_areOfOneSort_31 : es_lkV X_MT_areOfOneSort X_ED_kindOf 61 1 1 := ⟨ok_ED_kindOf, Or.inl t_743, t_540, t_541, _, _, rfl⟩
theorem lk_MT_areOfOneSort_47 : es_lkV X_MT_areOfOneSort X_ED_numberOf 64 1 1 := ⟨ok_ED_numberOf, Or.inl t_744, t_530, t_531, _, _, rfl⟩
theorem lk_MT_areOfOneSort_55 : es_lkV X_MT_areOfOneSort X_ED_numberOf 64 1 1 := ⟨ok_ED_numberOf, Or.inl t_744, t_530, t_531, _, _, rfl⟩
theorem lk_PS_learn_13 : es_lkS X_PS_learn X_JA_fill 54 2 := ⟨ok_JA_fill, Or.inl t_664, t_86⟩
theorem lk_PS_learn_41 : es_lkV X_PS_learn X_PS_meet 60 4 3 := ⟨ok_PS_meet, Or.inl t_665, t_667, t_22, _, _, rfl⟩
theorem lk_PS_learn_64 : es_lkV X_PS_learn X_PS_goOnFrom 64 2 3 := ⟨ok_PS_goOnFrom, Or.inl t_672, t_674, t_23, _, _, rfl⟩
theorem lk_PS_goOnFrom_34 : es_lkS X_PS_goOnFrom X_EE_holds 68 2 := ⟨ok_EE_holds, Or.inr ⟨_, t_670⟩, t_480⟩
theorem lk_PS_goOnFrom_54 : es_lkV X_PS_goOnFrom X_BH_outsOf 72 2 2 := ⟨ok_BH_outsOf, Or.inl t_676, t_579, t_580, _, _, rfl⟩
theorem lk_PS_goOnFrom_65 : es_lkV X_PS_goOnFrom X_BH_outsOf 72 2 2 := ⟨ok_BH_outsOf, Or.inl t_676, t_579, t_580, _, _, rfl⟩
theorem lk_PS_goOnFrom_79 : es_lkV X_PS_goOnFrom X_BH_outsOf 72 2 2 := ⟨ok_BH_outsOf, Or.inl t_676, t_579, t_580, _, _, rfl⟩
theorem lk_PS_goOnFrom_94 : es_lkV X_PS_goOnFrom X_BH_outsOf 72 2 2 := ⟨ok_BH_outsOf, Or.inl t_676, t_579, t_580, _, _, rfl⟩
theorem lk_PS_goOnFrom_104 : es_lkV X_PS_goOnFrom X_PS_keepShown 78 2 3 := ⟨ok_PS_keepShown, Or.inl t_677, t_679, t_24, _, _, rfl⟩
theorem lk_PS_goOnFrom_115 : es_lkV X_PS_goOnFrom X_BH_stateAfter 81 2 2 := ⟨ok_BH_stateAfter, Or.inl t_681, t_563, t_564, _, _, rfl⟩
theorem lk_PS_goOnFrom_126 : es_lkV X_PS_goOnFrom X_BH_stateAfter 81 2 2 := ⟨ok_BH_stateAfter, Or.inl t_681, t_563, t_564, _, _, rfl⟩
theorem lk_PS_goOnFrom_132 : es_lkV X_PS_goOnFrom X_PS_meet 60 4 3 := ⟨ok_PS_meet, Or.inl t_665, t_667, t_22, _, _, rfl⟩
theorem lk_PS_meet_3 : es_lkS X_PS_meet X_EE_isWithin 84 2 := ⟨ok_EE_isWithin, Or.inr ⟨_, t_669⟩, t_285⟩
theorem lk_PS_meet_16 : es_lkS X_PS_meet X_EE_holds 68 2 := ⟨ok_EE_holds, Or.inr ⟨_, t_670⟩, t_480⟩
theorem lk_PS_meet_52 : es_lkS X_PS_meet X_EE_bitOf 87 1 := ⟨ok_EE_bitOf, Or.inr ⟨_, t_671⟩, t_426⟩
theorem lk_LW_block_7 : es_lkV X_LW_block X_EE_block 7 3 0 := ⟨ok_EE_block, Or.inl t_273, t_274, t_275, _, _, rfl⟩
theorem lk_LW_wire_9 : es_lkV X_LW_wire X_EE_wire 17 4 0 := ⟨ok_EE_wire, Or.inl t_402, t_403, t_404, _, _, rfl⟩
theorem lk_LW_out_7 : es_lkV X_LW_out X_EE_out 21 3 0 := ⟨ok_EE_out, Or.inl t_431, t_432, t_433, _, _, rfl⟩
theorem lk_LW_bar_5 : es_lkV X_LW_bar X_EE_bar 24 2 0 := ⟨ok_EE_bar, Or.inl t_447, t_448, t_449, _, _, rfl⟩
theorem lk_LW_wrong_4 : es_lkV X_LW_wrong X_EE_wrong 28 1 0 := ⟨ok_EE_wrong, Or.inl t_459, t_460, t_461, _, _, rfl⟩
theorem lk_LW_value_9 : es_lkV X_LW_value X_EE_value 32 4 0 := ⟨ok_EE_value, Or.inl t_485, t_486, t_487, _, _, rfl⟩
theorem lk_LW_tick_7 : es_lkV X_LW_tick X_EE_tick 35 3 0 := ⟨ok_EE_tick, Or.inl t_574, t_575, t_576, _, _, rfl⟩
theorem lk_LW_reached_4 : es_lkV X_LW_reached X_EE_reached 38 1 0 := ⟨ok_EE_reached, Or.inl t_586, t_587, t_588, _, _, rfl⟩
theorem lk_LW_state_5 : es_lkV X_LW_state X_EE_state 41 2 0 := ⟨ok_EE_state, Or.inl t_603, t_604, t_605, _, _, rfl⟩
theorem lk_LW_least_4 : es_lkV X_LW_least X_EE_least 45 1 0 := ⟨ok_EE_least, Or.inl t_615, t_616, t_617, _, _, rfl⟩
theorem lk_LW_compare_3 : es_lkV X_LW_compare X_EE_compare 48 0 0 := ⟨ok_EE_compare, Or.inl t_647, t_648, t_649, _, _, rfl⟩
theorem lk_LW_shown_4 : es_lkV X_LW_shown X_EE_shown 52 1 0 := ⟨ok_EE_shown, Or.inl t_689, t_690, t_691, _, _, rfl⟩
theorem lk_LW_last_4 : es_lkV X_LW_last X_EE_last 55 1 0 := ⟨ok_EE_last, Or.inl t_702, t_703, t_704, _, _, rfl⟩
theorem lk_LW_pairs_3 : es_lkV X_LW_pairs X_EE_pairs 58 0 0 := ⟨ok_EE_pairs, Or.inl t_713, t_714, t_715, _, _, rfl⟩
theorem lk_LW_same_3 : es_lkV X_LW_same X_EE_same 61 0 0 := ⟨ok_EE_same, Or.inl t_724, t_725, t_726, _, _, rfl⟩
theorem lk_LW_matched_4 : es_lkV X_LW_matched X_EE_matched 65 1 0 := ⟨ok_EE_matched, Or.inl t_753, t_754, t_755, _, _, rfl⟩
theorem lk_LW_idle_5 : es_lkV X_LW_idle X_EE_idle 68 2 0 := ⟨ok_EE_idle, Or.inl t_761, t_762, t_763, _, _, rfl⟩
theorem lk_LW_blocks_4 : es_lkV X_LW_blocks X_EE_blocks 71 1 0 := ⟨ok_EE_blocks, Or.inl t_777, t_778, t_779, _, _, rfl⟩
theorem f_EE_18 : ez_fld "EditionEqual" 18 0 0 := ⟨_, _, _, rfl, by decide, in_EE, Or.inl t_237⟩
theorem f_EE_22 : ez_fld "EditionEqual" 22 0 1 := ⟨_, _, _, rfl, by decide, in_EE, Or.inl t_238⟩
theorem f_EE_28 : ez_fld "EditionEqual" 28 0 2 := ⟨_, _, _, rfl, by decide, in_EE, Or.inl t_239⟩
theorem f_EE_32 : ez_fld "EditionEqual" 32 0 3 := ⟨_, _, _, rfl, by decide, in_EE, Or.inl t_240⟩
theorem f_EE_40 : ez_fld "EditionEqual" 40 0 4 := ⟨_, _, _, rfl, by decide, in_EE, Or.inl t_241⟩
theorem f_EE_44 : ez_fld "EditionEqual" 44 0 5 := ⟨_, _, _, rfl, by decide, in_EE, Or.inl t_242⟩
theorem f_EE_52 : ez_fld "EditionEqual" 52 0 6 := ⟨_, _, _, rfl, by decide, in_EE, Or.inl t_243⟩
theorem f_EE_61 : ez_fld "EditionEqual" 61 0 7 := ⟨_, _, _, rfl, by decide, in_EE, Or.inl t_244⟩
theorem f_EE_65 : ez_fld "EditionEqual" 65 0 8 := ⟨_, _, _, rfl, by decide, in_EE, Or.inl t_245⟩
theorem f_MD_7 : ez_fld "EditionEqualModel" 7 5 2 := ⟨_, _, _, rfl, by decide, in_MD, Or.inl t_790⟩
theorem f_MD_13 : ez_fld "EditionEqualModel" 13 5 3 := ⟨_, _, _, rfl, by decide, in_MD, Or.inl t_791⟩
theorem f_MD_17 : ez_fld "EditionEqualModel" 17 5 4 := ⟨_, _, _, rfl, by decide, in_MD, Or.inl t_792⟩
theorem f_MD_20 : ez_fld "EditionEqualModel" 20 5 5 := ⟨_, _, _, rfl, by decide, in_MD, Or.inl t_793⟩
theorem f_MD_23 : ez_fld "EditionEqualModel" 23 5 6 := ⟨_, _, _, rfl, by decide, in_MD, Or.inl t_794⟩
theorem f_MD_26 : ez_fld "EditionEqualModel" 26 5 7 := ⟨_, _, _, rfl, by decide, in_MD, Or.inl t_795⟩
theorem f_MD_29 : ez_fld "EditionEqualModel" 29 5 8 := ⟨_, _, _, rfl, by decide, in_MD, Or.inl t_796⟩
theorem f_MD_32 : ez_fld "EditionEqualModel" 32 5 9 := ⟨_, _, _, rfl, by decide, in_MD, Or.inl t_797⟩
theorem f_MD_35 : ez_fld "EditionEqualModel" 35 5 10 := ⟨_, _, _, rfl, by decide, in_MD, Or.inl t_798⟩
theorem f_MD_38 : ez_fld "EditionEqualModel" 38 5 11 := ⟨_, _, _, rfl, by decide, in_MD, Or.inl t_799⟩
theorem f_MD_41 : ez_fld "EditionEqualModel" 41 5 12 := ⟨_, _, _, rfl, by decide, in_MD, Or.inl t_800⟩
theorem f_MD_44 : ez_fld "EditionEqualModel" 44 5 13 := ⟨_, _, _, rfl, by decide, in_MD, Or.inl t_801⟩
theorem f_MD_47 : ez_fld "EditionEqualModel" 47 5 15 := ⟨_, _, _, rfl, by decide, in_MD, Or.inl t_803⟩
theorem f_MD_50 : ez_fld "EditionEqualModel" 50 5 16 := ⟨_, _, _, rfl, by decide, in_MD, Or.inl t_804⟩
theorem f_MD_53 : ez_fld "EditionEqualModel" 53 5 17 := ⟨_, _, _, rfl, by decide, in_MD, Or.inl t_805⟩
theorem f_MD_56 : ez_fld "EditionEqualModel" 56 5 18 := ⟨_, _, _, rfl, by decide, in_MD, Or.inl t_806⟩
theorem f_MD_59 : ez_fld "EditionEqualModel" 59 5 21 := ⟨_, _, _, rfl, by decide, in_MD, Or.inl t_809⟩
theorem f_MD_62 : ez_fld "EditionEqualModel" 62 5 1 := ⟨_, _, _, rfl, by decide, in_MD, Or.inl t_789⟩
theorem f_MD_66 : ez_fld "EditionEqualModel" 66 5 0 := ⟨_, _, _, rfl, by decide, in_MD, Or.inl t_788⟩
theorem f_MD_129 : ez_fld "EditionEqualModel" 129 5 14 := ⟨_, _, _, rfl, by decide, in_MD, Or.inl t_802⟩
theorem f_MD_132 : ez_fld "EditionEqualModel" 132 5 19 := ⟨_, _, _, rfl, by decide, in_MD, Or.inl t_807⟩
theorem f_MD_138 : ez_fld "EditionEqualModel" 138 5 20 := ⟨_, _, _, rfl, by decide, in_MD, Or.inl t_808⟩
theorem f_BH_9 : ez_fld "EditionEqual$Behaviour" 9 2 1 := ⟨_, _, _, rfl, by decide, in_BH, Or.inl t_127⟩
theorem f_BH_15 : ez_fld "EditionEqual$Behaviour" 15 2 2 := ⟨_, _, _, rfl, by decide, in_BH, Or.inl t_128⟩
theorem f_BH_18 : ez_fld "EditionEqual$Behaviour" 18 2 3 := ⟨_, _, _, rfl, by decide, in_BH, Or.inl t_129⟩
theorem f_BH_21 : ez_fld "EditionEqual$Behaviour" 21 2 4 := ⟨_, _, _, rfl, by decide, in_BH, Or.inl t_130⟩
theorem f_BH_24 : ez_fld "EditionEqual$Behaviour" 24 2 5 := ⟨_, _, _, rfl, by decide, in_BH, Or.inl t_131⟩
theorem f_BH_27 : ez_fld "EditionEqual$Behaviour" 27 2 6 := ⟨_, _, _, rfl, by decide, in_BH, Or.inl t_132⟩
theorem f_BH_30 : ez_fld "EditionEqual$Behaviour" 30 2 7 := ⟨_, _, _, rfl, by decide, in_BH, Or.inl t_133⟩
theorem f_BH_33 : ez_fld "EditionEqual$Behaviour" 33 2 8 := ⟨_, _, _, rfl, by decide, in_BH, Or.inl t_134⟩
theorem f_BH_36 : ez_fld "EditionEqual$Behaviour" 36 2 9 := ⟨_, _, _, rfl, by decide, in_BH, Or.inl t_135⟩
theorem f_BH_40 : ez_fld "EditionEqual$Behaviour" 40 2 10 := ⟨_, _, _, rfl, by decide, in_BH, Or.inl t_136⟩
theorem f_BH_43 : ez_fld "EditionEqual$Behaviour" 43 2 11 := ⟨_, _, _, rfl, by decide, in_BH, Or.inl t_137⟩
theorem f_BH_46 : ez_fld "EditionEqual$Behaviour" 46 2 12 := ⟨_, _, _, rfl, by decide, in_BH, Or.inl t_138⟩
theorem f_BH_50 : ez_fld "EditionEqual$Behaviour" 50 2 0 := ⟨_, _, _, rfl, by decide, in_BH, Or.inl t_126⟩
theorem f_ED_9 : ez_fld "EditionEqual$Edition" 9 1 0 := ⟨_, _, _, rfl, by decide, in_ED, Or.inl t_88⟩
theorem f_ED_15 : ez_fld "EditionEqual$Edition" 15 1 1 := ⟨_, _, _, rfl, by decide, in_ED, Or.inl t_89⟩
theorem f_ED_18 : ez_fld "EditionEqual$Edition" 18 1 2 := ⟨_, _, _, rfl, by decide, in_ED, Or.inl t_90⟩
theorem f_ED_21 : ez_fld "EditionEqual$Edition" 21 1 3 := ⟨_, _, _, rfl, by decide, in_ED, Or.inl t_91⟩
theorem f_ED_24 : ez_fld "EditionEqual$Edition" 24 1 4 := ⟨_, _, _, rfl, by decide, in_ED, Or.inl t_92⟩
theorem f_ED_27 : ez_fld "EditionEqual$Edition" 27 1 5 := ⟨_, _, _, rfl, by decide, in_ED, Or.inl t_93⟩
theorem f_ED_30 : ez_fld "EditionEqual$Edition" 30 1 6 := ⟨_, _, _, rfl, by decide, in_ED, Or.inl t_94⟩
theorem f_ED_33 : ez_fld "EditionEqual$Edition" 33 1 7 := ⟨_, _, _, rfl, by decide, in_ED, Or.inl t_95⟩
theorem f_ED_36 : ez_fld "EditionEqual$Edition" 36 1 8 := ⟨_, _, _, rfl, by decide, in_ED, Or.inl t_96⟩
theorem f_ED_40 : ez_fld "EditionEqual$Edition" 40 1 9 := ⟨_, _, _, rfl, by decide, in_ED, Or.inl t_97⟩
theorem f_MT_9 : ez_fld "EditionEqual$Matching" 9 4 2 := ⟨_, _, _, rfl, by decide, in_MT, Or.inl t_220⟩
theorem f_MT_15 : ez_fld "EditionEqual$Matching" 15 4 3 := ⟨_, _, _, rfl, by decide, in_MT, Or.inl t_221⟩
theorem f_MT_18 : ez_fld "EditionEqual$Matching" 18 4 4 := ⟨_, _, _, rfl, by decide, in_MT, Or.inl t_222⟩
theorem f_MT_21 : ez_fld "EditionEqual$Matching" 21 4 5 := ⟨_, _, _, rfl, by decide, in_MT, Or.inl t_223⟩
theorem f_MT_25 : ez_fld "EditionEqual$Matching" 25 4 0 := ⟨_, _, _, rfl, by decide, in_MT, Or.inl t_218⟩
theorem f_MT_29 : ez_fld "EditionEqual$Matching" 29 4 1 := ⟨_, _, _, rfl, by decide, in_MT, Or.inl t_219⟩
theorem f_PS_9 : ez_fld "EditionEqual$PairSearch" 9 3 2 := ⟨_, _, _, rfl, by decide, in_PS, Or.inl t_174⟩
theorem f_PS_15 : ez_fld "EditionEqual$PairSearch" 15 3 3 := ⟨_, _, _, rfl, by decide, in_PS, Or.inl t_175⟩
theorem f_PS_18 : ez_fld "EditionEqual$PairSearch" 18 3 4 := ⟨_, _, _, rfl, by decide, in_PS, Or.inl t_176⟩
theorem f_PS_21 : ez_fld "EditionEqual$PairSearch" 21 3 5 := ⟨_, _, _, rfl, by decide, in_PS, Or.inl t_177⟩
theorem f_PS_24 : ez_fld "EditionEqual$PairSearch" 24 3 6 := ⟨_, _, _, rfl, by decide, in_PS, Or.inl t_178⟩
theorem f_PS_28 : ez_fld "EditionEqual$PairSearch" 28 3 7 := ⟨_, _, _, rfl, by decide, in_PS, Or.inl t_179⟩
theorem f_PS_31 : ez_fld "EditionEqual$PairSearch" 31 3 8 := ⟨_, _, _, rfl, by decide, in_PS, Or.inl t_180⟩
theorem f_PS_34 : ez_fld "EditionEqual$PairSearch" 34 3 9 := ⟨_, _, _, rfl, by decide, in_PS, Or.inl t_181⟩
theorem f_PS_37 : ez_fld "EditionEqual$PairSearch" 37 3 10 := ⟨_, _, _, rfl, by decide, in_PS, Or.inl t_182⟩
theorem f_PS_40 : ez_fld "EditionEqual$PairSearch" 40 3 11 := ⟨_, _, _, rfl, by decide, in_PS, Or.inl t_183⟩
theorem f_PS_43 : ez_fld "EditionEqual$PairSearch" 43 3 12 := ⟨_, _, _, rfl, by decide, in_PS, Or.inl t_184⟩
theorem f_PS_47 : ez_fld "EditionEqual$PairSearch" 47 3 0 := ⟨_, _, _, rfl, by decide, in_PS, Or.inl t_172⟩
theorem f_PS_51 : ez_fld "EditionEqual$PairSearch" 51 3 1 := ⟨_, _, _, rfl, by decide, in_PS, Or.inl t_173⟩
end
section
/-! ===== decoded: ED ===== -/
theorem d_ED_init_0 : ez_at X_ED_init 0 (.aload_n 0) 1 1 := ⟨by decide +kernel, rfl⟩
theorem d_ED_init_1 : ez_at X_ED_init 1 (.invokespecial 3) 3 4 := ⟨by decide +kernel, rfl⟩
theorem d_ED_init_4 : ez_at X_ED_init 4 (.aload_n 0) 1 5 := ⟨by decide +kernel, rfl⟩
theorem d_ED_init_5 : ez_at X_ED_init 5 (.bipush 24) 2 7 := ⟨by decide +kernel, rfl⟩
theorem d_ED_init_7 : ez_at X_ED_init 7 (.newarray .int) 2 9 := ⟨by decide +kernel, rfl⟩
theorem d_ED_init_9 : ez_at X_ED_init 9 (.putfield 9) 3 12 := ⟨by decide +kernel, rfl⟩
theorem d_ED_init_12 : ez_at X_ED_init 12 (.aload_n 0) 1 13 := ⟨by decide +kernel, rfl⟩
theorem d_ED_init_13 : ez_at X_ED_init 13 (.bipush 24) 2 15 := ⟨by decide +kernel, rfl⟩
theorem d_ED_init_15 : ez_at X_ED_init 15 (.newarray .int) 2 17 := ⟨by decide +kernel, rfl⟩
theorem d_ED_init_17 : ez_at X_ED_init 17 (.putfield 15) 3 20 := ⟨by decide +kernel, rfl⟩
theorem d_ED_init_20 : ez_at X_ED_init 20 (.aload_n 0) 1 21 := ⟨by decide +kernel, rfl⟩
theorem d_ED_init_21 : ez_at X_ED_init 21 (.bipush 24) 2 23 := ⟨by decide +kernel, rfl⟩
theorem d_ED_init_23 : ez_at X_ED_init 23 (.newarray .int) 2 25 := ⟨by decide +kernel, rfl⟩
theorem d_ED_init_25 : ez_at X_ED_init 25 (.putfield 18) 3 28 := ⟨by decide +kernel, rfl⟩
theorem d_ED_init_28 : ez_at X_ED_init 28 (.aload_n 0) 1 29 := ⟨by decide +kernel, rfl⟩
theorem d_ED_init_29 : ez_at X_ED_init 29 (.bipush 48) 2 31 := ⟨by decide +kernel, rfl⟩
theorem d_ED_init_31 : ez_at X_ED_init 31 (.newarray .int) 2 33 := ⟨by decide +kernel, rfl⟩
theorem d_ED_init_33 : ez_at X_ED_init 33 (.putfield 21) 3 36 := ⟨by decide +kernel, rfl⟩
theorem d_ED_init_36 : ez_at X_ED_init 36 (.aload_n 0) 1 37 := ⟨by decide +kernel, rfl⟩
theorem d_ED_init_37 : ez_at X_ED_init 37 (.bipush 24) 2 39 := ⟨by decide +kernel, rfl⟩
theorem d_ED_init_39 : ez_at X_ED_init 39 (.newarray .int) 2 41 := ⟨by decide +kernel, rfl⟩
theorem d_ED_init_41 : ez_at X_ED_init 41 (.putfield 24) 3 44 := ⟨by decide +kernel, rfl⟩
theorem d_ED_init_44 : ez_at X_ED_init 44 (.aload_n 0) 1 45 := ⟨by decide +kernel, rfl⟩
theorem d_ED_init_45 : ez_at X_ED_init 45 (.iconst 3) 1 46 := ⟨by decide +kernel, rfl⟩
theorem d_ED_init_46 : ez_at X_ED_init 46 (.newarray .int) 2 48 := ⟨by decide +kernel, rfl⟩
theorem d_ED_init_48 : ez_at X_ED_init 48 (.putfield 27) 3 51 := ⟨by decide +kernel, rfl⟩
theorem d_ED_init_51 : ez_at X_ED_init 51 (.aload_n 0) 1 52 := ⟨by decide +kernel, rfl⟩
theorem d_ED_init_52 : ez_at X_ED_init 52 (.iconst 5) 1 53 := ⟨by decide +kernel, rfl⟩
theorem d_ED_init_53 : ez_at X_ED_init 53 (.newarray .int) 2 55 := ⟨by decide +kernel, rfl⟩
theorem d_ED_init_55 : ez_at X_ED_init 55 (.putfield 30) 3 58 := ⟨by decide +kernel, rfl⟩
theorem d_ED_init_58 : ez_at X_ED_init 58 (.aload_n 0) 1 59 := ⟨by decide +kernel, rfl⟩
theorem d_ED_init_59 : ez_at X_ED_init 59 (.bipush 24) 2 61 := ⟨by decide +kernel, rfl⟩
theorem d_ED_init_61 : ez_at X_ED_init 61 (.newarray .int) 2 63 := ⟨by decide +kernel, rfl⟩
theorem d_ED_init_63 : ez_at X_ED_init 63 (.putfield 33) 3 66 := ⟨by decide +kernel, rfl⟩
theorem d_ED_init_66 : ez_at X_ED_init 66 (.aload_n 0) 1 67 := ⟨by decide +kernel, rfl⟩
theorem d_ED_init_67 : ez_at X_ED_init 67 (.iconst 0) 1 68 := ⟨by decide +kernel, rfl⟩
theorem d_ED_init_68 : ez_at X_ED_init 68 (.putfield 36) 3 71 := ⟨by decide +kernel, rfl⟩
theorem d_ED_init_71 : ez_at X_ED_init 71 (.aload_n 0) 1 72 := ⟨by decide +kernel, rfl⟩
theorem d_ED_init_72 : ez_at X_ED_init 72 (.iconst 0) 1 73 := ⟨by decide +kernel, rfl⟩
theorem d_ED_init_73 : ez_at X_ED_init 73 (.putfield 40) 3 76 := ⟨by decide +kernel, rfl⟩
theorem d_ED_init_76 : ez_at X_ED_init 76 (.aload_n 0) 1 77 := ⟨by decide +kernel, rfl⟩
theorem d_ED_init_77 : ez_at X_ED_init 77 (.getfield 21) 3 80 := ⟨by decide +kernel, rfl⟩
theorem d_ED_init_80 : ez_at X_ED_init 80 (.iconst (-1)) 1 81 := ⟨by decide +kernel, rfl⟩
theorem d_ED_init_81 : ez_at X_ED_init 81 (.invokestatic 43) 3 84 := ⟨by decide +kernel, rfl⟩
theorem d_ED_init_84 : ez_at X_ED_init 84 (.aload_n 0) 1 85 := ⟨by decide +kernel, rfl⟩
theorem d_ED_init_85 : ez_at X_ED_init 85 (.getfield 27) 3 88 := ⟨by decide +kernel, rfl⟩
theorem d_ED_init_88 : ez_at X_ED_init 88 (.iconst (-1)) 1 89 := ⟨by decide +kernel, rfl⟩
theorem d_ED_init_89 : ez_at X_ED_init 89 (.invokestatic 43) 3 92 := ⟨by decide +kernel, rfl⟩
theorem d_ED_init_92 : ez_at X_ED_init 92 (.return_) 1 93 := ⟨by decide +kernel, rfl⟩
theorem d_ED_hasRoomFor_0 : ez_at X_ED_hasRoomFor 0 (.aload_n 0) 1 1 := ⟨by decide +kernel, rfl⟩
theorem d_ED_hasRoomFor_1 : ez_at X_ED_hasRoomFor 1 (.getfield 36) 3 4 := ⟨by decide +kernel, rfl⟩
theorem d_ED_hasRoomFor_4 : ez_at X_ED_hasRoomFor 4 (.bipush 24) 2 6 := ⟨by decide +kernel, rfl⟩
theorem d_ED_hasRoomFor_6 : ez_br X_ED_hasRoomFor 6 (.if_icmp .ge 21) 3 9 21 27 := ⟨by decide +kernel, rfl, rfl⟩
theorem d_ED_hasRoomFor_9 : ez_at X_ED_hasRoomFor 9 (.iload_n 1) 1 10 := ⟨by decide +kernel, rfl⟩
theorem d_ED_hasRoomFor_10 : ez_at X_ED_hasRoomFor 10 (.bipush 6) 2 12 := ⟨by decide +kernel, rfl⟩
theorem d_ED_hasRoomFor_12 : ez_br X_ED_hasRoomFor 12 (.if_icmp .ne 11) 3 15 11 23 := ⟨by decide +kernel, rfl, rfl⟩
theorem d_ED_hasRoomFor_15 : ez_at X_ED_hasRoomFor 15 (.aload_n 0) 1 16 := ⟨by decide +kernel, rfl⟩
theorem d_ED_hasRoomFor_16 : ez_at X_ED_hasRoomFor 16 (.getfield 40) 3 19 := ⟨by decide +kernel, rfl⟩
theorem d_ED_hasRoomFor_19 : ez_at X_ED_hasRoomFor 19 (.iconst 5) 1 20 := ⟨by decide +kernel, rfl⟩
theorem d_ED_hasRoomFor_20 : ez_br X_ED_hasRoomFor 20 (.if_icmp .ge 7) 3 23 7 27 := ⟨by decide +kernel, rfl, rfl⟩
theorem d_ED_hasRoomFor_23 : ez_at X_ED_hasRoomFor 23 (.iconst 1) 1 24 := ⟨by decide +kernel, rfl⟩
theorem d_ED_hasRoomFor_24 : ez_br X_ED_hasRoomFor 24 (.goto 4) 3 27 4 28 := ⟨by decide +kernel, rfl, rfl⟩
theorem d_ED_hasRoomFor_27 : ez_at X_ED_hasRoomFor 27 (.iconst 0) 1 28 := ⟨by decide +kernel, rfl⟩
theorem d_ED_hasRoomFor_28 : ez_at X_ED_hasRoomFor 28 (.ireturn) 1 29 := ⟨by decide +kernel, rfl⟩
theorem d_ED_addBlock_0 : ez_at X_ED_addBlock 0 (.aload_n 0) 1 1 := ⟨by decide +kernel, rfl⟩
theorem d_ED_addBlock_1 : ez_at X_ED_addBlock 1 (.iload_n 1) 1 2 := ⟨by decide +kernel, rfl⟩
theorem d_ED_addBlock_2 : ez_at X_ED_addBlock 2 (.invokevirtual 49) 3 5 := ⟨by decide +kernel, rfl⟩
theorem d_ED_addBlock_5 : ez_br X_ED_addBlock 5 (.ifCond .ne 5) 3 8 5 10 := ⟨by decide +kernel, rfl, rfl⟩
theorem d_ED_addBlock_8 : ez_at X_ED_addBlock 8 (.iconst (-1)) 1 9 := ⟨by decide +kernel, rfl⟩
theorem d_ED_addBlock_9 : ez_at X_ED_addBlock 9 (.ireturn) 1 10 := ⟨by decide +kernel, rfl⟩
theorem d_ED_addBlock_10 : ez_at X_ED_addBlock 10 (.aload_n 0) 1 11 := ⟨by decide +kernel, rfl⟩
theorem d_ED_addBlock_11 : ez_at X_ED_addBlock 11 (.getfield 36) 3 14 := ⟨by decide +kernel, rfl⟩
theorem d_ED_addBlock_14 : ez_at X_ED_addBlock 14 (.istore_n 3) 1 15 := ⟨by decide +kernel, rfl⟩
theorem d_ED_addBlock_15 : ez_at X_ED_addBlock 15 (.aload_n 0) 1 16 := ⟨by decide +kernel, rfl⟩
theorem d_ED_addBlock_16 : ez_at X_ED_addBlock 16 (.getfield 9) 3 19 := ⟨by decide +kernel, rfl⟩
theorem d_ED_addBlock_19 : ez_at X_ED_addBlock 19 (.iload_n 3) 1 20 := ⟨by decide +kernel, rfl⟩
theorem d_ED_addBlock_20 : ez_at X_ED_addBlock 20 (.iload_n 1) 1 21 := ⟨by decide +kernel, rfl⟩
theorem d_ED_addBlock_21 : ez_at X_ED_addBlock 21 (.iastore) 1 22 := ⟨by decide +kernel, rfl⟩
theorem d_ED_addBlock_22 : ez_at X_ED_addBlock 22 (.aload_n 0) 1 23 := ⟨by decide +kernel, rfl⟩
theorem d_ED_addBlock_23 : ez_at X_ED_addBlock 23 (.getfield 15) 3 26 := ⟨by decide +kernel, rfl⟩
theorem d_ED_addBlock_26 : ez_at X_ED_addBlock 26 (.iload_n 3) 1 27 := ⟨by decide +kernel, rfl⟩
theorem d_ED_addBlock_27 : ez_at X_ED_addBlock 27 (.iload_n 2) 1 28 := ⟨by decide +kernel, rfl⟩
theorem d_ED_addBlock_28 : ez_at X_ED_addBlock 28 (.iastore) 1 29 := ⟨by decide +kernel, rfl⟩
theorem d_ED_addBlock_29 : ez_at X_ED_addBlock 29 (.aload_n 0) 1 30 := ⟨by decide +kernel, rfl⟩
theorem d_ED_addBlock_30 : ez_at X_ED_addBlock 30 (.getfield 18) 3 33 := ⟨by decide +kernel, rfl⟩
theorem d_ED_addBlock_33 : ez_at X_ED_addBlock 33 (.iload_n 3) 1 34 := ⟨by decide +kernel, rfl⟩
theorem d_ED_addBlock_34 : ez_at X_ED_addBlock 34 (.iload_n 1) 1 35 := ⟨by decide +kernel, rfl⟩
theorem d_ED_addBlock_35 : ez_at X_ED_addBlock 35 (.invokestatic 53) 3 38 := ⟨by decide +kernel, rfl⟩
theorem d_ED_addBlock_38 : ez_at X_ED_addBlock 38 (.iastore) 1 39 := ⟨by decide +kernel, rfl⟩
theorem d_ED_addBlock_39 : ez_at X_ED_addBlock 39 (.iload_n 1) 1 40 := ⟨by decide +kernel, rfl⟩
theorem d_ED_addBlock_40 : ez_at X_ED_addBlock 40 (.bipush 6) 2 42 := ⟨by decide +kernel, rfl⟩
theorem d_ED_addBlock_42 : ez_br X_ED_addBlock 42 (.if_icmp .ne 33) 3 45 33 75 := ⟨by decide +kernel, rfl, rfl⟩
theorem d_ED_addBlock_45 : ez_at X_ED_addBlock 45 (.aload_n 0) 1 46 := ⟨by decide +kernel, rfl⟩
theorem d_ED_addBlock_46 : ez_at X_ED_addBlock 46 (.getfield 15) 3 49 := ⟨by decide +kernel, rfl⟩
theorem d_ED_addBlock_49 : ez_at X_ED_addBlock 49 (.iload_n 3) 1 50 := ⟨by decide +kernel, rfl⟩
theorem d_ED_addBlock_50 : ez_at X_ED_addBlock 50 (.aload_n 0) 1 51 := ⟨by decide +kernel, rfl⟩
theorem d_ED_addBlock_51 : ez_at X_ED_addBlock 51 (.getfield 40) 3 54 := ⟨by decide +kernel, rfl⟩
theorem d_ED_addBlock_54 : ez_at X_ED_addBlock 54 (.iastore) 1 55 := ⟨by decide +kernel, rfl⟩
theorem d_ED_addBlock_55 : ez_at X_ED_addBlock 55 (.aload_n 0) 1 56 := ⟨by decide +kernel, rfl⟩
theorem d_ED_addBlock_56 : ez_at X_ED_addBlock 56 (.getfield 30) 3 59 := ⟨by decide +kernel, rfl⟩
theorem d_ED_addBlock_59 : ez_at X_ED_addBlock 59 (.aload_n 0) 1 60 := ⟨by decide +kernel, rfl⟩
theorem d_ED_addBlock_60 : ez_at X_ED_addBlock 60 (.getfield 40) 3 63 := ⟨by decide +kernel, rfl⟩
theorem d_ED_addBlock_63 : ez_at X_ED_addBlock 63 (.iload_n 3) 1 64 := ⟨by decide +kernel, rfl⟩
theorem d_ED_addBlock_64 : ez_at X_ED_addBlock 64 (.iastore) 1 65 := ⟨by decide +kernel, rfl⟩
theorem d_ED_addBlock_65 : ez_at X_ED_addBlock 65 (.aload_n 0) 1 66 := ⟨by decide +kernel, rfl⟩
theorem d_ED_addBlock_66 : ez_at X_ED_addBlock 66 (.dup) 1 67 := ⟨by decide +kernel, rfl⟩
theorem d_ED_addBlock_67 : ez_at X_ED_addBlock 67 (.getfield 40) 3 70 := ⟨by decide +kernel, rfl⟩
theorem d_ED_addBlock_70 : ez_at X_ED_addBlock 70 (.iconst 1) 1 71 := ⟨by decide +kernel, rfl⟩
theorem d_ED_addBlock_71 : ez_at X_ED_addBlock 71 (.iadd) 1 72 := ⟨by decide +kernel, rfl⟩
theorem d_ED_addBlock_72 : ez_at X_ED_addBlock 72 (.putfield 40) 3 75 := ⟨by decide +kernel, rfl⟩
theorem d_ED_addBlock_75 : ez_at X_ED_addBlock 75 (.aload_n 0) 1 76 := ⟨by decide +kernel, rfl⟩
theorem d_ED_addBlock_76 : ez_at X_ED_addBlock 76 (.dup) 1 77 := ⟨by decide +kernel, rfl⟩
theorem d_ED_addBlock_77 : ez_at X_ED_addBlock 77 (.getfield 36) 3 80 := ⟨by decide +kernel, rfl⟩
theorem d_ED_addBlock_80 : ez_at X_ED_addBlock 80 (.iconst 1) 1 81 := ⟨by decide +kernel, rfl⟩
theorem d_ED_addBlock_81 : ez_at X_ED_addBlock 81 (.iadd) 1 82 := ⟨by decide +kernel, rfl⟩
theorem d_ED_addBlock_82 : ez_at X_ED_addBlock 82 (.putfield 36) 3 85 := ⟨by decide +kernel, rfl⟩
theorem d_ED_addBlock_85 : ez_at X_ED_addBlock 85 (.iload_n 3) 1 86 := ⟨by decide +kernel, rfl⟩
theorem d_ED_addBlock_86 : ez_at X_ED_addBlock 86 (.ireturn) 1 87 := ⟨by decide +kernel, rfl⟩
theorem d_ED_countNeeded_0 : ez_at X_ED_countNeeded 0 (.iload_n 0) 1 1 := ⟨by decide +kernel, rfl⟩
theorem d_ED_countNeeded_1 : decode X_ED_countNeeded.2.1 1 = .ok (.tableswitch 43 0 5 #[39, 39, 43, 41, 41, 41], 39) := by decide +kernel
theorem d_ED_countNeeded_40 : ez_at X_ED_countNeeded 40 (.iconst 0) 1 41 := ⟨by decide +kernel, rfl⟩
theorem d_ED_countNeeded_41 : ez_at X_ED_countNeeded 41 (.ireturn) 1 42 := ⟨by decide +kernel, rfl⟩
theorem d_ED_countNeeded_42 : ez_at X_ED_countNeeded 42 (.iconst 2) 1 43 := ⟨by decide +kernel, rfl⟩
theorem d_ED_countNeeded_43 : ez_at X_ED_countNeeded 43 (.ireturn) 1 44 := ⟨by decide +kernel, rfl⟩
theorem d_ED_countNeeded_44 : ez_at X_ED_countNeeded 44 (.iconst 1) 1 45 := ⟨by decide +kernel, rfl⟩
theorem d_ED_countNeeded_45 : ez_at X_ED_countNeeded 45 (.ireturn) 1 46 := ⟨by decide +kernel, rfl⟩
theorem d_ED_rewire_0 : ez_at X_ED_rewire 0 (.aload_n 0) 1 1 := ⟨by decide +kernel, rfl⟩
theorem d_ED_rewire_1 : ez_at X_ED_rewire 1 (.iload_n 1) 1 2 := ⟨by decide +kernel, rfl⟩
theorem d_ED_rewire_2 : ez_at X_ED_rewire 2 (.invokevirtual 57) 3 5 := ⟨by decide +kernel, rfl⟩
theorem d_ED_rewire_5 : ez_br X_ED_rewire 5 (.ifCond .eq 11) 3 8 11 16 := ⟨by decide +kernel, rfl, rfl⟩
theorem d_ED_rewire_8 : ez_at X_ED_rewire 8 (.iload_n 2) 1 9 := ⟨by decide +kernel, rfl⟩
theorem d_ED_rewire_9 : ez_at X_ED_rewire 9 (.iconst 2) 1 10 := ⟨by decide +kernel, rfl⟩
theorem d_ED_rewire_10 : ez_at X_ED_rewire 10 (.invokestatic 60) 3 13 := ⟨by decide +kernel, rfl⟩
theorem d_ED_rewire_13 : ez_br X_ED_rewire 13 (.ifCond .ne 5) 3 16 5 18 := ⟨by decide +kernel, rfl, rfl⟩
theorem d_ED_rewire_16 : ez_at X_ED_rewire 16 (.iconst (-1)) 1 17 := ⟨by decide +kernel, rfl⟩
theorem d_ED_rewire_17 : ez_at X_ED_rewire 17 (.ireturn) 1 18 := ⟨by decide +kernel, rfl⟩
theorem d_ED_rewire_18 : ez_at X_ED_rewire 18 (.aload_n 0) 1 19 := ⟨by decide +kernel, rfl⟩
theorem d_ED_rewire_19 : ez_at X_ED_rewire 19 (.getfield 21) 3 22 := ⟨by decide +kernel, rfl⟩
theorem d_ED_rewire_22 : ez_at X_ED_rewire 22 (.iload_n 1) 1 23 := ⟨by decide +kernel, rfl⟩
theorem d_ED_rewire_23 : ez_at X_ED_rewire 23 (.iconst 2) 1 24 := ⟨by decide +kernel, rfl⟩
theorem d_ED_rewire_24 : ez_at X_ED_rewire 24 (.imul) 1 25 := ⟨by decide +kernel, rfl⟩
theorem d_ED_rewire_25 : ez_at X_ED_rewire 25 (.iload_n 2) 1 26 := ⟨by decide +kernel, rfl⟩
theorem d_ED_rewire_26 : ez_at X_ED_rewire 26 (.iadd) 1 27 := ⟨by decide +kernel, rfl⟩
theorem d_ED_rewire_27 : ez_at X_ED_rewire 27 (.iaload) 1 28 := ⟨by decide +kernel, rfl⟩
theorem d_ED_rewire_28 : ez_at X_ED_rewire 28 (.istore 4) 2 30 := ⟨by decide +kernel, rfl⟩
theorem d_ED_rewire_30 : ez_at X_ED_rewire 30 (.aload_n 0) 1 31 := ⟨by decide +kernel, rfl⟩
theorem d_ED_rewire_31 : ez_at X_ED_rewire 31 (.getfield 21) 3 34 := ⟨by decide +kernel, rfl⟩
theorem d_ED_rewire_34 : ez_at X_ED_rewire 34 (.iload_n 1) 1 35 := ⟨by decide +kernel, rfl⟩
theorem d_ED_rewire_35 : ez_at X_ED_rewire 35 (.iconst 2) 1 36 := ⟨by decide +kernel, rfl⟩
theorem d_ED_rewire_36 : ez_at X_ED_rewire 36 (.imul) 1 37 := ⟨by decide +kernel, rfl⟩
theorem d_ED_rewire_37 : ez_at X_ED_rewire 37 (.iload_n 2) 1 38 := ⟨by decide +kernel, rfl⟩
theorem d_ED_rewire_38 : ez_at X_ED_rewire 38 (.iadd) 1 39 := ⟨by decide +kernel, rfl⟩
theorem d_ED_rewire_39 : ez_at X_ED_rewire 39 (.iload_n 3) 1 40 := ⟨by decide +kernel, rfl⟩
theorem d_ED_rewire_40 : ez_at X_ED_rewire 40 (.iastore) 1 41 := ⟨by decide +kernel, rfl⟩
theorem d_ED_rewire_41 : ez_at X_ED_rewire 41 (.aload_n 0) 1 42 := ⟨by decide +kernel, rfl⟩
theorem d_ED_rewire_42 : ez_at X_ED_rewire 42 (.getfield 24) 3 45 := ⟨by decide +kernel, rfl⟩
theorem d_ED_rewire_45 : ez_at X_ED_rewire 45 (.iload_n 1) 1 46 := ⟨by decide +kernel, rfl⟩
theorem d_ED_rewire_46 : ez_at X_ED_rewire 46 (.aload_n 0) 1 47 := ⟨by decide +kernel, rfl⟩
theorem d_ED_rewire_47 : ez_at X_ED_rewire 47 (.iload_n 1) 1 48 := ⟨by decide +kernel, rfl⟩
theorem d_ED_rewire_48 : ez_at X_ED_rewire 48 (.iconst 0) 1 49 := ⟨by decide +kernel, rfl⟩
theorem d_ED_rewire_49 : ez_at X_ED_rewire 49 (.invokevirtual 64) 3 52 := ⟨by decide +kernel, rfl⟩
theorem d_ED_rewire_52 : ez_at X_ED_rewire 52 (.invokestatic 68) 3 55 := ⟨by decide +kernel, rfl⟩
theorem d_ED_rewire_55 : ez_at X_ED_rewire 55 (.aload_n 0) 1 56 := ⟨by decide +kernel, rfl⟩
theorem d_ED_rewire_56 : ez_at X_ED_rewire 56 (.iload_n 1) 1 57 := ⟨by decide +kernel, rfl⟩
theorem d_ED_rewire_57 : ez_at X_ED_rewire 57 (.iconst 1) 1 58 := ⟨by decide +kernel, rfl⟩
theorem d_ED_rewire_58 : ez_at X_ED_rewire 58 (.invokevirtual 64) 3 61 := ⟨by decide +kernel, rfl⟩
theorem d_ED_rewire_61 : ez_at X_ED_rewire 61 (.invokestatic 68) 3 64 := ⟨by decide +kernel, rfl⟩
theorem d_ED_rewire_64 : ez_at X_ED_rewire 64 (.ior) 1 65 := ⟨by decide +kernel, rfl⟩
theorem d_ED_rewire_65 : ez_at X_ED_rewire 65 (.iastore) 1 66 := ⟨by decide +kernel, rfl⟩
theorem d_ED_rewire_66 : ez_at X_ED_rewire 66 (.iload 4) 2 68 := ⟨by decide +kernel, rfl⟩
theorem d_ED_rewire_68 : ez_at X_ED_rewire 68 (.ireturn) 1 69 := ⟨by decide +kernel, rfl⟩
theorem d_ED_changeOutput_0 : ez_at X_ED_changeOutput 0 (.aload_n 0) 1 1 := ⟨by decide +kernel, rfl⟩
theorem d_ED_changeOutput_1 : ez_at X_ED_changeOutput 1 (.iload_n 1) 1 2 := ⟨by decide +kernel, rfl⟩
theorem d_ED_changeOutput_2 : ez_at X_ED_changeOutput 2 (.invokevirtual 71) 3 5 := ⟨by decide +kernel, rfl⟩
theorem d_ED_changeOutput_5 : ez_at X_ED_changeOutput 5 (.istore_n 3) 1 6 := ⟨by decide +kernel, rfl⟩
theorem d_ED_changeOutput_6 : ez_at X_ED_changeOutput 6 (.iload_n 1) 1 7 := ⟨by decide +kernel, rfl⟩
theorem d_ED_changeOutput_7 : ez_at X_ED_changeOutput 7 (.iconst 3) 1 8 := ⟨by decide +kernel, rfl⟩
theorem d_ED_changeOutput_8 : ez_at X_ED_changeOutput 8 (.invokestatic 60) 3 11 := ⟨by decide +kernel, rfl⟩
theorem d_ED_changeOutput_11 : ez_br X_ED_changeOutput 11 (.ifCond .eq 10) 3 14 10 21 := ⟨by decide +kernel, rfl, rfl⟩
theorem d_ED_changeOutput_14 : ez_at X_ED_changeOutput 14 (.aload_n 0) 1 15 := ⟨by decide +kernel, rfl⟩
theorem d_ED_changeOutput_15 : ez_at X_ED_changeOutput 15 (.getfield 27) 3 18 := ⟨by decide +kernel, rfl⟩
theorem d_ED_changeOutput_18 : ez_at X_ED_changeOutput 18 (.iload_n 1) 1 19 := ⟨by decide +kernel, rfl⟩
theorem d_ED_changeOutput_19 : ez_at X_ED_changeOutput 19 (.iload_n 2) 1 20 := ⟨by decide +kernel, rfl⟩
theorem d_ED_changeOutput_20 : ez_at X_ED_changeOutput 20 (.iastore) 1 21 := ⟨by decide +kernel, rfl⟩
theorem d_ED_changeOutput_21 : ez_at X_ED_changeOutput 21 (.iload_n 3) 1 22 := ⟨by decide +kernel, rfl⟩
theorem d_ED_changeOutput_22 : ez_at X_ED_changeOutput 22 (.ireturn) 1 23 := ⟨by decide +kernel, rfl⟩
theorem d_ED_countBlocks_0 : ez_at X_ED_countBlocks 0 (.aload_n 0) 1 1 := ⟨by decide +kernel, rfl⟩
theorem d_ED_countBlocks_1 : ez_at X_ED_countBlocks 1 (.getfield 36) 3 4 := ⟨by decide +kernel, rfl⟩
theorem d_ED_countBlocks_4 : ez_at X_ED_countBlocks 4 (.ireturn) 1 5 := ⟨by decide +kernel, rfl⟩
theorem d_ED_countDelays_0 : ez_at X_ED_countDelays 0 (.aload_n 0) 1 1 := ⟨by decide +kernel, rfl⟩
theorem d_ED_countDelays_1 : ez_at X_ED_countDelays 1 (.getfield 40) 3 4 := ⟨by decide +kernel, rfl⟩
theorem d_ED_countDelays_4 : ez_at X_ED_countDelays 4 (.ireturn) 1 5 := ⟨by decide +kernel, rfl⟩
theorem d_ED_hasBlock_0 : ez_at X_ED_hasBlock 0 (.iload_n 1) 1 1 := ⟨by decide +kernel, rfl⟩
theorem d_ED_hasBlock_1 : ez_br X_ED_hasBlock 1 (.ifCond .lt 15) 3 4 15 16 := ⟨by decide +kernel, rfl, rfl⟩
theorem d_ED_hasBlock_4 : ez_at X_ED_hasBlock 4 (.iload_n 1) 1 5 := ⟨by decide +kernel, rfl⟩
theorem d_ED_hasBlock_5 : ez_at X_ED_hasBlock 5 (.aload_n 0) 1 6 := ⟨by decide +kernel, rfl⟩
theorem d_ED_hasBlock_6 : ez_at X_ED_hasBlock 6 (.getfield 36) 3 9 := ⟨by decide +kernel, rfl⟩
theorem d_ED_hasBlock_9 : ez_br X_ED_hasBlock 9 (.if_icmp .ge 7) 3 12 7 16 := ⟨by decide +kernel, rfl, rfl⟩
theorem d_ED_hasBlock_12 : ez_at X_ED_hasBlock 12 (.iconst 1) 1 13 := ⟨by decide +kernel, rfl⟩
theorem d_ED_hasBlock_13 : ez_br X_ED_hasBlock 13 (.goto 4) 3 16 4 17 := ⟨by decide +kernel, rfl, rfl⟩
theorem d_ED_hasBlock_16 : ez_at X_ED_hasBlock 16 (.iconst 0) 1 17 := ⟨by decide +kernel, rfl⟩
theorem d_ED_hasBlock_17 : ez_at X_ED_hasBlock 17 (.ireturn) 1 18 := ⟨by decide +kernel, rfl⟩
theorem d_ED_hasBlockOrNone_0 : ez_at X_ED_hasBlockOrNone 0 (.iload_n 1) 1 1 := ⟨by decide +kernel, rfl⟩
theorem d_ED_hasBlockOrNone_1 : ez_at X_ED_hasBlockOrNone 1 (.iconst (-1)) 1 2 := ⟨by decide +kernel, rfl⟩
theorem d_ED_hasBlockOrNone_2 : ez_br X_ED_hasBlockOrNone 2 (.if_icmp .eq 11) 3 5 11 13 := ⟨by decide +kernel, rfl, rfl⟩
theorem d_ED_hasBlockOrNone_5 : ez_at X_ED_hasBlockOrNone 5 (.aload_n 0) 1 6 := ⟨by decide +kernel, rfl⟩
theorem d_ED_hasBlockOrNone_6 : ez_at X_ED_hasBlockOrNone 6 (.iload_n 1) 1 7 := ⟨by decide +kernel, rfl⟩
theorem d_ED_hasBlockOrNone_7 : ez_at X_ED_hasBlockOrNone 7 (.invokevirtual 57) 3 10 := ⟨by decide +kernel, rfl⟩
theorem d_ED_hasBlockOrNone_10 : ez_br X_ED_hasBlockOrNone 10 (.ifCond .eq 7) 3 13 7 17 := ⟨by decide +kernel, rfl, rfl⟩
theorem d_ED_hasBlockOrNone_13 : ez_at X_ED_hasBlockOrNone 13 (.iconst 1) 1 14 := ⟨by decide +kernel, rfl⟩
theorem d_ED_hasBlockOrNone_14 : ez_br X_ED_hasBlockOrNone 14 (.goto 4) 3 17 4 18 := ⟨by decide +kernel, rfl, rfl⟩
theorem d_ED_hasBlockOrNone_17 : ez_at X_ED_hasBlockOrNone 17 (.iconst 0) 1 18 := ⟨by decide +kernel, rfl⟩
theorem d_ED_hasBlockOrNone_18 : ez_at X_ED_hasBlockOrNone 18 (.ireturn) 1 19 := ⟨by decide +kernel, rfl⟩
theorem d_ED_kindOf_0 : ez_at X_ED_kindOf 0 (.aload_n 0) 1 1 := ⟨by decide +kernel, rfl⟩
theorem d_ED_kindOf_1 : ez_at X_ED_kindOf 1 (.iload_n 1) 1 2 := ⟨by decide +kernel, rfl⟩
theorem d_ED_kindOf_2 : ez_at X_ED_kindOf 2 (.invokevirtual 57) 3 5 := ⟨by decide +kernel, rfl⟩
theorem d_ED_kindOf_5 : ez_br X_ED_kindOf 5 (.ifCond .eq 12) 3 8 12 17 := ⟨by decide +kernel, rfl, rfl⟩
theorem d_ED_kindOf_8 : ez_at X_ED_kindOf 8 (.aload_n 0) 1 9 := ⟨by decide +kernel, rfl⟩
theorem d_ED_kindOf_9 : ez_at X_ED_kindOf 9 (.getfield 9) 3 12 := ⟨by decide +kernel, rfl⟩
theorem d_ED_kindOf_12 : ez_at X_ED_kindOf 12 (.iload_n 1) 1 13 := ⟨by decide +kernel, rfl⟩
theorem d_ED_kindOf_13 : ez_at X_ED_kindOf 13 (.iaload) 1 14 := ⟨by decide +kernel, rfl⟩
theorem d_ED_kindOf_14 : ez_br X_ED_kindOf 14 (.goto 4) 3 17 4 18 := ⟨by decide +kernel, rfl, rfl⟩
theorem d_ED_kindOf_17 : ez_at X_ED_kindOf 17 (.iconst (-1)) 1 18 := ⟨by decide +kernel, rfl⟩
theorem d_ED_kindOf_18 : ez_at X_ED_kindOf 18 (.ireturn) 1 19 := ⟨by decide +kernel, rfl⟩
theorem d_ED_numberOf_0 : ez_at X_ED_numberOf 0 (.aload_n 0) 1 1 := ⟨by decide +kernel, rfl⟩
theorem d_ED_numberOf_1 : ez_at X_ED_numberOf 1 (.iload_n 1) 1 2 := ⟨by decide +kernel, rfl⟩
theorem d_ED_numberOf_2 : ez_at X_ED_numberOf 2 (.invokevirtual 57) 3 5 := ⟨by decide +kernel, rfl⟩
theorem d_ED_numberOf_5 : ez_br X_ED_numberOf 5 (.ifCond .eq 12) 3 8 12 17 := ⟨by decide +kernel, rfl, rfl⟩
theorem d_ED_numberOf_8 : ez_at X_ED_numberOf 8 (.aload_n 0) 1 9 := ⟨by decide +kernel, rfl⟩
theorem d_ED_numberOf_9 : ez_at X_ED_numberOf 9 (.getfield 15) 3 12 := ⟨by decide +kernel, rfl⟩
theorem d_ED_numberOf_12 : ez_at X_ED_numberOf 12 (.iload_n 1) 1 13 := ⟨by decide +kernel, rfl⟩
theorem d_ED_numberOf_13 : ez_at X_ED_numberOf 13 (.iaload) 1 14 := ⟨by decide +kernel, rfl⟩
theorem d_ED_numberOf_14 : ez_br X_ED_numberOf 14 (.goto 4) 3 17 4 18 := ⟨by decide +kernel, rfl, rfl⟩
theorem d_ED_numberOf_17 : ez_at X_ED_numberOf 17 (.iconst (-1)) 1 18 := ⟨by decide +kernel, rfl⟩
theorem d_ED_numberOf_18 : ez_at X_ED_numberOf 18 (.ireturn) 1 19 := ⟨by decide +kernel, rfl⟩
theorem d_ED_outputAt_0 : ez_at X_ED_outputAt 0 (.iload_n 1) 1 1 := ⟨by decide +kernel, rfl⟩
theorem d_ED_outputAt_1 : ez_at X_ED_outputAt 1 (.iconst 3) 1 2 := ⟨by decide +kernel, rfl⟩
theorem d_ED_outputAt_2 : ez_at X_ED_outputAt 2 (.invokestatic 60) 3 5 := ⟨by decide +kernel, rfl⟩
theorem d_ED_outputAt_5 : ez_br X_ED_outputAt 5 (.ifCond .eq 12) 3 8 12 17 := ⟨by decide +kernel, rfl, rfl⟩
theorem d_ED_outputAt_8 : ez_at X_ED_outputAt 8 (.aload_n 0) 1 9 := ⟨by decide +kernel, rfl⟩
theorem d_ED_outputAt_9 : ez_at X_ED_outputAt 9 (.getfield 27) 3 12 := ⟨by decide +kernel, rfl⟩
theorem d_ED_outputAt_12 : ez_at X_ED_outputAt 12 (.iload_n 1) 1 13 := ⟨by decide +kernel, rfl⟩
theorem d_ED_outputAt_13 : ez_at X_ED_outputAt 13 (.iaload) 1 14 := ⟨by decide +kernel, rfl⟩
theorem d_ED_outputAt_14 : ez_br X_ED_outputAt 14 (.goto 4) 3 17 4 18 := ⟨by decide +kernel, rfl, rfl⟩
theorem d_ED_outputAt_17 : ez_at X_ED_outputAt 17 (.iconst (-1)) 1 18 := ⟨by decide +kernel, rfl⟩
theorem d_ED_outputAt_18 : ez_at X_ED_outputAt 18 (.ireturn) 1 19 := ⟨by decide +kernel, rfl⟩
theorem d_ED_delayAt_0 : ez_at X_ED_delayAt 0 (.iload_n 1) 1 1 := ⟨by decide +kernel, rfl⟩
theorem d_ED_delayAt_1 : ez_at X_ED_delayAt 1 (.aload_n 0) 1 2 := ⟨by decide +kernel, rfl⟩
theorem d_ED_delayAt_2 : ez_at X_ED_delayAt 2 (.getfield 40) 3 5 := ⟨by decide +kernel, rfl⟩
theorem d_ED_delayAt_5 : ez_at X_ED_delayAt 5 (.invokestatic 60) 3 8 := ⟨by decide +kernel, rfl⟩
theorem d_ED_delayAt_8 : ez_br X_ED_delayAt 8 (.ifCond .eq 12) 3 11 12 20 := ⟨by decide +kernel, rfl, rfl⟩
theorem d_ED_delayAt_11 : ez_at X_ED_delayAt 11 (.aload_n 0) 1 12 := ⟨by decide +kernel, rfl⟩
theorem d_ED_delayAt_12 : ez_at X_ED_delayAt 12 (.getfield 30) 3 15 := ⟨by decide +kernel, rfl⟩
theorem d_ED_delayAt_15 : ez_at X_ED_delayAt 15 (.iload_n 1) 1 16 := ⟨by decide +kernel, rfl⟩
theorem d_ED_delayAt_16 : ez_at X_ED_delayAt 16 (.iaload) 1 17 := ⟨by decide +kernel, rfl⟩
theorem d_ED_delayAt_17 : ez_br X_ED_delayAt 17 (.goto 4) 3 20 4 21 := ⟨by decide +kernel, rfl, rfl⟩
theorem d_ED_delayAt_20 : ez_at X_ED_delayAt 20 (.iconst (-1)) 1 21 := ⟨by decide +kernel, rfl⟩
theorem d_ED_delayAt_21 : ez_at X_ED_delayAt 21 (.ireturn) 1 22 := ⟨by decide +kernel, rfl⟩
theorem d_ED_neededAt_0 : ez_at X_ED_neededAt 0 (.aload_n 0) 1 1 := ⟨by decide +kernel, rfl⟩
theorem d_ED_neededAt_1 : ez_at X_ED_neededAt 1 (.iload_n 1) 1 2 := ⟨by decide +kernel, rfl⟩
theorem d_ED_neededAt_2 : ez_at X_ED_neededAt 2 (.invokevirtual 57) 3 5 := ⟨by decide +kernel, rfl⟩
theorem d_ED_neededAt_5 : ez_br X_ED_neededAt 5 (.ifCond .eq 21) 3 8 21 26 := ⟨by decide +kernel, rfl, rfl⟩
theorem d_ED_neededAt_8 : ez_at X_ED_neededAt 8 (.iload_n 2) 1 9 := ⟨by decide +kernel, rfl⟩
theorem d_ED_neededAt_9 : ez_br X_ED_neededAt 9 (.ifCond .lt 17) 3 12 17 26 := ⟨by decide +kernel, rfl, rfl⟩
theorem d_ED_neededAt_12 : ez_at X_ED_neededAt 12 (.iload_n 2) 1 13 := ⟨by decide +kernel, rfl⟩
theorem d_ED_neededAt_13 : ez_at X_ED_neededAt 13 (.aload_n 0) 1 14 := ⟨by decide +kernel, rfl⟩
theorem d_ED_neededAt_14 : ez_at X_ED_neededAt 14 (.getfield 18) 3 17 := ⟨by decide +kernel, rfl⟩
theorem d_ED_neededAt_17 : ez_at X_ED_neededAt 17 (.iload_n 1) 1 18 := ⟨by decide +kernel, rfl⟩
theorem d_ED_neededAt_18 : ez_at X_ED_neededAt 18 (.iaload) 1 19 := ⟨by decide +kernel, rfl⟩
theorem d_ED_neededAt_19 : ez_br X_ED_neededAt 19 (.if_icmp .ge 7) 3 22 7 26 := ⟨by decide +kernel, rfl, rfl⟩
theorem d_ED_neededAt_22 : ez_at X_ED_neededAt 22 (.iconst 1) 1 23 := ⟨by decide +kernel, rfl⟩
theorem d_ED_neededAt_23 : ez_br X_ED_neededAt 23 (.goto 4) 3 26 4 27 := ⟨by decide +kernel, rfl, rfl⟩
theorem d_ED_neededAt_26 : ez_at X_ED_neededAt 26 (.iconst 0) 1 27 := ⟨by decide +kernel, rfl⟩
theorem d_ED_neededAt_27 : ez_at X_ED_neededAt 27 (.istore_n 3) 1 28 := ⟨by decide +kernel, rfl⟩
theorem d_ED_neededAt_28 : ez_at X_ED_neededAt 28 (.iload_n 3) 1 29 := ⟨by decide +kernel, rfl⟩
theorem d_ED_neededAt_29 : ez_br X_ED_neededAt 29 (.ifCond .eq 16) 3 32 16 45 := ⟨by decide +kernel, rfl, rfl⟩
theorem d_ED_neededAt_32 : ez_at X_ED_neededAt 32 (.aload_n 0) 1 33 := ⟨by decide +kernel, rfl⟩
theorem d_ED_neededAt_33 : ez_at X_ED_neededAt 33 (.getfield 21) 3 36 := ⟨by decide +kernel, rfl⟩
theorem d_ED_neededAt_36 : ez_at X_ED_neededAt 36 (.iload_n 1) 1 37 := ⟨by decide +kernel, rfl⟩
theorem d_ED_neededAt_37 : ez_at X_ED_neededAt 37 (.iconst 2) 1 38 := ⟨by decide +kernel, rfl⟩
theorem d_ED_neededAt_38 : ez_at X_ED_neededAt 38 (.imul) 1 39 := ⟨by decide +kernel, rfl⟩
theorem d_ED_neededAt_39 : ez_at X_ED_neededAt 39 (.iload_n 2) 1 40 := ⟨by decide +kernel, rfl⟩
theorem d_ED_neededAt_40 : ez_at X_ED_neededAt 40 (.iadd) 1 41 := ⟨by decide +kernel, rfl⟩
theorem d_ED_neededAt_41 : ez_at X_ED_neededAt 41 (.iaload) 1 42 := ⟨by decide +kernel, rfl⟩
theorem d_ED_neededAt_42 : ez_br X_ED_neededAt 42 (.goto 4) 3 45 4 46 := ⟨by decide +kernel, rfl, rfl⟩
theorem d_ED_neededAt_45 : ez_at X_ED_neededAt 45 (.iconst (-1)) 1 46 := ⟨by decide +kernel, rfl⟩
theorem d_ED_neededAt_46 : ez_at X_ED_neededAt 46 (.ireturn) 1 47 := ⟨by decide +kernel, rfl⟩
theorem d_ED_neededInTick_0 : ez_at X_ED_neededInTick 0 (.aload_n 0) 1 1 := ⟨by decide +kernel, rfl⟩
theorem d_ED_neededInTick_1 : ez_at X_ED_neededInTick 1 (.iload_n 1) 1 2 := ⟨by decide +kernel, rfl⟩
theorem d_ED_neededInTick_2 : ez_at X_ED_neededInTick 2 (.invokevirtual 57) 3 5 := ⟨by decide +kernel, rfl⟩
theorem d_ED_neededInTick_5 : ez_br X_ED_neededInTick 5 (.ifCond .eq 23) 3 8 23 28 := ⟨by decide +kernel, rfl, rfl⟩
theorem d_ED_neededInTick_8 : ez_at X_ED_neededInTick 8 (.aload_n 0) 1 9 := ⟨by decide +kernel, rfl⟩
theorem d_ED_neededInTick_9 : ez_at X_ED_neededInTick 9 (.getfield 9) 3 12 := ⟨by decide +kernel, rfl⟩
theorem d_ED_neededInTick_12 : ez_at X_ED_neededInTick 12 (.iload_n 1) 1 13 := ⟨by decide +kernel, rfl⟩
theorem d_ED_neededInTick_13 : ez_at X_ED_neededInTick 13 (.iaload) 1 14 := ⟨by decide +kernel, rfl⟩
theorem d_ED_neededInTick_14 : ez_at X_ED_neededInTick 14 (.bipush 6) 2 16 := ⟨by decide +kernel, rfl⟩
theorem d_ED_neededInTick_16 : ez_br X_ED_neededInTick 16 (.if_icmp .eq 12) 3 19 12 28 := ⟨by decide +kernel, rfl, rfl⟩
theorem d_ED_neededInTick_19 : ez_at X_ED_neededInTick 19 (.aload_n 0) 1 20 := ⟨by decide +kernel, rfl⟩
theorem d_ED_neededInTick_20 : ez_at X_ED_neededInTick 20 (.getfield 24) 3 23 := ⟨by decide +kernel, rfl⟩
theorem d_ED_neededInTick_23 : ez_at X_ED_neededInTick 23 (.iload_n 1) 1 24 := ⟨by decide +kernel, rfl⟩
theorem d_ED_neededInTick_24 : ez_at X_ED_neededInTick 24 (.iaload) 1 25 := ⟨by decide +kernel, rfl⟩
theorem d_ED_neededInTick_25 : ez_br X_ED_neededInTick 25 (.goto 4) 3 28 4 29 := ⟨by decide +kernel, rfl, rfl⟩
theorem d_ED_neededInTick_28 : ez_at X_ED_neededInTick 28 (.iconst 0) 1 29 := ⟨by decide +kernel, rfl⟩
theorem d_ED_neededInTick_29 : ez_at X_ED_neededInTick 29 (.ireturn) 1 30 := ⟨by decide +kernel, rfl⟩
theorem d_ED_firstFault_0 : ez_at X_ED_firstFault 0 (.aload_n 0) 1 1 := ⟨by decide +kernel, rfl⟩
theorem d_ED_firstFault_1 : ez_at X_ED_firstFault 1 (.invokevirtual 74) 3 4 := ⟨by decide +kernel, rfl⟩
theorem d_ED_firstFault_4 : ez_at X_ED_firstFault 4 (.istore_n 1) 1 5 := ⟨by decide +kernel, rfl⟩
theorem d_ED_firstFault_5 : ez_at X_ED_firstFault 5 (.iload_n 1) 1 6 := ⟨by decide +kernel, rfl⟩
theorem d_ED_firstFault_6 : ez_at X_ED_firstFault 6 (.iconst (-1)) 1 7 := ⟨by decide +kernel, rfl⟩
theorem d_ED_firstFault_7 : ez_br X_ED_firstFault 7 (.if_icmp .eq 7) 3 10 7 14 := ⟨by decide +kernel, rfl, rfl⟩
theorem d_ED_firstFault_10 : ez_at X_ED_firstFault 10 (.iload_n 1) 1 11 := ⟨by decide +kernel, rfl⟩
theorem d_ED_firstFault_11 : ez_br X_ED_firstFault 11 (.goto 7) 3 14 7 18 := ⟨by decide +kernel, rfl, rfl⟩
theorem d_ED_firstFault_14 : ez_at X_ED_firstFault 14 (.aload_n 0) 1 15 := ⟨by decide +kernel, rfl⟩
theorem d_ED_firstFault_15 : ez_at X_ED_firstFault 15 (.invokevirtual 78) 3 18 := ⟨by decide +kernel, rfl⟩
theorem d_ED_firstFault_18 : ez_at X_ED_firstFault 18 (.ireturn) 1 19 := ⟨by decide +kernel, rfl⟩
theorem d_ED_firstUnwired_0 : ez_at X_ED_firstUnwired 0 (.iconst 0) 1 1 := ⟨by decide +kernel, rfl⟩
theorem d_ED_firstUnwired_1 : ez_at X_ED_firstUnwired 1 (.istore_n 1) 1 2 := ⟨by decide +kernel, rfl⟩
theorem d_ED_firstUnwired_2 : ez_at X_ED_firstUnwired 2 (.iload_n 1) 1 3 := ⟨by decide +kernel, rfl⟩
theorem d_ED_firstUnwired_3 : ez_at X_ED_firstUnwired 3 (.aload_n 0) 1 4 := ⟨by decide +kernel, rfl⟩
theorem d_ED_firstUnwired_4 : ez_at X_ED_firstUnwired 4 (.getfield 36) 3 7 := ⟨by decide +kernel, rfl⟩
theorem d_ED_firstUnwired_7 : ez_br X_ED_firstUnwired 7 (.if_icmp .ge 43) 3 10 43 50 := ⟨by decide +kernel, rfl, rfl⟩
theorem d_ED_firstUnwired_10 : ez_at X_ED_firstUnwired 10 (.iconst 0) 1 11 := ⟨by decide +kernel, rfl⟩
theorem d_ED_firstUnwired_11 : ez_at X_ED_firstUnwired 11 (.istore_n 2) 1 12 := ⟨by decide +kernel, rfl⟩
theorem d_ED_firstUnwired_12 : ez_at X_ED_firstUnwired 12 (.iload_n 2) 1 13 := ⟨by decide +kernel, rfl⟩
theorem d_ED_firstUnwired_13 : ez_at X_ED_firstUnwired 13 (.aload_n 0) 1 14 := ⟨by decide +kernel, rfl⟩
theorem d_ED_firstUnwired_14 : ez_at X_ED_firstUnwired 14 (.getfield 18) 3 17 := ⟨by decide +kernel, rfl⟩
theorem d_ED_firstUnwired_17 : ez_at X_ED_firstUnwired 17 (.iload_n 1) 1 18 := ⟨by decide +kernel, rfl⟩
theorem d_ED_firstUnwired_18 : ez_at X_ED_firstUnwired 18 (.iaload) 1 19 := ⟨by decide +kernel, rfl⟩
theorem d_ED_firstUnwired_19 : ez_br X_ED_firstUnwired 19 (.if_icmp .ge 25) 3 22 25 44 := ⟨by decide +kernel, rfl, rfl⟩
theorem d_ED_firstUnwired_22 : ez_at X_ED_firstUnwired 22 (.aload_n 0) 1 23 := ⟨by decide +kernel, rfl⟩
theorem d_ED_firstUnwired_23 : ez_at X_ED_firstUnwired 23 (.getfield 21) 3 26 := ⟨by decide +kernel, rfl⟩
theorem d_ED_firstUnwired_26 : ez_at X_ED_firstUnwired 26 (.iload_n 1) 1 27 := ⟨by decide +kernel, rfl⟩
theorem d_ED_firstUnwired_27 : ez_at X_ED_firstUnwired 27 (.iconst 2) 1 28 := ⟨by decide +kernel, rfl⟩
theorem d_ED_firstUnwired_28 : ez_at X_ED_firstUnwired 28 (.imul) 1 29 := ⟨by decide +kernel, rfl⟩
theorem d_ED_firstUnwired_29 : ez_at X_ED_firstUnwired 29 (.iload_n 2) 1 30 := ⟨by decide +kernel, rfl⟩
theorem d_ED_firstUnwired_30 : ez_at X_ED_firstUnwired 30 (.iadd) 1 31 := ⟨by decide +kernel, rfl⟩
theorem d_ED_firstUnwired_31 : ez_at X_ED_firstUnwired 31 (.iaload) 1 32 := ⟨by decide +kernel, rfl⟩
theorem d_ED_firstUnwired_32 : ez_at X_ED_firstUnwired 32 (.iconst (-1)) 1 33 := ⟨by decide +kernel, rfl⟩
theorem d_ED_firstUnwired_33 : ez_br X_ED_firstUnwired 33 (.if_icmp .ne 5) 3 36 5 38 := ⟨by decide +kernel, rfl, rfl⟩
theorem d_ED_firstUnwired_36 : ez_at X_ED_firstUnwired 36 (.iload_n 1) 1 37 := ⟨by decide +kernel, rfl⟩
theorem d_ED_firstUnwired_37 : ez_at X_ED_firstUnwired 37 (.ireturn) 1 38 := ⟨by decide +kernel, rfl⟩
theorem d_ED_firstUnwired_38 : ez_at X_ED_firstUnwired 38 (.iinc 2 1) 3 41 := ⟨by decide +kernel, rfl⟩
theorem d_ED_firstUnwired_41 : ez_br X_ED_firstUnwired 41 (.goto (-29)) 3 44 (-29) 12 := ⟨by decide +kernel, rfl, rfl⟩
theorem d_ED_firstUnwired_44 : ez_at X_ED_firstUnwired 44 (.iinc 1 1) 3 47 := ⟨by decide +kernel, rfl⟩
theorem d_ED_firstUnwired_47 : ez_br X_ED_firstUnwired 47 (.goto (-45)) 3 50 (-45) 2 := ⟨by decide +kernel, rfl, rfl⟩
theorem d_ED_firstUnwired_50 : ez_at X_ED_firstUnwired 50 (.iconst (-1)) 1 51 := ⟨by decide +kernel, rfl⟩
theorem d_ED_firstUnwired_51 : ez_at X_ED_firstUnwired 51 (.ireturn) 1 52 := ⟨by decide +kernel, rfl⟩
theorem d_ED_firstComingBack_0 : ez_at X_ED_firstComingBack 0 (.iconst 0) 1 1 := ⟨by decide +kernel, rfl⟩
theorem d_ED_firstComingBack_1 : ez_at X_ED_firstComingBack 1 (.istore_n 1) 1 2 := ⟨by decide +kernel, rfl⟩
theorem d_ED_firstComingBack_2 : ez_at X_ED_firstComingBack 2 (.iload_n 1) 1 3 := ⟨by decide +kernel, rfl⟩
theorem d_ED_firstComingBack_3 : ez_at X_ED_firstComingBack 3 (.aload_n 0) 1 4 := ⟨by decide +kernel, rfl⟩
theorem d_ED_firstComingBack_4 : ez_at X_ED_firstComingBack 4 (.getfield 36) 3 7 := ⟨by decide +kernel, rfl⟩
theorem d_ED_firstComingBack_7 : ez_br X_ED_firstComingBack 7 (.if_icmp .ge 20) 3 10 20 27 := ⟨by decide +kernel, rfl, rfl⟩
theorem d_ED_firstComingBack_10 : ez_at X_ED_firstComingBack 10 (.aload_n 0) 1 11 := ⟨by decide +kernel, rfl⟩
theorem d_ED_firstComingBack_11 : ez_at X_ED_firstComingBack 11 (.getfield 33) 3 14 := ⟨by decide +kernel, rfl⟩
theorem d_ED_firstComingBack_14 : ez_at X_ED_firstComingBack 14 (.iload_n 1) 1 15 := ⟨by decide +kernel, rfl⟩
theorem d_ED_firstComingBack_15 : ez_at X_ED_firstComingBack 15 (.aload_n 0) 1 16 := ⟨by decide +kernel, rfl⟩
theorem d_ED_firstComingBack_16 : ez_at X_ED_firstComingBack 16 (.iload_n 1) 1 17 := ⟨by decide +kernel, rfl⟩
theorem d_ED_firstComingBack_17 : ez_at X_ED_firstComingBack 17 (.invokevirtual 81) 3 20 := ⟨by decide +kernel, rfl⟩
theorem d_ED_firstComingBack_20 : ez_at X_ED_firstComingBack 20 (.iastore) 1 21 := ⟨by decide +kernel, rfl⟩
theorem d_ED_firstComingBack_21 : ez_at X_ED_firstComingBack 21 (.iinc 1 1) 3 24 := ⟨by decide +kernel, rfl⟩
theorem d_ED_firstComingBack_24 : ez_br X_ED_firstComingBack 24 (.goto (-22)) 3 27 (-22) 2 := ⟨by decide +kernel, rfl, rfl⟩
theorem d_ED_firstComingBack_27 : ez_at X_ED_firstComingBack 27 (.iconst 0) 1 28 := ⟨by decide +kernel, rfl⟩
theorem d_ED_firstComingBack_28 : ez_at X_ED_firstComingBack 28 (.istore_n 1) 1 29 := ⟨by decide +kernel, rfl⟩
theorem d_ED_firstComingBack_29 : ez_at X_ED_firstComingBack 29 (.iload_n 1) 1 30 := ⟨by decide +kernel, rfl⟩
theorem d_ED_firstComingBack_30 : ez_at X_ED_firstComingBack 30 (.aload_n 0) 1 31 := ⟨by decide +kernel, rfl⟩
theorem d_ED_firstComingBack_31 : ez_at X_ED_firstComingBack 31 (.getfield 36) 3 34 := ⟨by decide +kernel, rfl⟩
theorem d_ED_firstComingBack_34 : ez_br X_ED_firstComingBack 34 (.if_icmp .ge 53) 3 37 53 87 := ⟨by decide +kernel, rfl, rfl⟩
theorem d_ED_firstComingBack_37 : ez_at X_ED_firstComingBack 37 (.iconst 0) 1 38 := ⟨by decide +kernel, rfl⟩
theorem d_ED_firstComingBack_38 : ez_at X_ED_firstComingBack 38 (.istore_n 2) 1 39 := ⟨by decide +kernel, rfl⟩
theorem d_ED_firstComingBack_39 : ez_at X_ED_firstComingBack 39 (.iload_n 2) 1 40 := ⟨by decide +kernel, rfl⟩
theorem d_ED_firstComingBack_40 : ez_at X_ED_firstComingBack 40 (.aload_n 0) 1 41 := ⟨by decide +kernel, rfl⟩
theorem d_ED_firstComingBack_41 : ez_at X_ED_firstComingBack 41 (.getfield 36) 3 44 := ⟨by decide +kernel, rfl⟩
theorem d_ED_firstComingBack_44 : ez_br X_ED_firstComingBack 44 (.if_icmp .ge 37) 3 47 37 81 := ⟨by decide +kernel, rfl, rfl⟩
theorem d_ED_firstComingBack_47 : ez_at X_ED_firstComingBack 47 (.aload_n 0) 1 48 := ⟨by decide +kernel, rfl⟩
theorem d_ED_firstComingBack_48 : ez_at X_ED_firstComingBack 48 (.getfield 33) 3 51 := ⟨by decide +kernel, rfl⟩
theorem d_ED_firstComingBack_51 : ez_at X_ED_firstComingBack 51 (.iload_n 2) 1 52 := ⟨by decide +kernel, rfl⟩
theorem d_ED_firstComingBack_52 : ez_at X_ED_firstComingBack 52 (.iaload) 1 53 := ⟨by decide +kernel, rfl⟩
theorem d_ED_firstComingBack_53 : ez_at X_ED_firstComingBack 53 (.iload_n 1) 1 54 := ⟨by decide +kernel, rfl⟩
theorem d_ED_firstComingBack_54 : ez_at X_ED_firstComingBack 54 (.invokestatic 84) 3 57 := ⟨by decide +kernel, rfl⟩
theorem d_ED_firstComingBack_57 : ez_br X_ED_firstComingBack 57 (.ifCond .eq 18) 3 60 18 75 := ⟨by decide +kernel, rfl, rfl⟩
theorem d_ED_firstComingBack_60 : ez_at X_ED_firstComingBack 60 (.aload_n 0) 1 61 := ⟨by decide +kernel, rfl⟩
theorem d_ED_firstComingBack_61 : ez_at X_ED_firstComingBack 61 (.getfield 33) 3 64 := ⟨by decide +kernel, rfl⟩
theorem d_ED_firstComingBack_64 : ez_at X_ED_firstComingBack 64 (.iload_n 2) 1 65 := ⟨by decide +kernel, rfl⟩
theorem d_ED_firstComingBack_65 : ez_at X_ED_firstComingBack 65 (.dup2) 1 66 := ⟨by decide +kernel, rfl⟩
theorem d_ED_firstComingBack_66 : ez_at X_ED_firstComingBack 66 (.iaload) 1 67 := ⟨by decide +kernel, rfl⟩
theorem d_ED_firstComingBack_67 : ez_at X_ED_firstComingBack 67 (.aload_n 0) 1 68 := ⟨by decide +kernel, rfl⟩
theorem d_ED_firstComingBack_68 : ez_at X_ED_firstComingBack 68 (.getfield 33) 3 71 := ⟨by decide +kernel, rfl⟩
theorem d_ED_firstComingBack_71 : ez_at X_ED_firstComingBack 71 (.iload_n 1) 1 72 := ⟨by decide +kernel, rfl⟩
theorem d_ED_firstComingBack_72 : ez_at X_ED_firstComingBack 72 (.iaload) 1 73 := ⟨by decide +kernel, rfl⟩
theorem d_ED_firstComingBack_73 : ez_at X_ED_firstComingBack 73 (.ior) 1 74 := ⟨by decide +kernel, rfl⟩
theorem d_ED_firstComingBack_74 : ez_at X_ED_firstComingBack 74 (.iastore) 1 75 := ⟨by decide +kernel, rfl⟩
theorem d_ED_firstComingBack_75 : ez_at X_ED_firstComingBack 75 (.iinc 2 1) 3 78 := ⟨by decide +kernel, rfl⟩
theorem d_ED_firstComingBack_78 : ez_br X_ED_firstComingBack 78 (.goto (-39)) 3 81 (-39) 39 := ⟨by decide +kernel, rfl, rfl⟩
theorem d_ED_firstComingBack_81 : ez_at X_ED_firstComingBack 81 (.iinc 1 1) 3 84 := ⟨by decide +kernel, rfl⟩
theorem d_ED_firstComingBack_84 : ez_br X_ED_firstComingBack 84 (.goto (-55)) 3 87 (-55) 29 := ⟨by decide +kernel, rfl, rfl⟩
theorem d_ED_firstComingBack_87 : ez_at X_ED_firstComingBack 87 (.iconst 0) 1 88 := ⟨by decide +kernel, rfl⟩
theorem d_ED_firstComingBack_88 : ez_at X_ED_firstComingBack 88 (.istore_n 1) 1 89 := ⟨by decide +kernel, rfl⟩
theorem d_ED_firstComingBack_89 : ez_at X_ED_firstComingBack 89 (.iload_n 1) 1 90 := ⟨by decide +kernel, rfl⟩
theorem d_ED_firstComingBack_90 : ez_at X_ED_firstComingBack 90 (.aload_n 0) 1 91 := ⟨by decide +kernel, rfl⟩
theorem d_ED_firstComingBack_91 : ez_at X_ED_firstComingBack 91 (.getfield 36) 3 94 := ⟨by decide +kernel, rfl⟩
theorem d_ED_firstComingBack_94 : ez_br X_ED_firstComingBack 94 (.if_icmp .ge 24) 3 97 24 118 := ⟨by decide +kernel, rfl, rfl⟩
theorem d_ED_firstComingBack_97 : ez_at X_ED_firstComingBack 97 (.aload_n 0) 1 98 := ⟨by decide +kernel, rfl⟩
theorem d_ED_firstComingBack_98 : ez_at X_ED_firstComingBack 98 (.getfield 33) 3 101 := ⟨by decide +kernel, rfl⟩
theorem d_ED_firstComingBack_101 : ez_at X_ED_firstComingBack 101 (.iload_n 1) 1 102 := ⟨by decide +kernel, rfl⟩
theorem d_ED_firstComingBack_102 : ez_at X_ED_firstComingBack 102 (.iaload) 1 103 := ⟨by decide +kernel, rfl⟩
theorem d_ED_firstComingBack_103 : ez_at X_ED_firstComingBack 103 (.iload_n 1) 1 104 := ⟨by decide +kernel, rfl⟩
theorem d_ED_firstComingBack_104 : ez_at X_ED_firstComingBack 104 (.invokestatic 84) 3 107 := ⟨by decide +kernel, rfl⟩
theorem d_ED_firstComingBack_107 : ez_br X_ED_firstComingBack 107 (.ifCond .eq 5) 3 110 5 112 := ⟨by decide +kernel, rfl, rfl⟩
theorem d_ED_firstComingBack_110 : ez_at X_ED_firstComingBack 110 (.iload_n 1) 1 111 := ⟨by decide +kernel, rfl⟩
theorem d_ED_firstComingBack_111 : ez_at X_ED_firstComingBack 111 (.ireturn) 1 112 := ⟨by decide +kernel, rfl⟩
theorem d_ED_firstComingBack_112 : ez_at X_ED_firstComingBack 112 (.iinc 1 1) 3 115 := ⟨by decide +kernel, rfl⟩
theorem d_ED_firstComingBack_115 : ez_br X_ED_firstComingBack 115 (.goto (-26)) 3 118 (-26) 89 := ⟨by decide +kernel, rfl, rfl⟩
theorem d_ED_firstComingBack_118 : ez_at X_ED_firstComingBack 118 (.iconst (-1)) 1 119 := ⟨by decide +kernel, rfl⟩
theorem d_ED_firstComingBack_119 : ez_at X_ED_firstComingBack 119 (.ireturn) 1 120 := ⟨by decide +kernel, rfl⟩
theorem d_ED_idleAt_0 : ez_at X_ED_idleAt 0 (.aload_n 0) 1 1 := ⟨by decide +kernel, rfl⟩
theorem d_ED_idleAt_1 : ez_at X_ED_idleAt 1 (.invokevirtual 87) 3 4 := ⟨by decide +kernel, rfl⟩
theorem d_ED_idleAt_4 : ez_at X_ED_idleAt 4 (.istore_n 2) 1 5 := ⟨by decide +kernel, rfl⟩
theorem d_ED_idleAt_5 : ez_at X_ED_idleAt 5 (.iconst 0) 1 6 := ⟨by decide +kernel, rfl⟩
theorem d_ED_idleAt_6 : ez_at X_ED_idleAt 6 (.istore_n 3) 1 7 := ⟨by decide +kernel, rfl⟩
theorem d_ED_idleAt_7 : ez_at X_ED_idleAt 7 (.iconst 0) 1 8 := ⟨by decide +kernel, rfl⟩
theorem d_ED_idleAt_8 : ez_at X_ED_idleAt 8 (.istore 4) 2 10 := ⟨by decide +kernel, rfl⟩
theorem d_ED_idleAt_10 : ez_at X_ED_idleAt 10 (.iload 4) 2 12 := ⟨by decide +kernel, rfl⟩
theorem d_ED_idleAt_12 : ez_at X_ED_idleAt 12 (.aload_n 0) 1 13 := ⟨by decide +kernel, rfl⟩
theorem d_ED_idleAt_13 : ez_at X_ED_idleAt 13 (.getfield 36) 3 16 := ⟨by decide +kernel, rfl⟩
theorem d_ED_idleAt_16 : ez_br X_ED_idleAt 16 (.if_icmp .ge 29) 3 19 29 45 := ⟨by decide +kernel, rfl, rfl⟩
theorem d_ED_idleAt_19 : ez_at X_ED_idleAt 19 (.iload_n 2) 1 20 := ⟨by decide +kernel, rfl⟩
theorem d_ED_idleAt_20 : ez_at X_ED_idleAt 20 (.iload 4) 2 22 := ⟨by decide +kernel, rfl⟩
theorem d_ED_idleAt_22 : ez_at X_ED_idleAt 22 (.invokestatic 84) 3 25 := ⟨by decide +kernel, rfl⟩
theorem d_ED_idleAt_25 : ez_br X_ED_idleAt 25 (.ifCond .ne 14) 3 28 14 39 := ⟨by decide +kernel, rfl, rfl⟩
theorem d_ED_idleAt_28 : ez_at X_ED_idleAt 28 (.iload_n 3) 1 29 := ⟨by decide +kernel, rfl⟩
theorem d_ED_idleAt_29 : ez_at X_ED_idleAt 29 (.iload_n 1) 1 30 := ⟨by decide +kernel, rfl⟩
theorem d_ED_idleAt_30 : ez_br X_ED_idleAt 30 (.if_icmp .ne 6) 3 33 6 36 := ⟨by decide +kernel, rfl, rfl⟩
theorem d_ED_idleAt_33 : ez_at X_ED_idleAt 33 (.iload 4) 2 35 := ⟨by decide +kernel, rfl⟩
theorem d_ED_idleAt_35 : ez_at X_ED_idleAt 35 (.ireturn) 1 36 := ⟨by decide +kernel, rfl⟩
theorem d_ED_idleAt_36 : ez_at X_ED_idleAt 36 (.iinc 3 1) 3 39 := ⟨by decide +kernel, rfl⟩
theorem d_ED_idleAt_39 : ez_at X_ED_idleAt 39 (.iinc 4 1) 3 42 := ⟨by decide +kernel, rfl⟩
theorem d_ED_idleAt_42 : ez_br X_ED_idleAt 42 (.goto (-32)) 3 45 (-32) 10 := ⟨by decide +kernel, rfl, rfl⟩
theorem d_ED_idleAt_45 : ez_at X_ED_idleAt 45 (.iconst (-1)) 1 46 := ⟨by decide +kernel, rfl⟩
theorem d_ED_idleAt_46 : ez_at X_ED_idleAt 46 (.ireturn) 1 47 := ⟨by decide +kernel, rfl⟩
theorem d_ED_liveBlocks_0 : ez_at X_ED_liveBlocks 0 (.iconst 0) 1 1 := ⟨by decide +kernel, rfl⟩
theorem d_ED_liveBlocks_1 : ez_at X_ED_liveBlocks 1 (.istore_n 1) 1 2 := ⟨by decide +kernel, rfl⟩
theorem d_ED_liveBlocks_2 : ez_at X_ED_liveBlocks 2 (.iconst 0) 1 3 := ⟨by decide +kernel, rfl⟩
theorem d_ED_liveBlocks_3 : ez_at X_ED_liveBlocks 3 (.istore_n 2) 1 4 := ⟨by decide +kernel, rfl⟩
theorem d_ED_liveBlocks_4 : ez_at X_ED_liveBlocks 4 (.iload_n 2) 1 5 := ⟨by decide +kernel, rfl⟩
theorem d_ED_liveBlocks_5 : ez_at X_ED_liveBlocks 5 (.iconst 3) 1 6 := ⟨by decide +kernel, rfl⟩
theorem d_ED_liveBlocks_6 : ez_br X_ED_liveBlocks 6 (.if_icmp .ge 21) 3 9 21 27 := ⟨by decide +kernel, rfl, rfl⟩
theorem d_ED_liveBlocks_9 : ez_at X_ED_liveBlocks 9 (.iload_n 1) 1 10 := ⟨by decide +kernel, rfl⟩
theorem d_ED_liveBlocks_10 : ez_at X_ED_liveBlocks 10 (.aload_n 0) 1 11 := ⟨by decide +kernel, rfl⟩
theorem d_ED_liveBlocks_11 : ez_at X_ED_liveBlocks 11 (.getfield 27) 3 14 := ⟨by decide +kernel, rfl⟩
theorem d_ED_liveBlocks_14 : ez_at X_ED_liveBlocks 14 (.iload_n 2) 1 15 := ⟨by decide +kernel, rfl⟩
theorem d_ED_liveBlocks_15 : ez_at X_ED_liveBlocks 15 (.iaload) 1 16 := ⟨by decide +kernel, rfl⟩
theorem d_ED_liveBlocks_16 : ez_at X_ED_liveBlocks 16 (.invokestatic 68) 3 19 := ⟨by decide +kernel, rfl⟩
theorem d_ED_liveBlocks_19 : ez_at X_ED_liveBlocks 19 (.ior) 1 20 := ⟨by decide +kernel, rfl⟩
theorem d_ED_liveBlocks_20 : ez_at X_ED_liveBlocks 20 (.istore_n 1) 1 21 := ⟨by decide +kernel, rfl⟩
theorem d_ED_liveBlocks_21 : ez_at X_ED_liveBlocks 21 (.iinc 2 1) 3 24 := ⟨by decide +kernel, rfl⟩
theorem d_ED_liveBlocks_24 : ez_br X_ED_liveBlocks 24 (.goto (-20)) 3 27 (-20) 4 := ⟨by decide +kernel, rfl, rfl⟩
theorem d_ED_liveBlocks_27 : ez_at X_ED_liveBlocks 27 (.iconst 1) 1 28 := ⟨by decide +kernel, rfl⟩
theorem d_ED_liveBlocks_28 : ez_at X_ED_liveBlocks 28 (.istore_n 2) 1 29 := ⟨by decide +kernel, rfl⟩
theorem d_ED_liveBlocks_29 : ez_at X_ED_liveBlocks 29 (.iconst 0) 1 30 := ⟨by decide +kernel, rfl⟩
theorem d_ED_liveBlocks_30 : ez_at X_ED_liveBlocks 30 (.istore_n 3) 1 31 := ⟨by decide +kernel, rfl⟩
theorem d_ED_liveBlocks_31 : ez_at X_ED_liveBlocks 31 (.iload_n 3) 1 32 := ⟨by decide +kernel, rfl⟩
theorem d_ED_liveBlocks_32 : ez_at X_ED_liveBlocks 32 (.bipush 24) 2 34 := ⟨by decide +kernel, rfl⟩
theorem d_ED_liveBlocks_34 : ez_br X_ED_liveBlocks 34 (.if_icmp .ge 69) 3 37 69 103 := ⟨by decide +kernel, rfl, rfl⟩
theorem d_ED_liveBlocks_37 : ez_at X_ED_liveBlocks 37 (.iload_n 2) 1 38 := ⟨by decide +kernel, rfl⟩
theorem d_ED_liveBlocks_38 : ez_br X_ED_liveBlocks 38 (.ifCond .eq 65) 3 41 65 103 := ⟨by decide +kernel, rfl, rfl⟩
theorem d_ED_liveBlocks_41 : ez_at X_ED_liveBlocks 41 (.iload_n 1) 1 42 := ⟨by decide +kernel, rfl⟩
theorem d_ED_liveBlocks_42 : ez_at X_ED_liveBlocks 42 (.istore 4) 2 44 := ⟨by decide +kernel, rfl⟩
theorem d_ED_liveBlocks_44 : ez_at X_ED_liveBlocks 44 (.iconst 0) 1 45 := ⟨by decide +kernel, rfl⟩
theorem d_ED_liveBlocks_45 : ez_at X_ED_liveBlocks 45 (.istore 5) 2 47 := ⟨by decide +kernel, rfl⟩
theorem d_ED_liveBlocks_47 : ez_at X_ED_liveBlocks 47 (.iload 5) 2 49 := ⟨by decide +kernel, rfl⟩
theorem d_ED_liveBlocks_49 : ez_at X_ED_liveBlocks 49 (.aload_n 0) 1 50 := ⟨by decide +kernel, rfl⟩
theorem d_ED_liveBlocks_50 : ez_at X_ED_liveBlocks 50 (.getfield 36) 3 53 := ⟨by decide +kernel, rfl⟩
theorem d_ED_liveBlocks_53 : ez_br X_ED_liveBlocks 53 (.if_icmp .ge 32) 3 56 32 85 := ⟨by decide +kernel, rfl, rfl⟩
theorem d_ED_liveBlocks_56 : ez_at X_ED_liveBlocks 56 (.iload_n 1) 1 57 := ⟨by decide +kernel, rfl⟩
theorem d_ED_liveBlocks_57 : ez_at X_ED_liveBlocks 57 (.iload_n 1) 1 58 := ⟨by decide +kernel, rfl⟩
theorem d_ED_liveBlocks_58 : ez_at X_ED_liveBlocks 58 (.iload 5) 2 60 := ⟨by decide +kernel, rfl⟩
theorem d_ED_liveBlocks_60 : ez_at X_ED_liveBlocks 60 (.invokestatic 84) 3 63 := ⟨by decide +kernel, rfl⟩
theorem d_ED_liveBlocks_63 : ez_br X_ED_liveBlocks 63 (.ifCond .eq 13) 3 66 13 76 := ⟨by decide +kernel, rfl, rfl⟩
theorem d_ED_liveBlocks_66 : ez_at X_ED_liveBlocks 66 (.aload_n 0) 1 67 := ⟨by decide +kernel, rfl⟩
theorem d_ED_liveBlocks_67 : ez_at X_ED_liveBlocks 67 (.getfield 24) 3 70 := ⟨by decide +kernel, rfl⟩
theorem d_ED_liveBlocks_70 : ez_at X_ED_liveBlocks 70 (.iload 5) 2 72 := ⟨by decide +kernel, rfl⟩
theorem d_ED_liveBlocks_72 : ez_at X_ED_liveBlocks 72 (.iaload) 1 73 := ⟨by decide +kernel, rfl⟩
theorem d_ED_liveBlocks_73 : ez_br X_ED_liveBlocks 73 (.goto 4) 3 76 4 77 := ⟨by decide +kernel, rfl, rfl⟩
theorem d_ED_liveBlocks_76 : ez_at X_ED_liveBlocks 76 (.iconst 0) 1 77 := ⟨by decide +kernel, rfl⟩
theorem d_ED_liveBlocks_77 : ez_at X_ED_liveBlocks 77 (.ior) 1 78 := ⟨by decide +kernel, rfl⟩
theorem d_ED_liveBlocks_78 : ez_at X_ED_liveBlocks 78 (.istore_n 1) 1 79 := ⟨by decide +kernel, rfl⟩
theorem d_ED_liveBlocks_79 : ez_at X_ED_liveBlocks 79 (.iinc 5 1) 3 82 := ⟨by decide +kernel, rfl⟩
theorem d_ED_liveBlocks_82 : ez_br X_ED_liveBlocks 82 (.goto (-35)) 3 85 (-35) 47 := ⟨by decide +kernel, rfl, rfl⟩
theorem d_ED_liveBlocks_85 : ez_at X_ED_liveBlocks 85 (.iload_n 1) 1 86 := ⟨by decide +kernel, rfl⟩
theorem d_ED_liveBlocks_86 : ez_at X_ED_liveBlocks 86 (.iload 4) 2 88 := ⟨by decide +kernel, rfl⟩
theorem d_ED_liveBlocks_88 : ez_br X_ED_liveBlocks 88 (.if_icmp .eq 7) 3 91 7 95 := ⟨by decide +kernel, rfl, rfl⟩
theorem d_ED_liveBlocks_91 : ez_at X_ED_liveBlocks 91 (.iconst 1) 1 92 := ⟨by decide +kernel, rfl⟩
theorem d_ED_liveBlocks_92 : ez_br X_ED_liveBlocks 92 (.goto 4) 3 95 4 96 := ⟨by decide +kernel, rfl, rfl⟩
theorem d_ED_liveBlocks_95 : ez_at X_ED_liveBlocks 95 (.iconst 0) 1 96 := ⟨by decide +kernel, rfl⟩
theorem d_ED_liveBlocks_96 : ez_at X_ED_liveBlocks 96 (.istore_n 2) 1 97 := ⟨by decide +kernel, rfl⟩
theorem d_ED_liveBlocks_97 : ez_at X_ED_liveBlocks 97 (.iinc 3 1) 3 100 := ⟨by decide +kernel, rfl⟩
theorem d_ED_liveBlocks_100 : ez_br X_ED_liveBlocks 100 (.goto (-69)) 3 103 (-69) 31 := ⟨by decide +kernel, rfl, rfl⟩
theorem d_ED_liveBlocks_103 : ez_at X_ED_liveBlocks 103 (.iload_n 1) 1 104 := ⟨by decide +kernel, rfl⟩
theorem d_ED_liveBlocks_104 : ez_at X_ED_liveBlocks 104 (.ireturn) 1 105 := ⟨by decide +kernel, rfl⟩
end
section
theorem zz_end : True := trivial
end
