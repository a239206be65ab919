section
-- ===== PART A: goes FIRST, ahead of the names: the tables' words, and 'selects' of the private methods out of them =====
/-- a private method of a class that the tables say can be made, by its rows of tables_1 -/
def lw_okq (q : MethodName × Nat) : Prop := (q.1.cls ≠ "java/lang/invoke/MethodHandle" ∧ q.1.cls ≠ "java/lang/invoke/VarHandle") ∧ Cond.instantiable q.1.cls q.2 ∈ tables_1 ∧ Cond.privateMethod q.1 ∈ tables_1 ∧ Cond.instanceMethod q.1 ∈ tables_1
theorem lw_p0 : lw_okq (⟨"EditionEqual", "editionOf", "(I)LEditionEqual$Edition;"⟩, 9) := ⟨⟨by decide +kernel, by decide +kernel⟩, List.mem_of_getElem? (i := 17) (by decide +kernel), List.mem_of_getElem? (i := 229) (by decide +kernel), List.mem_of_getElem? (i := 230) (by decide +kernel)⟩
theorem lw_p1 : lw_okq (⟨"java/lang/Throwable", "fillInStackTrace", "(I)Ljava/lang/Throwable;"⟩, 6) := ⟨⟨by decide +kernel, by decide +kernel⟩, List.mem_of_getElem? (i := 276) (by decide +kernel), List.mem_of_getElem? (i := 274) (by decide +kernel), List.mem_of_getElem? (i := 275) (by decide +kernel)⟩
theorem lw_p2 : lw_okq (⟨"EditionEqual", "isNumberOfKind", "(II)Z"⟩, 9) := ⟨⟨by decide +kernel, by decide +kernel⟩, List.mem_of_getElem? (i := 17) (by decide +kernel), List.mem_of_getElem? (i := 306) (by decide +kernel), List.mem_of_getElem? (i := 307) (by decide +kernel)⟩
theorem lw_p3 : lw_okq (⟨"EditionEqual", "forgetAnswers", "()V"⟩, 9) := ⟨⟨by decide +kernel, by decide +kernel⟩, List.mem_of_getElem? (i := 17) (by decide +kernel), List.mem_of_getElem? (i := 331) (by decide +kernel), List.mem_of_getElem? (i := 332) (by decide +kernel)⟩
theorem lw_p4 : lw_okq (⟨"EditionEqual", "checkRow", "(I)V"⟩, 9) := ⟨⟨by decide +kernel, by decide +kernel⟩, List.mem_of_getElem? (i := 17) (by decide +kernel), List.mem_of_getElem? (i := 403) (by decide +kernel), List.mem_of_getElem? (i := 404) (by decide +kernel)⟩
theorem lw_p5 : lw_okq (⟨"EditionEqual$Edition", "firstUnwired", "()I"⟩, 10) := ⟨⟨by decide +kernel, by decide +kernel⟩, List.mem_of_getElem? (i := 31) (by decide +kernel), List.mem_of_getElem? (i := 419) (by decide +kernel), List.mem_of_getElem? (i := 420) (by decide +kernel)⟩
theorem lw_p6 : lw_okq (⟨"EditionEqual$Edition", "firstComingBack", "()I"⟩, 10) := ⟨⟨by decide +kernel, by decide +kernel⟩, List.mem_of_getElem? (i := 31) (by decide +kernel), List.mem_of_getElem? (i := 423) (by decide +kernel), List.mem_of_getElem? (i := 424) (by decide +kernel)⟩
theorem lw_p7 : lw_okq (⟨"EditionEqual", "behaviourOf", "(I)LEditionEqual$Behaviour;"⟩, 9) := ⟨⟨by decide +kernel, by decide +kernel⟩, List.mem_of_getElem? (i := 17) (by decide +kernel), List.mem_of_getElem? (i := 445) (by decide +kernel), List.mem_of_getElem? (i := 446) (by decide +kernel)⟩
theorem lw_p8 : lw_okq (⟨"EditionEqual", "openRows", "()I"⟩, 9) := ⟨⟨by decide +kernel, by decide +kernel⟩, List.mem_of_getElem? (i := 17) (by decide +kernel), List.mem_of_getElem? (i := 450) (by decide +kernel), List.mem_of_getElem? (i := 451) (by decide +kernel)⟩
theorem lw_p9 : lw_okq (⟨"EditionEqual$Behaviour", "orderBlocks", "()V"⟩, 13) := ⟨⟨by decide +kernel, by decide +kernel⟩, List.mem_of_getElem? (i := 72) (by decide +kernel), List.mem_of_getElem? (i := 462) (by decide +kernel), List.mem_of_getElem? (i := 463) (by decide +kernel)⟩
theorem lw_p10 : lw_okq (⟨"EditionEqual$Behaviour", "fillColumns", "(I)V"⟩, 13) := ⟨⟨by decide +kernel, by decide +kernel⟩, List.mem_of_getElem? (i := 72) (by decide +kernel), List.mem_of_getElem? (i := 473) (by decide +kernel), List.mem_of_getElem? (i := 474) (by decide +kernel)⟩
theorem lw_p11 : lw_okq (⟨"EditionEqual$Behaviour", "workOutColumn", "(II)I"⟩, 13) := ⟨⟨by decide +kernel, by decide +kernel⟩, List.mem_of_getElem? (i := 72) (by decide +kernel), List.mem_of_getElem? (i := 477) (by decide +kernel), List.mem_of_getElem? (i := 478) (by decide +kernel)⟩
theorem lw_p12 : lw_okq (⟨"EditionEqual$Behaviour", "columnAt", "(II)I"⟩, 13) := ⟨⟨by decide +kernel, by decide +kernel⟩, List.mem_of_getElem? (i := 72) (by decide +kernel), List.mem_of_getElem? (i := 486) (by decide +kernel), List.mem_of_getElem? (i := 487) (by decide +kernel)⟩
theorem lw_p13 : lw_okq (⟨"EditionEqual$Behaviour", "fillTicks", "(I)V"⟩, 13) := ⟨⟨by decide +kernel, by decide +kernel⟩, List.mem_of_getElem? (i := 72) (by decide +kernel), List.mem_of_getElem? (i := 497) (by decide +kernel), List.mem_of_getElem? (i := 498) (by decide +kernel)⟩
theorem lw_p14 : lw_okq (⟨"EditionEqual$Behaviour", "findReached", "(I)V"⟩, 13) := ⟨⟨by decide +kernel, by decide +kernel⟩, List.mem_of_getElem? (i := 72) (by decide +kernel), List.mem_of_getElem? (i := 510) (by decide +kernel), List.mem_of_getElem? (i := 511) (by decide +kernel)⟩
theorem lw_p15 : lw_okq (⟨"EditionEqual$Behaviour", "placeOf", "(II)I"⟩, 13) := ⟨⟨by decide +kernel, by decide +kernel⟩, List.mem_of_getElem? (i := 72) (by decide +kernel), List.mem_of_getElem? (i := 518) (by decide +kernel), List.mem_of_getElem? (i := 519) (by decide +kernel)⟩
def lw_privs_1 : List (MethodName × Nat) := [(⟨"EditionEqual", "editionOf", "(I)LEditionEqual$Edition;"⟩, 9), (⟨"java/lang/Throwable", "fillInStackTrace", "(I)Ljava/lang/Throwable;"⟩, 6), (⟨"EditionEqual", "isNumberOfKind", "(II)Z"⟩, 9), (⟨"EditionEqual", "forgetAnswers", "()V"⟩, 9), (⟨"EditionEqual", "checkRow", "(I)V"⟩, 9), (⟨"EditionEqual$Edition", "firstUnwired", "()I"⟩, 10), (⟨"EditionEqual$Edition", "firstComingBack", "()I"⟩, 10), (⟨"EditionEqual", "behaviourOf", "(I)LEditionEqual$Behaviour;"⟩, 9), (⟨"EditionEqual", "openRows", "()I"⟩, 9), (⟨"EditionEqual$Behaviour", "orderBlocks", "()V"⟩, 13), (⟨"EditionEqual$Behaviour", "fillColumns", "(I)V"⟩, 13), (⟨"EditionEqual$Behaviour", "workOutColumn", "(II)I"⟩, 13), (⟨"EditionEqual$Behaviour", "columnAt", "(II)I"⟩, 13), (⟨"EditionEqual$Behaviour", "fillTicks", "(I)V"⟩, 13), (⟨"EditionEqual$Behaviour", "findReached", "(I)V"⟩, 13), (⟨"EditionEqual$Behaviour", "placeOf", "(II)I"⟩, 13)]
theorem lw_r1 : ∀ q ∈ lw_privs_1, lw_okq q := List.forall_mem_cons.mpr ⟨lw_p0, List.forall_mem_cons.mpr ⟨lw_p1, List.forall_mem_cons.mpr ⟨lw_p2, List.forall_mem_cons.mpr ⟨lw_p3, List.forall_mem_cons.mpr ⟨lw_p4, List.forall_mem_cons.mpr ⟨lw_p5, List.forall_mem_cons.mpr ⟨lw_p6, List.forall_mem_cons.mpr ⟨lw_p7, List.forall_mem_cons.mpr ⟨lw_p8, List.forall_mem_cons.mpr ⟨lw_p9, List.forall_mem_cons.mpr ⟨lw_p10, List.forall_mem_cons.mpr ⟨lw_p11, List.forall_mem_cons.mpr ⟨lw_p12, List.forall_mem_cons.mpr ⟨lw_p13, List.forall_mem_cons.mpr ⟨lw_p14, List.forall_mem_cons.mpr ⟨lw_p15, fun _ h => absurd h List.not_mem_nil⟩⟩⟩⟩⟩⟩⟩⟩⟩⟩⟩⟩⟩⟩⟩⟩
theorem lw_p16 : lw_okq (⟨"EditionEqual$Behaviour", "partByOuts", "(I)I"⟩, 13) := ⟨⟨by decide +kernel, by decide +kernel⟩, List.mem_of_getElem? (i := 72) (by decide +kernel), List.mem_of_getElem? (i := 576) (by decide +kernel), List.mem_of_getElem? (i := 577) (by decide +kernel)⟩
theorem lw_p17 : lw_okq (⟨"EditionEqual$Behaviour", "partByKeys", "()I"⟩, 13) := ⟨⟨by decide +kernel, by decide +kernel⟩, List.mem_of_getElem? (i := 72) (by decide +kernel), List.mem_of_getElem? (i := 581) (by decide +kernel), List.mem_of_getElem? (i := 582) (by decide +kernel)⟩
theorem lw_p18 : lw_okq (⟨"EditionEqual$Behaviour", "firstLike", "(I)I"⟩, 13) := ⟨⟨by decide +kernel, by decide +kernel⟩, List.mem_of_getElem? (i := 72) (by decide +kernel), List.mem_of_getElem? (i := 585) (by decide +kernel), List.mem_of_getElem? (i := 586) (by decide +kernel)⟩
theorem lw_p19 : lw_okq (⟨"EditionEqual$Behaviour", "partByNextClass", "(I)I"⟩, 13) := ⟨⟨by decide +kernel, by decide +kernel⟩, List.mem_of_getElem? (i := 72) (by decide +kernel), List.mem_of_getElem? (i := 592) (by decide +kernel), List.mem_of_getElem? (i := 593) (by decide +kernel)⟩
theorem lw_p20 : lw_okq (⟨"EditionEqual", "searchOfBoth", "()LEditionEqual$PairSearch;"⟩, 9) := ⟨⟨by decide +kernel, by decide +kernel⟩, List.mem_of_getElem? (i := 17) (by decide +kernel), List.mem_of_getElem? (i := 603) (by decide +kernel), List.mem_of_getElem? (i := 604) (by decide +kernel)⟩
theorem lw_p21 : lw_okq (⟨"EditionEqual", "checkBothRight", "()V"⟩, 9) := ⟨⟨by decide +kernel, by decide +kernel⟩, List.mem_of_getElem? (i := 17) (by decide +kernel), List.mem_of_getElem? (i := 607) (by decide +kernel), List.mem_of_getElem? (i := 608) (by decide +kernel)⟩
theorem lw_p22 : lw_okq (⟨"EditionEqual$PairSearch", "meet", "(IIII)V"⟩, 13) := ⟨⟨by decide +kernel, by decide +kernel⟩, List.mem_of_getElem? (i := 118) (by decide +kernel), List.mem_of_getElem? (i := 617) (by decide +kernel), List.mem_of_getElem? (i := 618) (by decide +kernel)⟩
theorem lw_p23 : lw_okq (⟨"EditionEqual$PairSearch", "goOnFrom", "(II)V"⟩, 13) := ⟨⟨by decide +kernel, by decide +kernel⟩, List.mem_of_getElem? (i := 118) (by decide +kernel), List.mem_of_getElem? (i := 624) (by decide +kernel), List.mem_of_getElem? (i := 625) (by decide +kernel)⟩
theorem lw_p24 : lw_okq (⟨"EditionEqual$PairSearch", "keepShown", "(II)V"⟩, 13) := ⟨⟨by decide +kernel, by decide +kernel⟩, List.mem_of_getElem? (i := 118) (by decide +kernel), List.mem_of_getElem? (i := 629) (by decide +kernel), List.mem_of_getElem? (i := 630) (by decide +kernel)⟩
theorem lw_p25 : lw_okq (⟨"EditionEqual$Matching", "matchBoth", "(II)Z"⟩, 6) := ⟨⟨by decide +kernel, by decide +kernel⟩, List.mem_of_getElem? (i := 164) (by decide +kernel), List.mem_of_getElem? (i := 686) (by decide +kernel), List.mem_of_getElem? (i := 687) (by decide +kernel)⟩
theorem lw_p26 : lw_okq (⟨"EditionEqual$Matching", "areOfOneSort", "(II)Z"⟩, 6) := ⟨⟨by decide +kernel, by decide +kernel⟩, List.mem_of_getElem? (i := 164) (by decide +kernel), List.mem_of_getElem? (i := 691) (by decide +kernel), List.mem_of_getElem? (i := 692) (by decide +kernel)⟩
theorem lw_p27 : lw_okq (⟨"EditionEqual$Edition", "liveBlocks", "()I"⟩, 10) := ⟨⟨by decide +kernel, by decide +kernel⟩, List.mem_of_getElem? (i := 31) (by decide +kernel), List.mem_of_getElem? (i := 722) (by decide +kernel), List.mem_of_getElem? (i := 723) (by decide +kernel)⟩
theorem lw_p28 : lw_okq (⟨"EditionEqualModel", "delays", "(I)I"⟩, 22) := ⟨⟨by decide +kernel, by decide +kernel⟩, List.mem_of_getElem? (i := 734) (by decide +kernel), List.mem_of_getElem? (i := 819) (by decide +kernel), List.mem_of_getElem? (i := 820) (by decide +kernel)⟩
theorem lw_p29 : lw_okq (⟨"EditionEqualModel", "goes", "(ZZ)Z"⟩, 22) := ⟨⟨by decide +kernel, by decide +kernel⟩, List.mem_of_getElem? (i := 734) (by decide +kernel), List.mem_of_getElem? (i := 823) (by decide +kernel), List.mem_of_getElem? (i := 824) (by decide +kernel)⟩
theorem lw_p30 : lw_okq (⟨"EditionEqualModel", "isBlock", "(II)Z"⟩, 22) := ⟨⟨by decide +kernel, by decide +kernel⟩, List.mem_of_getElem? (i := 734) (by decide +kernel), List.mem_of_getElem? (i := 831) (by decide +kernel), List.mem_of_getElem? (i := 832) (by decide +kernel)⟩
theorem lw_p31 : lw_okq (⟨"EditionEqualModel", "input", "(III)I"⟩, 22) := ⟨⟨by decide +kernel, by decide +kernel⟩, List.mem_of_getElem? (i := 734) (by decide +kernel), List.mem_of_getElem? (i := 835) (by decide +kernel), List.mem_of_getElem? (i := 836) (by decide +kernel)⟩
def lw_privs_2 : List (MethodName × Nat) := [(⟨"EditionEqual$Behaviour", "partByOuts", "(I)I"⟩, 13), (⟨"EditionEqual$Behaviour", "partByKeys", "()I"⟩, 13), (⟨"EditionEqual$Behaviour", "firstLike", "(I)I"⟩, 13), (⟨"EditionEqual$Behaviour", "partByNextClass", "(I)I"⟩, 13), (⟨"EditionEqual", "searchOfBoth", "()LEditionEqual$PairSearch;"⟩, 9), (⟨"EditionEqual", "checkBothRight", "()V"⟩, 9), (⟨"EditionEqual$PairSearch", "meet", "(IIII)V"⟩, 13), (⟨"EditionEqual$PairSearch", "goOnFrom", "(II)V"⟩, 13), (⟨"EditionEqual$PairSearch", "keepShown", "(II)V"⟩, 13), (⟨"EditionEqual$Matching", "matchBoth", "(II)Z"⟩, 6), (⟨"EditionEqual$Matching", "areOfOneSort", "(II)Z"⟩, 6), (⟨"EditionEqual$Edition", "liveBlocks", "()I"⟩, 10), (⟨"EditionEqualModel", "delays", "(I)I"⟩, 22), (⟨"EditionEqualModel", "goes", "(ZZ)Z"⟩, 22), (⟨"EditionEqualModel", "isBlock", "(II)Z"⟩, 22), (⟨"EditionEqualModel", "input", "(III)I"⟩, 22)]
theorem lw_r2 : ∀ q ∈ lw_privs_2, lw_okq q := List.forall_mem_cons.mpr ⟨lw_p16, List.forall_mem_cons.mpr ⟨lw_p17, List.forall_mem_cons.mpr ⟨lw_p18, List.forall_mem_cons.mpr ⟨lw_p19, List.forall_mem_cons.mpr ⟨lw_p20, List.forall_mem_cons.mpr ⟨lw_p21, List.forall_mem_cons.mpr ⟨lw_p22, List.forall_mem_cons.mpr ⟨lw_p23, List.forall_mem_cons.mpr ⟨lw_p24, List.forall_mem_cons.mpr ⟨lw_p25, List.forall_mem_cons.mpr ⟨lw_p26, List.forall_mem_cons.mpr ⟨lw_p27, List.forall_mem_cons.mpr ⟨lw_p28, List.forall_mem_cons.mpr ⟨lw_p29, List.forall_mem_cons.mpr ⟨lw_p30, List.forall_mem_cons.mpr ⟨lw_p31, fun _ h => absurd h List.not_mem_nil⟩⟩⟩⟩⟩⟩⟩⟩⟩⟩⟩⟩⟩⟩⟩⟩
theorem lw_p32 : lw_okq (⟨"EditionEqualModel", "isRow", "(I)Z"⟩, 22) := ⟨⟨by decide +kernel, by decide +kernel⟩, List.mem_of_getElem? (i := 734) (by decide +kernel), List.mem_of_getElem? (i := 847) (by decide +kernel), List.mem_of_getElem? (i := 848) (by decide +kernel)⟩
theorem lw_p33 : lw_okq (⟨"EditionEqualModel", "fault", "(I)I"⟩, 22) := ⟨⟨by decide +kernel, by decide +kernel⟩, List.mem_of_getElem? (i := 734) (by decide +kernel), List.mem_of_getElem? (i := 855) (by decide +kernel), List.mem_of_getElem? (i := 856) (by decide +kernel)⟩
theorem lw_p34 : lw_okq (⟨"EditionEqualModel", "isRound", "(II)Z"⟩, 22) := ⟨⟨by decide +kernel, by decide +kernel⟩, List.mem_of_getElem? (i := 734) (by decide +kernel), List.mem_of_getElem? (i := 862) (by decide +kernel), List.mem_of_getElem? (i := 863) (by decide +kernel)⟩
theorem lw_p35 : lw_okq (⟨"EditionEqualModel", "mark", "(II)Z"⟩, 22) := ⟨⟨by decide +kernel, by decide +kernel⟩, List.mem_of_getElem? (i := 734) (by decide +kernel), List.mem_of_getElem? (i := 866) (by decide +kernel), List.mem_of_getElem? (i := 867) (by decide +kernel)⟩
theorem lw_p36 : lw_okq (⟨"EditionEqualModel", "isRight", "(I)Z"⟩, 22) := ⟨⟨by decide +kernel, by decide +kernel⟩, List.mem_of_getElem? (i := 734) (by decide +kernel), List.mem_of_getElem? (i := 874) (by decide +kernel), List.mem_of_getElem? (i := 875) (by decide +kernel)⟩
theorem lw_p37 : lw_okq (⟨"EditionEqualModel", "settle", "(III)V"⟩, 22) := ⟨⟨by decide +kernel, by decide +kernel⟩, List.mem_of_getElem? (i := 734) (by decide +kernel), List.mem_of_getElem? (i := 878) (by decide +kernel), List.mem_of_getElem? (i := 879) (by decide +kernel)⟩
theorem lw_p38 : lw_okq (⟨"EditionEqualModel", "reckon", "(II)I"⟩, 22) := ⟨⟨by decide +kernel, by decide +kernel⟩, List.mem_of_getElem? (i := 734) (by decide +kernel), List.mem_of_getElem? (i := 882) (by decide +kernel), List.mem_of_getElem? (i := 883) (by decide +kernel)⟩
theorem lw_p39 : lw_okq (⟨"EditionEqualModel", "answer", "(III)I"⟩, 22) := ⟨⟨by decide +kernel, by decide +kernel⟩, List.mem_of_getElem? (i := 734) (by decide +kernel), List.mem_of_getElem? (i := 890) (by decide +kernel), List.mem_of_getElem? (i := 891) (by decide +kernel)⟩
theorem lw_p40 : lw_okq (⟨"EditionEqualModel", "explore", "(I)V"⟩, 22) := ⟨⟨by decide +kernel, by decide +kernel⟩, List.mem_of_getElem? (i := 734) (by decide +kernel), List.mem_of_getElem? (i := 898) (by decide +kernel), List.mem_of_getElem? (i := 899) (by decide +kernel)⟩
theorem lw_p41 : lw_okq (⟨"EditionEqualModel", "reachedCount", "(I)I"⟩, 22) := ⟨⟨by decide +kernel, by decide +kernel⟩, List.mem_of_getElem? (i := 734) (by decide +kernel), List.mem_of_getElem? (i := 902) (by decide +kernel), List.mem_of_getElem? (i := 903) (by decide +kernel)⟩
theorem lw_p42 : lw_okq (⟨"EditionEqualModel", "tells", "(III)Z"⟩, 22) := ⟨⟨by decide +kernel, by decide +kernel⟩, List.mem_of_getElem? (i := 734) (by decide +kernel), List.mem_of_getElem? (i := 914) (by decide +kernel), List.mem_of_getElem? (i := 915) (by decide +kernel)⟩
theorem lw_p43 : lw_okq (⟨"EditionEqualModel", "areRight", "()Z"⟩, 22) := ⟨⟨by decide +kernel, by decide +kernel⟩, List.mem_of_getElem? (i := 734) (by decide +kernel), List.mem_of_getElem? (i := 922) (by decide +kernel), List.mem_of_getElem? (i := 923) (by decide +kernel)⟩
theorem lw_p44 : lw_okq (⟨"EditionEqualModel", "goOver", "()V"⟩, 22) := ⟨⟨by decide +kernel, by decide +kernel⟩, List.mem_of_getElem? (i := 734) (by decide +kernel), List.mem_of_getElem? (i := 926) (by decide +kernel), List.mem_of_getElem? (i := 927) (by decide +kernel)⟩
theorem lw_p45 : lw_okq (⟨"EditionEqualModel", "meet", "(III)V"⟩, 22) := ⟨⟨by decide +kernel, by decide +kernel⟩, List.mem_of_getElem? (i := 734) (by decide +kernel), List.mem_of_getElem? (i := 930) (by decide +kernel), List.mem_of_getElem? (i := 931) (by decide +kernel)⟩
theorem lw_p46 : lw_okq (⟨"EditionEqualModel", "shownCount", "()I"⟩, 22) := ⟨⟨by decide +kernel, by decide +kernel⟩, List.mem_of_getElem? (i := 734) (by decide +kernel), List.mem_of_getElem? (i := 934) (by decide +kernel), List.mem_of_getElem? (i := 935) (by decide +kernel)⟩
theorem lw_p47 : lw_okq (⟨"EditionEqualModel", "areSame", "()Z"⟩, 22) := ⟨⟨by decide +kernel, by decide +kernel⟩, List.mem_of_getElem? (i := 734) (by decide +kernel), List.mem_of_getElem? (i := 954) (by decide +kernel), List.mem_of_getElem? (i := 955) (by decide +kernel)⟩
def lw_privs_3 : List (MethodName × Nat) := [(⟨"EditionEqualModel", "isRow", "(I)Z"⟩, 22), (⟨"EditionEqualModel", "fault", "(I)I"⟩, 22), (⟨"EditionEqualModel", "isRound", "(II)Z"⟩, 22), (⟨"EditionEqualModel", "mark", "(II)Z"⟩, 22), (⟨"EditionEqualModel", "isRight", "(I)Z"⟩, 22), (⟨"EditionEqualModel", "settle", "(III)V"⟩, 22), (⟨"EditionEqualModel", "reckon", "(II)I"⟩, 22), (⟨"EditionEqualModel", "answer", "(III)I"⟩, 22), (⟨"EditionEqualModel", "explore", "(I)V"⟩, 22), (⟨"EditionEqualModel", "reachedCount", "(I)I"⟩, 22), (⟨"EditionEqualModel", "tells", "(III)Z"⟩, 22), (⟨"EditionEqualModel", "areRight", "()Z"⟩, 22), (⟨"EditionEqualModel", "goOver", "()V"⟩, 22), (⟨"EditionEqualModel", "meet", "(III)V"⟩, 22), (⟨"EditionEqualModel", "shownCount", "()I"⟩, 22), (⟨"EditionEqualModel", "areSame", "()Z"⟩, 22)]
theorem lw_r3 : ∀ q ∈ lw_privs_3, lw_okq q := List.forall_mem_cons.mpr ⟨lw_p32, List.forall_mem_cons.mpr ⟨lw_p33, List.forall_mem_cons.mpr ⟨lw_p34, List.forall_mem_cons.mpr ⟨lw_p35, List.forall_mem_cons.mpr ⟨lw_p36, List.forall_mem_cons.mpr ⟨lw_p37, List.forall_mem_cons.mpr ⟨lw_p38, List.forall_mem_cons.mpr ⟨lw_p39, List.forall_mem_cons.mpr ⟨lw_p40, List.forall_mem_cons.mpr ⟨lw_p41, List.forall_mem_cons.mpr ⟨lw_p42, List.forall_mem_cons.mpr ⟨lw_p43, List.forall_mem_cons.mpr ⟨lw_p44, List.forall_mem_cons.mpr ⟨lw_p45, List.forall_mem_cons.mpr ⟨lw_p46, List.forall_mem_cons.mpr ⟨lw_p47, fun _ h => absurd h List.not_mem_nil⟩⟩⟩⟩⟩⟩⟩⟩⟩⟩⟩⟩⟩⟩⟩⟩
theorem lw_p48 : lw_okq (⟨"EditionEqualModel", "areSingle", "()Z"⟩, 22) := ⟨⟨by decide +kernel, by decide +kernel⟩, List.mem_of_getElem? (i := 734) (by decide +kernel), List.mem_of_getElem? (i := 958) (by decide +kernel), List.mem_of_getElem? (i := 959) (by decide +kernel)⟩
def lw_privs_4 : List (MethodName × Nat) := [(⟨"EditionEqualModel", "areSingle", "()Z"⟩, 22)]
theorem lw_r4 : ∀ q ∈ lw_privs_4, lw_okq q := List.forall_mem_cons.mpr ⟨lw_p48, fun _ h => absurd h List.not_mem_nil⟩
def lw_privs : List (MethodName × Nat) := lw_privs_1 ++ (lw_privs_2 ++ (lw_privs_3 ++ (lw_privs_4)))
def lw_tbl : List Cond := k2_sels lw_privs ++ tables_1
theorem lw_privs_ok : ∀ q ∈ lw_privs, lw_okq q := by
  show ∀ q ∈ lw_privs_1 ++ (lw_privs_2 ++ (lw_privs_3 ++ (lw_privs_4))), lw_okq q
  exact List.forall_mem_append.mpr ⟨lw_r1, List.forall_mem_append.mpr ⟨lw_r2, List.forall_mem_append.mpr ⟨lw_r3, lw_r4⟩⟩⟩
end
section
/-! the laws of exceptions, out of the printed names of this claim (claim/NAMES.whole.lean.txt) -/
section
def vx_T (XC : String → State → State → Prop) (st : State) (q : Addr) (t : State) (mc ms : Nat) (free : Addr → Prop) : Prop :=
  ∃ (E : String) (ce : Cell) (L : List Loc), XC E st t ∧ t.heap[q]? = some ce ∧ ce.vm = .none ∧ st.vm.findClass E = some ce.cls ∧ st.WarmedH t.vm ∧ st.sameButNew ({ t with vm := st.vm } : State) L mc ms ∧ ∀ z ∈ L, free z.base
end
section
def vx_Q (Qc : Array Value → State → Outcome → State → Prop) (XC : String → State → State → Prop) (mc ms : Nat) (free : Addr → Prop) : Array Value → State → Outcome → State → Prop := fun a st o t =>
  (Qc a st o t ∧ ∃ L, FrameEnd st o t L mc ms ∧ ∀ q ∈ L, free q.base) ∨ ∃ q, o = .threw q ∧ vx_T XC st q t mc ms free
end
section
def vx_W (p : Program) (l : Launch) (e : Env) (R : Room) (s : State) (m : MethodId) (args : Array Value) (below : List Frame) (meth : Method) (c : Code) (H : Heap) (locs : List Loc) (cells slots : Nat) (Q : State → Prop) (g : JFrame) (q : Addr) : Prop :=
  ∀ T : State, T.heap = H → Stand p l e R s m args below meth c T locs cells slots → ∃ t, Steps p.tables e below ((T.setTop g).pushFrame (.throwing q)) t ∧ Q t
end
section
variable {p : Program} {l : Launch} {e : Env} {R : Room} {s : State} {m : MethodId} {args : Array Value} {below : List Frame} {meth : Method} {c : Code} {H : Heap} {locs : List Loc} {cells slots : Nat} {Q : State → Prop}
variable {mc ms : Nat} {free : Addr → Prop} {A0 A1 : Nat → Prop} {H0 : Heap} {a : Array Value} {pc : Nat} {ls : Array Slot} {st0 rest : List Value}
theorem vx_catch {own name : String} {E : String} {ce : Cell} {q : Addr} (hown : s.vm.findClass own = some m.cls) (pre : List ExceptionTableEntry) (x : ExceptionTableEntry) (suf : List ExceptionTableEntry) (hsplit : c.exceptionTable.toList = pre ++ x :: suf)
    (hpass : ∀ z ∈ pre, covers z pc = false ∨ (z.catchType ≠ 0 ∧ ∃ nm : String, (Cond.classLink own z.catchType nm).before args s = true ∧ va_Nc E nm s)) (hx : covers x pc = true) (h0 : x.catchType ≠ 0)
    (hlink : (Cond.classLink own x.catchType name).before args s = true) (hcast : (Cond.castable E name).before args s = true) (hcell : H[q]? = some ce) (hv : ce.vm = .none) (hcl : s.vm.findClass E = some ce.cls)
    (kk : W p l e R s m args below meth c H locs cells slots Q (F0 m x.handlerPc ls [.ref q])) : vx_W p l e R s m args below meth c H locs cells slots Q (F0 m pc ls rest) q := by
  intro T hT X
  have hpl : e.platform.magicAccessors = ({} : Platform).magicAccessors := by rw [X.admits.platform]
  obtain ⟨c3, c4, hc3, hc4, hasg⟩ := Cond.castable_spec hcast
  cases Option.some.inj (hc3.symm.trans hcl)
  obtain ⟨c5, hc5, hcl5⟩ := Cond.classLink_spec hown hlink e.platform hpl
  cases Option.some.inj (hc4.symm.trans hc5)
  obtain ⟨vm', X', st⟩ := X.thenCaughtThrough q (g := F0 m pc ls rest) rfl (Steps.refl _) (by rw [hT]; exact hcell) (by rw [hv]; rfl) (by obtain ⟨k9, h9, -⟩ := Vm.findClass_spec hcl; exact ⟨k9, h9⟩) pre x suf hsplit
    (fun z hz => by
      rcases hpass z hz with h | ⟨hz0, nm, hl1, hn1⟩
      · exact Or.inl h
      · obtain ⟨c6, hc6, hcl6⟩ := Cond.classLink_spec hown hl1 e.platform hpl
        obtain ⟨a8, b8, h1, h2, h3⟩ := hn1
        cases Option.some.inj (h1.symm.trans hcl)
        cases Option.some.inj (h2.symm.trans hc6)
        exact Or.inr ⟨hz0, _, hcl6, h3⟩) hx (Or.inr ⟨h0, c4, hcl5, hasg⟩)
  obtain ⟨t, a1, b1⟩ := kk (T.setVm vm') hT X'
  exact ⟨t, st.trans a1, b1⟩
end
section
variable {p : Program} {l : Launch} {e : Env} {R : Room} {s : State} {m : MethodId} {args : Array Value} {below : List Frame} {meth : Method} {c : Code} {H : Heap} {locs : List Loc} {cells slots : Nat} {Q : State → Prop}
variable {mc ms : Nat} {free : Addr → Prop} {A0 A1 : Nat → Prop} {H0 : Heap} {a : Array Value} {ls : Array Slot} {st0 rest : List Value}
variable {Qc : Array Value → State → Outcome → State → Prop} {XC : String → State → State → Prop}
def vx_MQ (below : List Frame) (Qc : Array Value → State → Outcome → State → Prop) (XC : String → State → State → Prop) (a : Array Value) (s : State) (mc ms : Nat) (free : Addr → Prop) : State → Prop := fun t =>
  ∃ o, t.status = .running ∧ Ended t below o ∧ vx_Q Qc XC mc ms free a s o t
end
section
variable {p : Program} {l : Launch} {e : Env} {R : Room} {s : State} {m : MethodId} {args : Array Value} {below : List Frame} {meth : Method} {c : Code} {H : Heap} {locs : List Loc} {cells slots : Nat} {Q : State → Prop}
variable {mc ms : Nat} {free : Addr → Prop} {A0 A1 : Nat → Prop} {H0 : Heap} {a : Array Value} {ls : Array Slot} {st0 rest : List Value}
variable {Qc : Array Value → State → Outcome → State → Prop} {XC : String → State → State → Prop}
theorem vx_frame {U : State} {k n : Nat} (h : s.sameButNew ({ U with vm := s.vm } : State) locs k n) : s.heap.size ≤ U.heap.size ∧ ∀ q : Nat, q < s.heap.size → (∀ z ∈ locs, z.base ≠ q) → U.heap[q]? = s.heap[q]? := by
  obtain ⟨-, h2, -, -, -, h6⟩ := h
  refine ⟨h2, fun q hq hz => ?_⟩
  obtain ⟨c9, e1, e2, e3, e4⟩ := h6 q _ (Array.getElem?_eq_getElem hq)
  have hs : c9.slots = (s.heap[q]).slots := Array.ext_getElem? fun i => e4 i fun hm => hz _ hm rfl
  have h9 : c9 = s.heap[q] := by
    rw [hs] at e2
    exact e2
  have e5 : U.heap[q]? = some c9 := e1
  rw [e5, h9, Array.getElem?_eq_getElem hq]
end
section
variable {p : Program} {l : Launch} {e : Env} {R : Room} {s : State} {m : MethodId} {args : Array Value} {below : List Frame} {meth : Method} {c : Code} {H : Heap} {locs : List Loc} {cells slots : Nat} {Q : State → Prop}
variable {mc ms : Nat} {free : Addr → Prop} {A0 A1 : Nat → Prop} {H0 : Heap} {a : Array Value} {ls : Array Slot} {st0 rest : List Value}
variable {Qc : Array Value → State → Outcome → State → Prop} {XC : String → State → State → Prop}
def vx_no (w : Cond) : Bool := decide (w ≠ .isRef (.static Bundle.tN "UNASSIGNED_STACK" Bundle.steD)) && decide (w ≠ .isRef (.static Bundle.tN "SUPPRESSED_SENTINEL" Bundle.listD)) && decide (w ≠ .laysStatic Bundle.tN "UNASSIGNED_STACK" Bundle.steD) && decide (w ≠ .laysStatic Bundle.tN "SUPPRESSED_SENTINEL" Bundle.listD)
end
section
variable {p : Program} {l : Launch} {e : Env} {R : Room} {s : State} {m : MethodId} {args : Array Value} {below : List Frame} {meth : Method} {c : Code} {H : Heap} {locs : List Loc} {cells slots : Nat} {Q : State → Prop}
variable {mc ms : Nat} {free : Addr → Prop} {A0 A1 : Nat → Prop} {H0 : Heap} {a : Array Value} {ls : Array Slot} {st0 rest : List Value}
variable {Qc : Array Value → State → Outcome → State → Prop} {XC : String → State → State → Prop}
def vx_atS (own : String) (ic : Nat) (X : String) (names : List String) : List Cond := (Bundle.ownAtoms own ic X names).filter vx_no
end
section
variable {p : Program} {l : Launch} {e : Env} {R : Room} {s : State} {m : MethodId} {args : Array Value} {below : List Frame} {meth : Method} {c : Code} {H : Heap} {locs : List Loc} {cells slots : Nat} {Q : State → Prop}
variable {mc ms : Nat} {free : Addr → Prop} {A0 A1 : Nat → Prop} {H0 : Heap} {a : Array Value} {ls : Array Slot} {st0 rest : List Value}
variable {Qc : Array Value → State → Outcome → State → Prop} {XC : String → State → State → Prop}
def vx_ot (w : Cond) : Bool := w.onTables || goodWord w
end
section
variable {p : Program} {l : Launch} {e : Env} {R : Room} {s : State} {m : MethodId} {args : Array Value} {below : List Frame} {meth : Method} {c : Code} {H : Heap} {locs : List Loc} {cells slots : Nat} {Q : State → Prop}
variable {mc ms : Nat} {free : Addr → Prop} {A0 A1 : Nat → Prop} {H0 : Heap} {a : Array Value} {ls : Array Slot} {st0 rest : List Value}
variable {Qc : Array Value → State → Outcome → State → Prop} {XC : String → State → State → Prop}
theorem vx_ot_at {args a' : Array Value} {s U : State} {w : Cond} (hW : s.WarmedH U.vm) (hvm : s.vm = U.vm) (hg : vx_ot w = true) (h : w.before args s = true) : w.before a' U = true := by
  simp only [vx_ot, Bool.or_eq_true] at hg
  rcases hg with hg | hg
  · exact va_tabs hg hvm h
  · exact word_at hW (good_of_word hg) h
end
section
variable {p : Program} {l : Launch} {e : Env} {R : Room} {s : State} {m : MethodId} {args : Array Value} {below : List Frame} {meth : Method} {c : Code} {H : Heap} {locs : List Loc} {cells slots : Nat} {Q : State → Prop}
variable {mc ms : Nat} {free : Addr → Prop} {A0 A1 : Nat → Prop} {H0 : Heap} {a : Array Value} {ls : Array Slot} {st0 rest : List Value}
variable {Qc : Array Value → State → Outcome → State → Prop} {XC : String → State → State → Prop}
theorem vx_own {args : Array Value} {s : State} {L : List Cond} (h1 : ∀ w ∈ L.filter vx_no, w.before args s = true)
    (hU : (Cond.isRef (.static Bundle.tN "UNASSIGNED_STACK" Bundle.steD)).before args s = true) (hN : (Cond.isRef (.static Bundle.tN "SUPPRESSED_SENTINEL" Bundle.listD)).before args s = true)
    (lU : (Cond.laysStatic Bundle.tN "UNASSIGNED_STACK" Bundle.steD).before args s = true) (lN : (Cond.laysStatic Bundle.tN "SUPPRESSED_SENTINEL" Bundle.listD).before args s = true) : ∀ w ∈ L, w.before args s = true := by
  intro w hw
  by_cases e1 : w = .isRef (.static Bundle.tN "UNASSIGNED_STACK" Bundle.steD)
  · rw [e1]; exact hU
  · by_cases e2 : w = .isRef (.static Bundle.tN "SUPPRESSED_SENTINEL" Bundle.listD)
    · rw [e2]; exact hN
    · by_cases e3 : w = .laysStatic Bundle.tN "UNASSIGNED_STACK" Bundle.steD
      · rw [e3]; exact lU
      · by_cases e4 : w = .laysStatic Bundle.tN "SUPPRESSED_SENTINEL" Bundle.listD
        · rw [e4]; exact lN
        · exact h1 w (List.mem_filter.mpr ⟨hw, by unfold vx_no; rw [decide_eq_true e1, decide_eq_true e2, decide_eq_true e3, decide_eq_true e4]; rfl⟩)
end
section
variable {p : Program} {l : Launch} {e : Env} {R : Room} {s : State} {m : MethodId} {args : Array Value} {below : List Frame} {meth : Method} {c : Code} {H : Heap} {locs : List Loc} {cells slots : Nat} {Q : State → Prop}
variable {mc ms : Nat} {free : Addr → Prop} {A0 A1 : Nat → Prop} {H0 : Heap} {a : Array Value} {ls : Array Slot} {st0 rest : List Value}
variable {Qc : Array Value → State → Outcome → State → Prop} {XC : String → State → State → Prop}
def vx_L (C n d : String) (A : Nat → Prop) (U : State) (H : Heap) : Prop := ∃ (c : ClassId) (k : Class) (i : Nat) (f : Field) (a : Nat) (cell : Cell), U.vm.findClass C = some c ∧ U.fieldFound? C n d = some (c, k, i, f) ∧ f.isStatic = true ∧ k.statics = some a ∧ H[a]? = some cell ∧ cell.vm.isStatics = true ∧ cell.cls = c ∧ f.slot < cell.slots.size ∧ k.staticTypes[f.slot]? = some f.type ∧ ¬ A a
end
section
variable {p : Program} {l : Launch} {e : Env} {R : Room} {s : State} {m : MethodId} {args : Array Value} {below : List Frame} {meth : Method} {c : Code} {H : Heap} {locs : List Loc} {cells slots : Nat} {Q : State → Prop}
variable {mc ms : Nat} {free : Addr → Prop} {A0 A1 : Nat → Prop} {H0 : Heap} {a : Array Value} {ls : Array Slot} {st0 rest : List Value}
variable {Qc : Array Value → State → Outcome → State → Prop} {XC : String → State → State → Prop}
theorem vx_L.moved {C n d : String} {A : Nat → Prop} {u U : State} {H : Heap} (hvm : u.vm.Alike U.vm) (h : vx_L C n d A u H) : vx_L C n d A U H := by
  obtain ⟨c, k, i, f, a, cell, h1, h2, h3, h4, h5, h6, h7, h8, h9, h10⟩ := h
  obtain ⟨k', hi', he⟩ := State.fieldFound?_setVm hvm h2
  exact ⟨c, k', i, f, a, cell, by rw [hvm.findClass]; exact h1, hi', h3, by rw [he]; exact h4, h5, h6, h7, h8, by rw [he]; exact h9, h10⟩
end
section
variable {p : Program} {l : Launch} {e : Env} {R : Room} {s : State} {m : MethodId} {args : Array Value} {below : List Frame} {meth : Method} {c : Code} {H : Heap} {locs : List Loc} {cells slots : Nat} {Q : State → Prop}
variable {mc ms : Nat} {free : Addr → Prop} {A0 A1 : Nat → Prop} {H0 : Heap} {a : Array Value} {ls : Array Slot} {st0 rest : List Value}
variable {Qc : Array Value → State → Outcome → State → Prop} {XC : String → State → State → Prop}
theorem vx_L.kept {C n d : String} {A : Nat → Prop} {U : State} {H H1 : Heap} (h : vx_L C n d A U H) (hq : ∀ a : Nat, a < H.size → ¬ A a → H1[a]? = H[a]?) : vx_L C n d A U H1 := by
  obtain ⟨c, k, i, f, a, cell, h1, h2, h3, h4, h5, h6, h7, h8, h9, h10⟩ := h
  exact ⟨c, k, i, f, a, cell, h1, h2, h3, h4, by rw [hq a (Array.getElem?_eq_some_iff.mp h5).1 h10]; exact h5, h6, h7, h8, h9, h10⟩
end
section
variable {p : Program} {l : Launch} {e : Env} {R : Room} {s : State} {m : MethodId} {args : Array Value} {below : List Frame} {meth : Method} {c : Code} {H : Heap} {locs : List Loc} {cells slots : Nat} {Q : State → Prop}
variable {mc ms : Nat} {free : Addr → Prop} {A0 A1 : Nat → Prop} {H0 : Heap} {a : Array Value} {ls : Array Slot} {st0 rest : List Value}
variable {Qc : Array Value → State → Outcome → State → Prop} {XC : String → State → State → Prop}
theorem vx_L.narrow {C n d : String} {A B : Nat → Prop} {U : State} {H : Heap} (h : vx_L C n d A U H) (hAB : ∀ q, B q → A q) : vx_L C n d B U H := by
  obtain ⟨c, k, i, f, a, cell, h1, h2, h3, h4, h5, h6, h7, h8, h9, h10⟩ := h
  exact ⟨c, k, i, f, a, cell, h1, h2, h3, h4, h5, h6, h7, h8, h9, fun z => h10 (hAB _ z)⟩
end
section
variable {p : Program} {l : Launch} {e : Env} {R : Room} {s : State} {m : MethodId} {args : Array Value} {below : List Frame} {meth : Method} {c : Code} {H : Heap} {locs : List Loc} {cells slots : Nat} {Q : State → Prop}
variable {mc ms : Nat} {free : Addr → Prop} {A0 A1 : Nat → Prop} {H0 : Heap} {a : Array Value} {ls : Array Slot} {st0 rest : List Value}
variable {Qc : Array Value → State → Outcome → State → Prop} {XC : String → State → State → Prop}
theorem vx_L.word {C n d : String} {A : Nat → Prop} {s : State} {args : Array Value} (h : vx_L C n d A s s.heap) : (Cond.laysStatic C n d).before args s = true := by
  obtain ⟨c, k, i, f, a, cell, h1, h2, h3, h4, h5, h6, h7, h8, h9, -⟩ := h
  show (Cond.laysStatic C n d).holds args s none s [] = true
  exact Cond.laysStatic_of h1 h2 h3 h4 h5 h6 h7 h8 h9
end
section
variable {p : Program} {l : Launch} {e : Env} {R : Room} {s : State} {m : MethodId} {args : Array Value} {below : List Frame} {meth : Method} {c : Code} {H : Heap} {locs : List Loc} {cells slots : Nat} {Q : State → Prop}
variable {mc ms : Nat} {free : Addr → Prop} {A0 A1 : Nat → Prop} {H0 : Heap} {a : Array Value} {ls : Array Slot} {st0 rest : List Value}
variable {Qc : Array Value → State → Outcome → State → Prop} {XC : String → State → State → Prop}
def vx_Zq (C n d : String) (A : Nat → Prop) (U : State) (H : Heap) : Prop := va_Zq C n d A U H ∧ vx_L C n d A U H
end
section
variable {p : Program} {l : Launch} {e : Env} {R : Room} {s : State} {m : MethodId} {args : Array Value} {below : List Frame} {meth : Method} {c : Code} {H : Heap} {locs : List Loc} {cells slots : Nat} {Q : State → Prop}
variable {mc ms : Nat} {free : Addr → Prop} {A0 A1 : Nat → Prop} {H0 : Heap} {a : Array Value} {ls : Array Slot} {st0 rest : List Value}
variable {Qc : Array Value → State → Outcome → State → Prop} {XC : String → State → State → Prop}
theorem vx_Zq.moved {C n d : String} {A : Nat → Prop} {u U : State} {H : Heap} (hvm : u.vm.Alike U.vm) (h : vx_Zq C n d A u H) : vx_Zq C n d A U H := ⟨va_Zq.moved hvm h.1, vx_L.moved hvm h.2⟩
end
section
variable {p : Program} {l : Launch} {e : Env} {R : Room} {s : State} {m : MethodId} {args : Array Value} {below : List Frame} {meth : Method} {c : Code} {H : Heap} {locs : List Loc} {cells slots : Nat} {Q : State → Prop}
variable {mc ms : Nat} {free : Addr → Prop} {A0 A1 : Nat → Prop} {H0 : Heap} {a : Array Value} {ls : Array Slot} {st0 rest : List Value}
variable {Qc : Array Value → State → Outcome → State → Prop} {XC : String → State → State → Prop}
theorem vx_Zq.kept {C n d : String} {A : Nat → Prop} {U : State} {H H1 : Heap} (h : vx_Zq C n d A U H) (hq : ∀ a : Nat, a < H.size → ¬ A a → H1[a]? = H[a]?) : vx_Zq C n d A U H1 := ⟨va_Zq.kept h.1 hq, vx_L.kept h.2 hq⟩
end
section
variable {p : Program} {l : Launch} {e : Env} {R : Room} {s : State} {m : MethodId} {args : Array Value} {below : List Frame} {meth : Method} {c : Code} {H : Heap} {locs : List Loc} {cells slots : Nat} {Q : State → Prop}
variable {mc ms : Nat} {free : Addr → Prop} {A0 A1 : Nat → Prop} {H0 : Heap} {a : Array Value} {ls : Array Slot} {st0 rest : List Value}
variable {Qc : Array Value → State → Outcome → State → Prop} {XC : String → State → State → Prop}
theorem vx_Zq.narrow {C n d : String} {A B : Nat → Prop} {U : State} {H : Heap} (h : vx_Zq C n d A U H) (hAB : ∀ q, B q → A q) : vx_Zq C n d B U H := ⟨va_Zq.narrow h.1 hAB, vx_L.narrow h.2 hAB⟩
end
section
variable {p : Program} {l : Launch} {e : Env} {R : Room} {s : State} {m : MethodId} {args : Array Value} {below : List Frame} {meth : Method} {c : Code} {H : Heap} {locs : List Loc} {cells slots : Nat} {Q : State → Prop}
variable {mc ms : Nat} {free : Addr → Prop} {A0 A1 : Nat → Prop} {H0 : Heap} {a : Array Value} {ls : Array Slot} {st0 rest : List Value}
variable {Qc : Array Value → State → Outcome → State → Prop} {XC : String → State → State → Prop}
theorem vx_Zqof {args : Array Value} {s : State} {C n d : String} {A : Nat → Prop} (hl : (Cond.laysStatic C n d).before args s = true) (hini : (Cond.initialized C).before args s = true) (h : (Cond.isRef (.static C n d)).before args s = true) (hA : ∀ a : Nat, a < s.heap.size → ¬ A a) : vx_Zq C n d A s s.heap := by
  refine ⟨va_Zqof hl hini h hA, ?_⟩
  obtain ⟨c, k, i, f, a, cell, h1, h2, h3, h4, h5, h6, h7, h8, h9⟩ := Cond.laysStatic_spec hl
  exact ⟨c, k, i, f, a, cell, h1, h2, h3, h4, h5, h6, h7, h8, h9, hA a (Array.getElem?_eq_some_iff.mp h5).1⟩
end
section
variable {p : Program} {l : Launch} {e : Env} {R : Room} {s : State} {m : MethodId} {args : Array Value} {below : List Frame} {meth : Method} {c : Code} {H : Heap} {locs : List Loc} {cells slots : Nat} {Q : State → Prop}
variable {mc ms : Nat} {free : Addr → Prop} {A0 A1 : Nat → Prop} {H0 : Heap} {a : Array Value} {ls : Array Slot} {st0 rest : List Value}
variable {Qc : Array Value → State → Outcome → State → Prop} {XC : String → State → State → Prop}
theorem vx_isRef {C n d : String} {v : Value} {A : Nat → Prop} {s : State} {args : Array Value} (h : va_Z C n d v A s s.heap) (hv : v.isRef = true) : (Cond.isRef (.static C n d)).before args s = true := by
  obtain ⟨cf, kf, fi, f, a, cell, h1, h2, h3, h4, h5, h6, h7, -⟩ := h
  have he : (Term.static C n d).eval args s none [] s = some v := by
    simp [Term.eval, State.fieldNamed?, h1, h2, h4, h5, h6, h7]
  simp only [Cond.before, Cond.holds, Cond.value, he]
  cases v <;> simp_all [Value.isRef]
end
section
variable {p : Program} {l : Launch} {e : Env} {R : Room} {s : State} {m : MethodId} {args : Array Value} {below : List Frame} {meth : Method} {c : Code} {H : Heap} {locs : List Loc} {cells slots : Nat} {Q : State → Prop}
variable {mc ms : Nat} {free : Addr → Prop} {A0 A1 : Nat → Prop} {H0 : Heap} {a : Array Value} {ls : Array Slot} {st0 rest : List Value}
variable {Qc : Array Value → State → Outcome → State → Prop} {XC : String → State → State → Prop}
theorem vx_isRefq {C n d : String} {A : Nat → Prop} {s : State} {args : Array Value} (h : va_Zq C n d A s s.heap) : (Cond.isRef (.static C n d)).before args s = true := by
  rcases h with h | ⟨t, h⟩
  · exact vx_isRef h rfl
  · exact vx_isRef h rfl
end
section
variable {p : Program} {l : Launch} {e : Env} {R : Room} {s : State} {m : MethodId} {args : Array Value} {below : List Frame} {meth : Method} {c : Code} {H : Heap} {locs : List Loc} {cells slots : Nat} {Q : State → Prop}
variable {mc ms : Nat} {free : Addr → Prop} {A0 A1 : Nat → Prop} {H0 : Heap} {a : Array Value} {ls : Array Slot} {st0 rest : List Value}
variable {Qc : Array Value → State → Outcome → State → Prop} {XC : String → State → State → Prop}
theorem vx_rebase {T : State} (X : Stand p l e R s m args below meth c T locs cells slots) {R' : Room} (hf : R'.frames ≤ R.frames) (hl : R'.locals ≤ R.locals) (hc : cells + R'.cells ≤ R.cells) (hs : slots + R'.slots ≤ R.slots) :
    Stand p l e R' ((T.setVm s.vm).setFrames (.invoking m args :: below)) m args below meth c T [] 0 0 := by
  have htop : (T.setVm s.vm).topJava?.isSome := X.here.top
  have hF : ((T.setVm s.vm).setFrames (.invoking m args :: below)).frames = .invoking m args :: below := State.frames_setFrames _ (State.cur_lt_of_top htop)
  obtain ⟨g₀, hg0⟩ := Option.isSome_iff_exists.mp htop
  obtain ⟨r, hr⟩ := State.topJava?_eq_some.mp hg0
  have hl9 : e.platform.stackLimits (T.setVm s.vm).me = e.platform.stackLimits s.me := X.limits
  have hb9 : (T.setVm s.vm).me.stackBytes = s.me.stackBytes := X.bytes
  refine ⟨X.admits, X.cas, X.clock, hF, ?_, X.hears, X.method, X.code, X.here, X.tail, X.warmed, ?_, ?_, ?_⟩
  · have h := X.room
    have hU : ((T.setVm s.vm).setFrames (.invoking m args :: below)).localsInUse = s.localsInUse := by
      rw [State.localsInUse_invoking hF (meth := meth) (c := c) X.method X.code, State.localsInUse_invoking X.frames X.method X.code]
    simp only [State.hasRoom, Bool.and_eq_true, decide_eq_true_eq] at h ⊢
    obtain ⟨⟨⟨⟨h1, h2, h3, h4, h5, h6⟩, h7⟩, h8⟩, h9⟩ := h
    rw [X.frames, List.length_cons] at h2 h3
    have q1 := X.heapSize
    have q2 := X.used
    simp only [hF, hU, List.length_cons, State.stackLimits_setFrames, State.stackBytes_setFrames, hl9, hb9]
    refine ⟨⟨⟨⟨by omega, by omega, by omega, by omega, by omega, h6⟩, ?_⟩, ?_⟩, X.book⟩
    · show T.heap.size + R'.cells ≤ e.platform.maxCells
      omega
    · show T.slotsUsed + R'.slots ≤ e.platform.maxSlots
      omega
  · rw [State.stackLimits_setFrames]; rfl
  · rw [State.stackBytes_setFrames]; rfl
  · refine ⟨?_, Nat.le_refl _, Nat.le_refl _, ?_, ?_, fun a c9 h9 => ⟨c9, h9, rfl, rfl, fun _ _ => rfl⟩⟩
    · obtain ⟨t, ht, -⟩ := State.frames_cons hr
      show T.setVm s.vm = { ((T.setVm s.vm).setFrames (.invoking m args :: below)).setFrames (T.setVm s.vm).frames with heap := T.heap, slotsUsed := T.slotsUsed }
      rw [State.setFrames_setFrames, State.setFrames_self ht]
      rfl
    · show T.slotsUsed = T.slotsUsed + ((T.heap.toList.drop T.heap.size).map (·.slots.size)).sum
      rw [List.drop_eq_nil_of_le (Nat.le_of_eq Array.length_toList)]
      rfl
    · show ((T.heap.toList.drop T.heap.size).map (·.slots.size)).sum ≤ 0
      rw [List.drop_eq_nil_of_le (Nat.le_of_eq Array.length_toList)]
      exact Nat.le_refl _
end
section
variable {p : Program} {l : Launch} {e : Env} {R : Room} {s : State} {m : MethodId} {args : Array Value} {below : List Frame} {meth : Method} {c : Code} {H : Heap} {locs : List Loc} {cells slots : Nat} {Q : State → Prop}
variable {mc ms : Nat} {free : Addr → Prop} {A0 A1 : Nat → Prop} {H0 : Heap} {a : Array Value} {ls : Array Slot} {st0 rest : List Value}
variable {Qc : Array Value → State → Outcome → State → Prop} {XC : String → State → State → Prop}
theorem vx_throwS {cc : ByteArray} {pc : Nat} (hexec : p.tables.exec = Jvm.exec) (hb : c.code = cc) (hl : l.stackTraces = false) {own cls text : String} {names : List String} {ik is ic mc ms sa : Nat} {A : Nat → Prop}
    (hown : s.vm.findClass own = some m.cls) (hcls : Bundle.fit cls = true) (hnames : ∀ n ∈ names, Bundle.fit n = true)
    (hk : (Cond.classLink own ik cls).before args s = true) (hini : (Cond.initialized cls).before args s = true) (hstr : vk_R own is text sa s) (hat : ∀ w ∈ vx_atS own ic cls names, w.before args s = true)
    (hgood : ∀ w ∈ Cond.classLink own ik cls :: Cond.initialized cls :: vx_atS own ic cls names, vx_ot w = true)
    (hU : vx_Zq Bundle.tN "UNASSIGNED_STACK" Bundle.steD A s s.heap) (hN : vx_Zq Bundle.tN "SUPPRESSED_SENTINEL" Bundle.listD A s s.heap) (hS : va_S A s.heap H locs) (hsize : ls.size = c.maxLocals)
    (d0 : decode cc pc = .ok (.new ik, 3)) (d3 : decode cc (pc + 3) = .ok (.dup, 1)) (d4 : decode cc (pc + 4) = .ok (.ldc is, 2)) (d6 : decode cc (pc + 6) = .ok (.invokespecial ic, 3)) (d9 : decode cc (pc + 9) = .ok (.athrow, 1))
    (hout : ∀ x ∈ c.exceptionTable.toList, covers x (pc + 9) = false)
    (hRframes : names.length + 3 < R.frames) (hRlocals : (rest.map fun v => v.category).sum + (13 * (names.length + 1) + 43) ≤ R.locals) (hRcells : cells + 1 ≤ R.cells) (hRslots : slots + 6 ≤ R.slots) (hlocks : meth.locks = false)
    (hx : ∀ t : State, s.vm.Alike t.vm → H.size ≤ t.heap.size → (∀ q : Nat, q < H.size → t.heap[q]? = H[q]?) → XC cls s t)
    (hf : ∀ z ∈ locs, free z.base) (hc : cells + 1 ≤ mc) (hs : slots + 6 ≤ ms) :
    W p l e R s m args below meth c H locs cells slots (vx_MQ below Qc XC args s mc ms free) (F0 m pc ls rest) := by
  intro T hT X
  have htr : e.platform.stackTraces = false := (show e.platform.stackTraces = l.stackTraces by rw [X.admits.platform]).trans hl
  have Y := vx_rebase X (R' := { frames := R.frames, locals := R.locals, cells := 1, slots := 6 }) (Nat.le_refl _) (Nat.le_refl _) hRcells hRslots
  obtain ⟨s', hA⟩ : ∃ z, z = (T.setVm s.vm).setFrames (.invoking m args :: below) := ⟨_, rfl⟩
  rw [← hA] at Y
  have hvm : s'.vm = s.vm := by rw [hA]; rfl
  have hhp : s'.heap = H := by rw [hA]; exact hT
  have hW0 : s.WarmedH s'.vm := by rw [hvm]; exact State.WarmedH.refl s
  have hat' : ∀ w ∈ vx_atS own ic cls names, w.before args s' = true := fun w hw => vx_ot_at hW0 hvm.symm (hgood w (List.mem_cons_of_mem _ (List.mem_cons_of_mem _ hw))) (hat w hw)
  have hk' : (Cond.classLink own ik cls).before args s' = true := vx_ot_at hW0 hvm.symm (hgood _ List.mem_cons_self) hk
  have hini' : (Cond.initialized cls).before args s' = true := vx_ot_at hW0 hvm.symm (hgood _ (List.mem_cons_of_mem _ List.mem_cons_self)) hini
  have hU' : vx_Zq Bundle.tN "UNASSIGNED_STACK" Bundle.steD A s' s'.heap := by rw [hhp]; exact vx_Zq.moved hW0.alike (hU.kept hS.2.1)
  have hN' : vx_Zq Bundle.tN "SUPPRESSED_SENTINEL" Bundle.listD A s' s'.heap := by rw [hhp]; exact vx_Zq.moved hW0.alike (hN.kept hS.2.1)
  have h : ∀ w ∈ Bundle.ownAtoms own ic cls names, w.before args s' = true := vx_own hat' (vx_isRefq hU'.1) (vx_isRefq hN'.1) hU'.2.word hN'.2.word
  have hown' : s'.vm.findClass own = some m.cls := by rw [hvm]; exact hown
  have hins : (Cond.instantiable cls 6).before args s' = true := h _ (by simp [Bundle.ownAtoms])
  obtain ⟨vm₁, cX, kX, hfX, hkX, -, -, X₁, st1⟩ := Y.newCold hexec (own := own) (C := cls) (index := ik) (n := 6) hown' hk' hins hini'
    (g := F0 m pc ls rest) rfl (by rw [hb]; exact d0) (Nat.le_refl _) (Nat.le_refl _)
  generalize hT1 : (T.setVm vm₁).pushCell { cls := cX, slots := kX.instanceTypes.map defaultValue, vm := .none } = T1 at X₁ st1
  have hcat : (Value.ref T.heap.size).category = 1 := rfl
  have hcellA : T1.heap[T.heap.size]? = some (freshCell cX kX) := by rw [← hT1]; exact State.heap_pushCell_size _ _
  have d3' : decode c.code (pc + 3) = .ok (.dup, 1) := by rw [hb]; exact d3
  have d4' : decode c.code (pc + 4) = .ok (.ldc is, 2) := by rw [hb]; exact d4
  have hstr' : vk_R own is text sa s' := vk_R.warm hW0 hstr
  obtain ⟨U, hsteps, hrun, hend, hW, hsame, ce, hce, hO⟩ := X₁.ctorThrowS hexec htr (own := own) (cls := cls) (names := names) (ic := ic) hown' hcls hnames h (fun x hx => nomatch hx) hfX hkX hcellA (by rw [hhp, hT]; exact Nat.le_refl _) (msg := .ref sa) rfl
    (g := { method := m, pc := pc + 6, locals := ls, stack := .ref sa :: .ref T.heap.size :: .ref T.heap.size :: rest, locked := none }) rfl hsize rfl rfl (rest := rest) rfl
    (by rw [hb]; exact d6) (by rw [hb]; exact d9) hout hRframes (by simp only [List.map_cons, List.sum_cons, hcat]; omega) hlocks
  obtain ⟨f1, f2⟩ := vx_frame hsame
  rw [hhp] at f1 f2
  have hWs : s.WarmedH U.vm := State.WarmedH.trans hW0 hW
  have hcl : s.vm.findClass cls = some ce.cls := by
    have h9 := hO.cls
    rw [hvm] at h9
    exact h9
  have hall : s.sameButNew ({ U with vm := s.vm } : State) locs mc ms := by
    subst hA
    obtain ⟨e1, e2⟩ := hsame
    rw [State.setFrames_setFrames] at e1
    have h2 : (T.setVm s.vm).sameButNew ({ U with vm := s.vm } : State) [] (0 + 1) (0 + 6) := ⟨e1, e2⟩
    have h3 := X.same.trans h2
    rw [List.append_nil] at h3
    exact h3.mono hc hs
  refine ⟨U, ?_, .threw T.heap.size, hrun, hend, Or.inr ⟨T.heap.size, rfl, cls, ce, locs, hx U hWs.alike f1 (fun q hq => f2 q hq (fun z hz => nomatch hz)), hce, hO.vm, hcl, hWs, hall, hf⟩⟩
  refine st1 _ ?_
  show Steps p.tables e below (T1.setTop { method := m, pc := pc + 3, locals := ls, stack := .ref T.heap.size :: rest, locked := none }) _
  jvm_step X₁.here [X₁.here.top, hexec, d3', Value.category]
  exact X₁.ldcString hexec (own := own) (text := text) (index := is) (a := sa) hown' hstr'.1 hstr'.2
    (g := { method := m, pc := pc + 4, locals := ls, stack := .ref T.heap.size :: .ref T.heap.size :: rest, locked := none }) rfl d4' _ hsteps
end
end
section
/-! ===== classes: their fields; methods: name, bytes, locals, answer, handlers, room ===== -/
def T_EE : u_T := fun k => match k with
  | 0 => ("EditionEqual", "pointCount", "I", true)
  | 1 => ("EditionEqual", "rowCount", "I", true)
  | 2 => ("EditionEqual", "firstEdition", "LEditionEqual$Edition;", true)
  | 3 => ("EditionEqual", "secondEdition", "LEditionEqual$Edition;", true)
  | 4 => ("EditionEqual", "firstBehaviour", "LEditionEqual$Behaviour;", true)
  | 5 => ("EditionEqual", "secondBehaviour", "LEditionEqual$Behaviour;", true)
  | 6 => ("EditionEqual", "search", "LEditionEqual$PairSearch;", true)
  | 7 => ("EditionEqual", "matching", "LEditionEqual$Matching;", true)
  | _ => ("EditionEqual", "barredRows", "I", false)
def ty_EE : Nat → FieldType := fun k => match k with
  | 0 => .int
  | 1 => .int
  | 2 => .object "EditionEqual$Edition"
  | 3 => .object "EditionEqual$Edition"
  | 4 => .object "EditionEqual$Behaviour"
  | 5 => .object "EditionEqual$Behaviour"
  | 6 => .object "EditionEqual$PairSearch"
  | 7 => .object "EditionEqual$Matching"
  | _ => .int
theorem nm_EE : ∀ a, a < 9 → ∀ b, b < 9 → a ≠ b → (T_EE a).2.1 ≠ (T_EE b).2.1 := by decide +kernel
theorem tp_EE : ∀ k, k < 9 → parseFieldDescriptor (T_EE k).2.2.1 = some (ty_EE k) := by decide +kernel
def T_ED : u_T := fun k => match k with
  | 0 => ("EditionEqual$Edition", "kinds", "[I", true)
  | 1 => ("EditionEqual$Edition", "numbers", "[I", true)
  | 2 => ("EditionEqual$Edition", "neededInputs", "[I", true)
  | 3 => ("EditionEqual$Edition", "wires", "[I", true)
  | 4 => ("EditionEqual$Edition", "neededBlocks", "[I", true)
  | 5 => ("EditionEqual$Edition", "outputs", "[I", true)
  | 6 => ("EditionEqual$Edition", "delays", "[I", true)
  | 7 => ("EditionEqual$Edition", "ahead", "[I", true)
  | 8 => ("EditionEqual$Edition", "blockCount", "I", false)
  | _ => ("EditionEqual$Edition", "delayCount", "I", false)
def ty_ED : Nat → FieldType := fun k => match k with
  | 0 => .array .int
  | 1 => .array .int
  | 2 => .array .int
  | 3 => .array .int
  | 4 => .array .int
  | 5 => .array .int
  | 6 => .array .int
  | 7 => .array .int
  | 8 => .int
  | _ => .int
theorem nm_ED : ∀ a, a < 10 → ∀ b, b < 10 → a ≠ b → (T_ED a).2.1 ≠ (T_ED b).2.1 := by decide +kernel
theorem tp_ED : ∀ k, k < 10 → parseFieldDescriptor (T_ED k).2.2.1 = some (ty_ED k) := by decide +kernel
def T_BH : u_T := fun k => match k with
  | 0 => ("EditionEqual$Behaviour", "edition", "LEditionEqual$Edition;", true)
  | 1 => ("EditionEqual$Behaviour", "order", "[I", true)
  | 2 => ("EditionEqual$Behaviour", "columns", "[I", true)
  | 3 => ("EditionEqual$Behaviour", "outs", "[I", true)
  | 4 => ("EditionEqual$Behaviour", "nextStates", "[I", true)
  | 5 => ("EditionEqual$Behaviour", "queue", "[I", true)
  | 6 => ("EditionEqual$Behaviour", "classes", "[I", true)
  | 7 => ("EditionEqual$Behaviour", "keys", "[I", true)
  | 8 => ("EditionEqual$Behaviour", "newClasses", "[I", true)
  | 9 => ("EditionEqual$Behaviour", "orderedCount", "I", false)
  | 10 => ("EditionEqual$Behaviour", "stateCount", "I", false)
  | 11 => ("EditionEqual$Behaviour", "reachedStates", "I", false)
  | _ => ("EditionEqual$Behaviour", "known", "Z", false)
def ty_BH : Nat → FieldType := fun k => match k with
  | 0 => .object "EditionEqual$Edition"
  | 1 => .array .int
  | 2 => .array .int
  | 3 => .array .int
  | 4 => .array .int
  | 5 => .array .int
  | 6 => .array .int
  | 7 => .array .int
  | 8 => .array .int
  | 9 => .int
  | 10 => .int
  | 11 => .int
  | _ => .boolean
theorem nm_BH : ∀ a, a < 13 → ∀ b, b < 13 → a ≠ b → (T_BH a).2.1 ≠ (T_BH b).2.1 := by decide +kernel
theorem tp_BH : ∀ k, k < 13 → parseFieldDescriptor (T_BH k).2.2.1 = some (ty_BH k) := by decide +kernel
def T_PS : u_T := fun k => match k with
  | 0 => ("EditionEqual$PairSearch", "first", "LEditionEqual$Behaviour;", true)
  | 1 => ("EditionEqual$PairSearch", "second", "LEditionEqual$Behaviour;", true)
  | 2 => ("EditionEqual$PairSearch", "met", "[I", true)
  | 3 => ("EditionEqual$PairSearch", "queue", "[I", true)
  | 4 => ("EditionEqual$PairSearch", "cameFrom", "[I", true)
  | 5 => ("EditionEqual$PairSearch", "cameBy", "[I", true)
  | 6 => ("EditionEqual$PairSearch", "pairCount", "I", false)
  | 7 => ("EditionEqual$PairSearch", "shownCount", "I", false)
  | 8 => ("EditionEqual$PairSearch", "shownFrom", "I", false)
  | 9 => ("EditionEqual$PairSearch", "shownLast", "I", false)
  | 10 => ("EditionEqual$PairSearch", "firstOuts", "I", false)
  | 11 => ("EditionEqual$PairSearch", "secondOuts", "I", false)
  | _ => ("EditionEqual$PairSearch", "known", "Z", false)
def ty_PS : Nat → FieldType := fun k => match k with
  | 0 => .object "EditionEqual$Behaviour"
  | 1 => .object "EditionEqual$Behaviour"
  | 2 => .array .int
  | 3 => .array .int
  | 4 => .array .int
  | 5 => .array .int
  | 6 => .int
  | 7 => .int
  | 8 => .int
  | 9 => .int
  | 10 => .int
  | 11 => .int
  | _ => .boolean
theorem nm_PS : ∀ a, a < 13 → ∀ b, b < 13 → a ≠ b → (T_PS a).2.1 ≠ (T_PS b).2.1 := by decide +kernel
theorem tp_PS : ∀ k, k < 13 → parseFieldDescriptor (T_PS k).2.2.1 = some (ty_PS k) := by decide +kernel
def T_MT : u_T := fun k => match k with
  | 0 => ("EditionEqual$Matching", "first", "LEditionEqual$Edition;", true)
  | 1 => ("EditionEqual$Matching", "second", "LEditionEqual$Edition;", true)
  | 2 => ("EditionEqual$Matching", "partners", "[I", true)
  | 3 => ("EditionEqual$Matching", "partnersBack", "[I", true)
  | 4 => ("EditionEqual$Matching", "queue", "[I", true)
  | _ => ("EditionEqual$Matching", "matchCount", "I", false)
def ty_MT : Nat → FieldType := fun k => match k with
  | 0 => .object "EditionEqual$Edition"
  | 1 => .object "EditionEqual$Edition"
  | 2 => .array .int
  | 3 => .array .int
  | 4 => .array .int
  | _ => .int
theorem nm_MT : ∀ a, a < 6 → ∀ b, b < 6 → a ≠ b → (T_MT a).2.1 ≠ (T_MT b).2.1 := by decide +kernel
theorem tp_MT : ∀ k, k < 6 → parseFieldDescriptor (T_MT k).2.2.1 = some (ty_MT k) := by decide +kernel
def T_MD : u_T := fun k => match k with
  | 0 => ("EditionEqualModel", "thrown", "I", false)
  | 1 => ("EditionEqualModel", "points", "I", true)
  | 2 => ("EditionEqualModel", "barred", "[Z", true)
  | 3 => ("EditionEqualModel", "counts", "[I", true)
  | 4 => ("EditionEqualModel", "kinds", "[I", true)
  | 5 => ("EditionEqualModel", "numbers", "[I", true)
  | 6 => ("EditionEqualModel", "firsts", "[I", true)
  | 7 => ("EditionEqualModel", "seconds", "[I", true)
  | 8 => ("EditionEqualModel", "outs", "[I", true)
  | 9 => ("EditionEqualModel", "come", "[Z", true)
  | 10 => ("EditionEqualModel", "values", "[I", true)
  | 11 => ("EditionEqualModel", "table", "[I", true)
  | 12 => ("EditionEqualModel", "reached", "[Z", true)
  | 13 => ("EditionEqualModel", "apart", "[Z", true)
  | 14 => ("EditionEqualModel", "pairCount", "I", false)
  | 15 => ("EditionEqualModel", "pairs", "[I", true)
  | 16 => ("EditionEqualModel", "cameFrom", "[I", true)
  | 17 => ("EditionEqualModel", "cameBy", "[I", true)
  | 18 => ("EditionEqualModel", "seen", "[Z", true)
  | 19 => ("EditionEqualModel", "differsAt", "I", false)
  | 20 => ("EditionEqualModel", "differsBy", "I", false)
  | _ => ("EditionEqualModel", "match", "[Z", true)
def ty_MD : Nat → FieldType := fun k => match k with
  | 0 => .int
  | 1 => .int
  | 2 => .array .boolean
  | 3 => .array .int
  | 4 => .array .int
  | 5 => .array .int
  | 6 => .array .int
  | 7 => .array .int
  | 8 => .array .int
  | 9 => .array .boolean
  | 10 => .array .int
  | 11 => .array .int
  | 12 => .array .boolean
  | 13 => .array .boolean
  | 14 => .int
  | 15 => .array .int
  | 16 => .array .int
  | 17 => .array .int
  | 18 => .array .boolean
  | 19 => .int
  | 20 => .int
  | _ => .array .boolean
theorem nm_MD : ∀ a, a < 22 → ∀ b, b < 22 → a ≠ b → (T_MD a).2.1 ≠ (T_MD b).2.1 := by decide +kernel
theorem tp_MD : ∀ k, k < 22 → parseFieldDescriptor (T_MD k).2.2.1 = some (ty_MD k) := by decide +kernel
def ez_cl : List vw_C := [("EditionEqual", T_EE, 9), ("EditionEqual$Edition", T_ED, 10), ("EditionEqual$Behaviour", T_BH, 13), ("EditionEqual$PairSearch", T_PS, 13), ("EditionEqual$Matching", T_MT, 6), ("EditionEqualModel", T_MD, 22)]
/-- classes' numbers and slots; the arrays' classes; addresses of what nobody writes (900: the class's table of columns, 901: the script); the script -/
abbrev ez_G : Type := va_G × (FieldType → ClassId) × (Nat → Nat) × (Nat × (Nat → Int32))
def ez_str : List (String × Nat × String) := [("EditionEqual", 215, "no such edition"), ("EditionEqual", 81, "no such kind, or no such number of the kind"), ("EditionEqual", 92, "no more blocks, or no more delays"), ("EditionEqual", 107, "no such block or input"), ("EditionEqual", 113, "no such output or block"), ("EditionEqual", 211, "no such row"), ("EditionEqual", 217, "no such block"), ("EditionEqual", 199, "the edition is not right"), ("EditionEqual", 146, "a place is not below 0"), ("EditionEqual", 213, "one of the editions is not right"), ("EditionEqual", 165, "rows are counted from 0"), ("EditionEqual", 167, "so many rows are not shown"), ("EditionEqual", 191, "idle blocks are counted from 0")]
def ez_dc (j : Nat) : Int32 := match j with
  | 0 => 0xAAAAAAAA
  | 1 => 0xCCCCCCCC
  | 2 => 0xF0F0F0F0
  | 3 => 0xFF00FF00
  | _ => 0xFFFF0000
def ez_tU : String := "UNASSIGNED_STACK"
/-- what nobody writes -/
def ez_Ro (G : ez_G) (A : Nat → Prop) (U : State) (H : Heap) : Prop :=
  (va_Z "EditionEqual" "DELAY_COLUMNS" "[I" (.ref (G.2.2.1 900)) A U H ∧ va_T .int (G.2.2.1 900) 5 (fun j => .int (ez_dc j)) A U H) ∧ (vx_Zq Bundle.tN "UNASSIGNED_STACK" Bundle.steD A U H ∧ vx_Zq Bundle.tN "SUPPRESSED_SENTINEL" Bundle.listD A U H) ∧
  (∀ q ∈ ez_str, ∃ a, vk_R q.1 q.2.1 q.2.2 a U) ∧ va_Nc "java/lang/IllegalStateException" "java/lang/IllegalArgumentException" U ∧ va_T .int (G.2.2.1 901) G.2.2.2.1 (fun j => .int (G.2.2.2.2 j)) A U H
theorem ez_Ro.moved {G : ez_G} {A : Nat → Prop} {u U : State} {H : Heap} (hW : u.WarmedH U.vm) (h : ez_Ro G A u H) : ez_Ro G A U H :=
  ⟨⟨va_Z.moved hW.alike h.1.1, va_T.moved hW.alike h.1.2⟩, ⟨vx_Zq.moved hW.alike h.2.1.1, vx_Zq.moved hW.alike h.2.1.2⟩, fun q hq => (h.2.2.1 q hq).elim fun a ha => ⟨a, vk_R.warm hW ha⟩, va_Nc.moved hW.alike h.2.2.2.1, va_T.moved hW.alike h.2.2.2.2⟩
theorem ez_Ro.kept {G : ez_G} {A : Nat → Prop} {U : State} {H H1 : Heap} (h : ez_Ro G A U H) (hq : ∀ a : Nat, a < H.size → ¬ A a → H1[a]? = H[a]?) : ez_Ro G A U H1 :=
  ⟨⟨va_Z.kept h.1.1 hq, va_T.kept h.1.2 hq⟩, ⟨vx_Zq.kept h.2.1.1 hq, vx_Zq.kept h.2.1.2 hq⟩, h.2.2.1, h.2.2.2.1, va_T.kept h.2.2.2.2 hq⟩
theorem ez_Ro.narrow {G : ez_G} {A B : Nat → Prop} {U : State} {H : Heap} (h : ez_Ro G A U H) (hAB : ∀ q, B q → A q) : ez_Ro G B U H :=
  ⟨⟨va_Z.narrow h.1.1 hAB, va_T.narrow h.1.2 hAB⟩, ⟨vx_Zq.narrow h.2.1.1 hAB, vx_Zq.narrow h.2.1.2 hAB⟩, h.2.2.1, h.2.2.2.1, va_T.narrow h.2.2.2.2 hAB⟩
end
section
/-! ===== THE LAYER: a method's run over a world that is a list of cells, each known by its place ===== -/
/-- a cell: an array (its type, its length and contents), or an object (its class's number, its fields); '.ref k' in it is the cell at place k -/
abbrev ez_Cell : Type := (FieldType × vp_A) ⊕ (Nat × List Value)
abbrev ez_H : Type := List ez_Cell
/-- a method: name, bytes, number of locals, what it returns, handlers; its room: frames, words; cells, slots that must be free; cells, slots that it makes where it returns (one of six slots more where it throws) -/
abbrev ez_X : Type := MethodName × ByteArray × Nat × Option FieldType × List (Nat × Nat × Nat × Nat) × (Nat × Nat × Nat × Nat × Nat × Nat)
abbrev ez_hs (X : ez_X) : List (Nat × Nat × Nat × Nat) := X.2.2.2.2.1
abbrev ez_fr (X : ez_X) : Nat := X.2.2.2.2.2.1
abbrev ez_lo (X : ez_X) : Nat := X.2.2.2.2.2.2.1
abbrev ez_rc (X : ez_X) : Nat := X.2.2.2.2.2.2.2.1
abbrev ez_rs (X : ez_X) : Nat := X.2.2.2.2.2.2.2.2.1
abbrev ez_mc (X : ez_X) : Nat := X.2.2.2.2.2.2.2.2.2.1
abbrev ez_ms (X : ez_X) : Nat := X.2.2.2.2.2.2.2.2.2.2
def ez_rm (X : ez_X) : Room := { frames := ez_fr X, cells := ez_rc X, slots := ez_rs X, locals := ez_lo X }
def ez_kc (X : ez_X) (o : Outcome) : Nat := match o with
  | .returned _ => ez_mc X
  | .threw _ => ez_mc X + 1
def ez_ks (X : ez_X) (o : Outcome) : Nat := match o with
  | .returned _ => ez_ms X
  | .threw _ => ez_ms X + 6
/-- how a method ends: a value, or an exception of a kind; and the world then -/
abbrev ez_R : Type := (Option Value ⊕ Nat) × ez_H
def ez_v (ad : Nat → Nat) (v : Value) : Value := match v with
  | .ref k => .ref (ad k)
  | w => w
def ez_e (cA : FieldType → ClassId) (ad : Nat → Nat) (q : ez_Cell) : va_E := match q with
  | .inl a => .inl (cA a.1, a.2)
  | .inr o => .inr (o.1, o.2.map (ez_v ad))
def ez_ws (G : ez_G) (ad : Nat → Nat) (h : ez_H) : va_W := h.mapIdx fun k q => (ad k, ez_e G.2.1 ad q)
theorem ez_cat (ad : Nat → Nat) (v : Value) : (ez_v ad v).category = v.category := by cases v <;> rfl
theorem ez_ws_get (G : ez_G) (ad : Nat → Nat) {h : ez_H} {k : Nat} {q : ez_Cell} (hk : h[k]? = some q) : (ez_ws G ad h)[k]? = some (ad k, ez_e G.2.1 ad q) := by
  simp [ez_ws, hk]
theorem ez_ws_of (G : ez_G) (ad : Nat → Nat) {h : ez_H} {k : Nat} {q : Nat × va_E} (hk : (ez_ws G ad h)[k]? = some q) : ∃ c, h[k]? = some c ∧ q = (ad k, ez_e G.2.1 ad c) := by
  simp only [ez_ws, List.getElem?_mapIdx] at hk
  cases hc : h[k]? with
  | none => rw [hc] at hk; cases hk
  | some c => rw [hc] at hk; exact ⟨c, rfl, (Option.some.inj hk).symm⟩
theorem ez_ws_set (G : ez_G) (ad : Nat → Nat) (h : ez_H) (k : Nat) (q : ez_Cell) : ez_ws G ad (h.set k q) = (ez_ws G ad h).set k (ad k, ez_e G.2.1 ad q) := by
  apply List.ext_getElem?
  intro j
  simp only [ez_ws, List.getElem?_mapIdx, List.getElem?_set, List.length_mapIdx]
  by_cases hj : k = j
  · subst hj
    by_cases hl : k < h.length <;> simp [hl]
  · simp [hj]
theorem ez_ws_len (G : ez_G) (ad : Nat → Nat) (h : ez_H) : (ez_ws G ad h).length = h.length := by simp [ez_ws]
/-! the words that stay -/
def ez_gw (w : Cond) : Bool := goodWord w || (match w with
  | .fieldLinkNest .. => true
  | .methodLinkNest .. => true
  | .castable .. => true
  | .declares _ => true
  | _ => false)
def ez_T : List Cond := lw_tbl.filter ez_gw
theorem ez_gw_keep {w : Cond} (hw : ez_gw w = true) {args a' : Array Value} {s U : State} (hW : s.WarmedH U.vm) (h : w.before args s = true) : w.before a' U = true := by
  unfold ez_gw at hw
  rw [Bool.or_eq_true] at hw
  rcases hw with g | g
  · exact word_at hW (good_of_word g) h
  · cases w <;> first
      | exact absurd g Bool.false_ne_true
      | exact va_Nw.use rfl (va_Nw.warmF hW (va_Nw.of rfl h))
      | exact va_Nw.use rfl (va_Nw.warmM hW (va_Nw.of rfl h))
      | exact va_Nw.use rfl (va_Nw.warmC hW (va_Nw.of rfl h))
      | exact va_Nw.use rfl (va_Nw.warmD hW (va_Nw.of rfl h))
theorem ez_T_keep {args : Array Value} {s : State} (hts : ∀ w ∈ ez_T, w.before args s = true) : ∀ w ∈ ez_T, ∀ (a' : Array Value) (U : State), s.WarmedH U.vm → w.before a' U = true :=
  fun w hw _ _ hW => ez_gw_keep (List.mem_filter.mp hw).2 hW (hts w hw)
theorem ez_in (i : Nat) {w : Cond} (h : lw_tbl[i]? = some w) (hg : ez_gw w = true) : w ∈ ez_T := List.mem_filter.mpr ⟨List.mem_of_getElem? h, hg⟩
/-! a method's surroundings -/
def ez_tys (G : ez_G) : List (ClassId × FieldType) := [(G.2.1 .int, .int), (G.2.1 .boolean, .boolean), (G.2.1 .long, .long)]
def ez_ctx (G : ez_G) (X : ez_X) (p : Program) (s : State) (m : MethodId) (args : Array Value) (meth : Method) (c : Code) : Prop :=
  p.tables.exec = Jvm.exec ∧ c.code = X.2.1 ∧ c.maxLocals = X.2.2.1 ∧ s.vm.findClass X.1.cls = some m.cls ∧ (∀ w ∈ ez_T, w.before args s = true) ∧ meth.sig.returnType = X.2.2.2.1 ∧ meth.locks = false ∧
  c.exceptionTable.toList.map (fun h => (h.startPc, h.endPc, h.handlerPc, h.catchType)) = ez_hs X ∧ va_K G.1 ez_cl (ez_tys G) s ∧ meth.name = X.1.name
def ez_L (ad : Nat → Nat) (n : Nat) (ls : List (Option Value)) (L : Array Slot) : Prop :=
  L.size = n ∧ lv_wf L ∧ ∀ (i : Nat) (v : Value), ls[i]? = some (some v) → v.category = 1 ∧ L[i]? = some (.val (ez_v ad v))
def ez_In (G : ez_G) (X : ez_X) (uc us : Nat) (ls : List (Option Value)) (h : ez_H) (p : Program) (s : State) (m : MethodId) (args : Array Value) (meth : Method) (c : Code)
    (A : Nat → Prop) (n0 : Nat) (ad0 ad : Nat → Nat) (H : Heap) (locs : List Loc) (cells slots : Nat) (L : Array Slot) : Prop :=
  ez_ctx G X p s m args meth c ∧ (∀ q, s.heap.size ≤ q → A q) ∧ (ez_Ro G A s s.heap ∧ h.length ≤ 900 ∧ ∀ k, 900 ≤ k → ad k = G.2.2.1 k) ∧ n0 ≤ h.length ∧ (∀ k, ¬ (n0 ≤ k ∧ k < h.length) → ad k = ad0 k) ∧
  va_P G.1 ez_cl (ez_ws G ad h) H ∧ va_D A (ez_ws G ad h) ∧ va_S A s.heap H locs ∧ ez_L ad X.2.2.1 ls L ∧ cells ≤ uc ∧ slots ≤ us
def ez_exN (k : Nat) : String := if k = 0 then "java/lang/IllegalArgumentException" else "java/lang/IllegalStateException"
def ez_out (ad : Nat → Nat) (r : Option Value ⊕ Nat) (o : Outcome) (t : State) : Prop := match r with
  | .inl v => o = .returned (v.map (ez_v ad))
  | .inr k => ∃ (x : Addr) (cell : Cell), o = .threw x ∧ t.heap[x]? = some cell ∧ cell.vm = .none ∧ t.vm.findClass (ez_exN k) = some cell.cls
def ez_Fin (G : ez_G) (A : Nat → Prop) (n0 : Nat) (ad0 : Nat → Nat) (Q : ez_R → Prop) (o : Outcome) (t : State) : Prop :=
  ∃ (r : ez_R) (ad : Nat → Nat), Q r ∧ (n0 ≤ r.2.length ∧ r.2.length ≤ 900) ∧ (∀ k, ¬ (n0 ≤ k ∧ k < r.2.length) → ad k = ad0 k) ∧ va_P G.1 ez_cl (ez_ws G ad r.2) t.heap ∧ va_D A (ez_ws G ad r.2) ∧ ez_out ad r.1 o t
def ez_MQ (X : ez_X) (below : List Frame) (s : State) (A : Nat → Prop) (F : Outcome → State → Prop) : State → Prop := fun t =>
  ∃ o, t.status = .running ∧ Ended t below o ∧ F o t ∧ va_F A s t ∧ ∃ L, (s.WarmedH t.vm ∧ s.sameButNew ({ t with vm := s.vm } : State) L (ez_kc X o) (ez_ks X o)) ∧ ∀ q ∈ L, A q.base
/-- from this frame, over this world, the method comes to its end, and Q is true of how it ends -/
def ez_Ev (l : Launch) (G : ez_G) (X : ez_X) (uc us pc : Nat) (ls : List (Option Value)) (st : List Value) (h : ez_H) (Q : ez_R → Prop) : Prop :=
  ∀ (p : Program) (e : Env) (s : State) (m : MethodId) (args : Array Value) (below : List Frame) (meth : Method) (c : Code) (A : Nat → Prop) (n0 : Nat) (ad0 ad : Nat → Nat) (H : Heap) (locs : List Loc) (cells slots : Nat) (L : Array Slot),
    ez_In G X uc us ls h p s m args meth c A n0 ad0 ad H locs cells slots L →
    W p l e (ez_rm X) s m args below meth c H locs cells slots (ez_MQ X below s A (ez_Fin G A n0 ad0 Q)) (F0 m pc L (st.map (ez_v ad)))
/-! a contract -/
def ez_Met (l : Launch) (X : ez_X) (Pc : Array Value → State → Prop) (Qc : State → Outcome → State → Prop) (free : Addr → Prop) : Prop :=
  MetFree l X.1 (headSpec ez_T (ez_rm X)) Pc (fun _ _ _ _ _ => True) (fun _ st o t => Qc st o t ∧ ∃ L, (st.WarmedH t.vm ∧ st.sameButNew ({ t with vm := st.vm } : State) L (ez_kc X o) (ez_ks X o)) ∧ ∀ q ∈ L, free q.base)
def ez_Pre (G : ez_G) (ad : Nat → Nat) (sz : Nat) (as : List Value) (h : ez_H) (a : Array Value) (U : State) : Prop :=
  a = (as.map (ez_v ad)).toArray ∧ U.heap.size = sz ∧ va_P G.1 ez_cl (ez_ws G ad h) U.heap ∧ va_D (fun _ => True) (ez_ws G ad h) ∧ va_K G.1 ez_cl (ez_tys G) U ∧ ez_Ro G (va_A (ez_ws G ad h) sz) U U.heap ∧ h.length ≤ 900 ∧ ∀ k, 900 ≤ k → ad k = G.2.2.1 k
/-- the method's contract at these arguments over this world -/
def ez_Ct (l : Launch) (G : ez_G) (X : ez_X) (as : List Value) (h : ez_H) (Q : ez_R → Prop) : Prop :=
  ∀ (ad : Nat → Nat) (sz : Nat), ez_Met l X (ez_Pre G ad sz as h) (fun st o t => ez_Fin G (va_A (ez_ws G ad h) sz) h.length ad Q o t ∧ va_F (va_A (ez_ws G ad h) sz) st t) (va_A (ez_ws G ad h) sz)
/-! from a walk to a contract -/
def ez_code (X : ez_X) : Cond := match X.2.2.2.2.1 with
  | [] => .code X.1 X.2.1 X.2.2.1 X.2.2.2.1
  | q :: hs => .codeWith X.1 X.2.1 X.2.2.1 X.2.2.2.1 (q :: hs)
theorem ez_code_spec {X : ez_X} {args : Array Value} {s : State} {m : MethodId} (hn : s.methodNamed? X.1 = some m) (h : (ez_code X).before args s = true) :
    ∃ meth c, s.vm.method? m = some meth ∧ meth.code = some c ∧ c.code = X.2.1 ∧ c.maxLocals = X.2.2.1 ∧ meth.sig.returnType = X.2.2.2.1 ∧ meth.locks = false ∧
      c.exceptionTable.toList.map (fun h => (h.startPc, h.endPc, h.handlerPc, h.catchType)) = ez_hs X ∧ parseMethodDescriptor X.1.desc = some meth.sig := by
  obtain ⟨y, cc, n, ret, hs, rm⟩ := X
  cases hs with
  | nil =>
    obtain ⟨meth, c, h1, h2, h3, h4, h5, h6, h7, h8⟩ := Cond.code_spec (x := y) (bytes := cc) (maxLocals := n) (ret := ret) hn h
    refine ⟨meth, c, h1, h2, h3, h4, h5, h6, ?_, h8⟩
    rw [Array.isEmpty_iff] at h7
    rw [h7]
    rfl
  | cons q hs =>
    obtain ⟨m', meth, c, h0, h1, h2, h3, h4, h7, h5, h6, h8⟩ := Cond.codeWith_spec (x := y) (bytes := cc) (maxLocals := n) (ret := ret) (handlers := q :: hs) h
    cases hn.symm.trans h0
    exact ⟨meth, c, h1, h2, h3, h4, h5, h6, h7, h8⟩
def ez_ok (X : ez_X) (n : Nat) : Prop :=
  plainName X.1.cls = true ∧ ez_code X ∈ ez_T ∧ Cond.initialized X.1.cls ∈ ez_T ∧ (X.1.cls ≠ "java/lang/invoke/MethodHandle" ∧ X.1.cls ≠ "java/lang/invoke/VarHandle") ∧ (parseMethodDescriptor X.1.desc).map (fun d => d.parameters.length) = some n
def ez_ls (X : ez_X) (as : List Value) : List (Option Value) := as.map some ++ List.replicate (X.2.2.1 - as.length) none
theorem ez_args : ∀ (vs : List Value) (k i : Nat) (v : Value), (∀ w ∈ vs, w.category = 1) → vs[i]? = some v → (k + i, v) ∈ lv_args k vs := by
  intro vs
  induction vs with
  | nil => intro k i v _ h; simp at h
  | cons w vs ih =>
    intro k i v hc h
    have hw : ¬ w.category = 2 := by rw [hc w List.mem_cons_self]; decide
    simp only [lv_args, hw, if_false]
    cases i with
    | zero =>
      simp only [List.getElem?_cons_zero, Option.some.injEq] at h
      subst h
      exact List.mem_cons_self
    | succ i =>
      rw [List.getElem?_cons_succ] at h
      have := ih (k + 1) i v (fun x hx => hc x (List.mem_cons_of_mem _ hx)) h
      rw [show k + (i + 1) = k + 1 + i by omega]
      exact List.mem_cons_of_mem _ this
theorem ez_sl : ∀ (vs : List Value), (∀ w ∈ vs, w.category = 1) → (lg_sl vs).length = vs.length := by
  intro vs
  induction vs with
  | nil => intro _; rfl
  | cons w vs ih =>
    intro hc
    have hw : ¬ w.category = 2 := by rw [hc w List.mem_cons_self]; decide
    have e : lg_sl (w :: vs) = Slot.val w :: lg_sl vs := by simp [lg_sl, hw]
    rw [e, List.length_cons, ih (fun x hx => hc x (List.mem_cons_of_mem _ hx)), List.length_cons]
theorem ez_L_entry {X : ez_X} (ad : Nat → Nat) {as : List Value} (hc : ∀ w ∈ as, w.category = 1) (hl : as.length ≤ X.2.2.1) :
    ez_L ad X.2.2.1 (ez_ls X as) ((lg_sl (as.map (ez_v ad)) ++ List.replicate (X.2.2.1 - (lg_sl (as.map (ez_v ad))).length) Slot.unset).toArray) := by
  have hc' : ∀ w ∈ as.map (ez_v ad), w.category = 1 := by
    intro w hw
    obtain ⟨v, hv, rfl⟩ := List.mem_map.mp hw
    rw [ez_cat]
    exact hc v hv
  have hn := ez_sl _ hc'
  rw [List.length_map] at hn
  obtain ⟨h1, h2, h3⟩ := lv_entry (as.map (ez_v ad)) (n := X.2.2.1) (by rw [hn]; exact hl)
  refine ⟨h1, h2, fun i v hi => ?_⟩
  unfold ez_ls at hi
  by_cases hlt : i < as.length
  · rw [List.getElem?_append_left (by rw [List.length_map]; exact hlt), List.getElem?_map] at hi
    cases ha : as[i]? with
    | none => rw [ha] at hi; cases hi
    | some w =>
      rw [ha] at hi
      simp only [Option.map_some, Option.some.injEq] at hi
      subst hi
      refine ⟨hc w (List.mem_of_getElem? ha), ?_⟩
      have := h3 _ (ez_args (as.map (ez_v ad)) 0 i (ez_v ad w) hc' (by rw [List.getElem?_map, ha]; rfl))
      simpa using this
  · rw [List.getElem?_append_right (by rw [List.length_map]; omega), List.getElem?_replicate] at hi
    split at hi <;> cases hi
theorem ez_Ct_of {l : Launch} {G : ez_G} {X : ez_X} {n : Nat} {as : List Value} {h : ez_H} {Q : ez_R → Prop} (hok : ez_ok X n) (hcat : ∀ w ∈ as, w.category = 1) (hlen : as.length ≤ X.2.2.1)
    (body : ez_Ev l G X 0 0 0 (ez_ls X as) [] h Q) : ez_Ct l G X as h Q := by
  intro ad sz
  refine MetFree.of_bodyS (code := X.2.1) (maxLocals := X.2.2.1) (ret := X.2.2.2.1) hok.1 ?_ ?_
  · intro args s m hpre hn
    obtain ⟨meth, c, h1, h2, h3, h4, h5, h6, -, -⟩ := ez_code_spec hn (atoms_spec (ws := ez_T) hpre _ hok.2.1)
    exact ⟨meth, c, h1, h2, h3, h4, h5, h6⟩
  · intro p e s m args below meth c s₁ B hml hP _
    obtain ⟨rfl, hsz, hPw, hD, hK, hro, hap, had⟩ := hP
    have hts := atoms_spec (ws := ez_T) B.pre
    obtain ⟨meth', c', h1, h2, -, -, -, -, hh, -⟩ := ez_code_spec B.named (hts _ hok.2.1)
    cases B.method.symm.trans h1
    cases (Stand.of_body B).code.symm.trans h2
    have hh0 : s₁.heap = s.heap := by rw [B.state]; rfl
    have I : ez_In G X 0 0 (ez_ls X as) h p s m _ meth c (va_A (ez_ws G ad h) sz) h.length ad ad s.heap [] 0 0 _ :=
      ⟨⟨B.exec, B.bytes, hml, findClass_of_methodNamed B.named, hts, B.returns, B.notSynchronized, hh, hK, (name_of_methodNamed B.named B.method).1⟩, fun q hq => Or.inr (by rw [← hsz]; exact hq), ⟨hro, hap, had⟩, Nat.le_refl _, fun _ _ => rfl, hPw, hD.self, va_S.rf, ez_L_entry ad hcat hlen, Nat.le_refl _, Nat.le_refl _⟩
    obtain ⟨t, a1, o, b1, b2, b3, b4, b5⟩ := body p e s m _ below meth c _ _ _ _ _ _ _ _ _ I s₁ hh0 (Stand.of_body B)
    refine ⟨t, o, ?_, b1, b2, ⟨b3, b4⟩, b5⟩
    rw [lg_entry_eq]
    exact a1
/-! calls: whatever the outcome -/
theorem ez_any {l : Launch} {R : Room} {p : Program} {e : Env} {below : List Frame} {s : State} {sargs : Array Value} {X : ez_X} {Pc : Array Value → State → Prop} {Qc : State → Outcome → State → Prop} {free : Addr → Prop}
    (hM : ez_Met l X Pc Qc free) (hT : ∀ w ∈ ez_T, ∀ (a' : Array Value) (U : State), s.WarmedH U.vm → w.before a' U = true) (hcode : ez_code X ∈ ez_T) (hini : Cond.initialized X.1.cls ∈ ez_T) (hblind : FrameBlind Pc)
    (hfr : ez_fr X + 1 ≤ R.frames) (hlo : 8 + (X.2.2.1 + 11) + ez_lo X ≤ R.locals) {m : MethodId} {meth : Method} {c : Code} {U : State} {locs : List Loc} {cells slots : Nat} (S : Stand p l e R s m sargs below meth c U locs cells slots)
    {g : JFrame} {ig : Instr} {len : Nat} {mk : MethodId} {a : Array Value} (hg : g.method = m) (hsize : g.locals.size = c.maxLocals) (hdg : decode c.code g.pc = .ok (ig, len)) (hW : 2 * g.monitorRoom + (g.stack.map fun v => v.category).sum ≤ 8)
    (hn : U.methodNamed? X.1 = some mk) (hc : cells + ez_rc X ≤ R.cells) (hs : slots + ez_rs X ≤ R.slots) (hP : Pc a U) :
    ∃ (o : Outcome) (st t T' : State) (L : List Loc), st.heap = U.heap ∧ Stand p l e R s m sargs below meth c T' (locs ++ L) (cells + ez_kc X o) (slots + ez_ks X o) ∧ (∀ q ∈ L, free q.base) ∧ T'.heap = t.heap ∧ T'.vm = t.vm ∧ Qc st o t ∧
      (∀ v, o = .returned v → Steps p.tables e below (doInvoke e (U.setTop g) [] mk a).1 (T'.setTop { g with pc := g.pc + len, stack := v.toList ++ g.stack })) ∧
      (∀ x, o = .threw x → Steps p.tables e below (doInvoke e (U.setTop g) [] mk a).1 ((T'.setTop g).pushFrame (.throwing x))) := by
  obtain ⟨methY, cY, hmY, hcY, -, hlY, -, -, -, -⟩ := ez_code_spec hn (hT _ hcode a U S.warmed)
  obtain ⟨kY, hkY, -⟩ := className_of_methodNamed hn
  have hinitY : kY.init = .initialized := Cond.initialized_spec (findClass_of_methodNamed hn) hkY (hT _ hini a U S.warmed)
  have h : At U g.method c below := by rw [hg]; exact S.here
  have happ : (headSpec ez_T (ez_rm X)).appliesLoose X.1 e.platform (U.calling g mk a) = true :=
    Spec.appliesLoose_calling (g := g) h hdg hn hkY hinitY
      (S.room_calling (g := g) (R' := ez_rm X) hsize hmY hcY hfr (by rw [hlY]; show _ + ez_lo X ≤ _; omega) hc hs) (atoms_intro fun w hw => hT w hw a U S.warmed)
  obtain ⟨mid, hmid⟩ := h.above
  have hfr2 : (U.setTop g).frames = (.java g :: mid) ++ below := by rw [State.frames_setTop' g h.top, hmid]; rfl
  obtain ⟨o, s₂, hsteps, -, hend, hq⟩ := Steps.callFree hM p S.admits S.cas S.clock (acts := []) hfr2 happ (hblind _ _ _ _ hP) trivial
  obtain ⟨hqc, L, ⟨hW₂, e2, q2, q3, q4, q5, q6⟩, hL⟩ := hq
  rw [State.frames_setTop' g h.top] at hend
  have e3 : s₂ = ({ (U.calling g mk a).setFrames s₂.frames with heap := s₂.heap, slotsUsed := s₂.slotsUsed } : State).setVm s₂.vm := by
    have h9 : s₂ = ({ s₂ with vm := (U.calling g mk a).vm } : State).setVm s₂.vm := rfl
    have e2' : ({ s₂ with vm := (U.calling g mk a).vm } : State) = { (U.calling g mk a).setFrames s₂.frames with heap := s₂.heap, slotsUsed := s₂.slotsUsed } := e2
    rw [e2'] at h9
    exact h9
  have hW' : U.WarmedH s₂.vm := hW₂
  obtain ⟨g₀, hg0⟩ := Option.isSome_iff_exists.mp h.top
  obtain ⟨r, hr⟩ := State.topJava?_eq_some.mp hg0
  have hr' : (({ U with heap := s₂.heap, slotsUsed := s₂.slotsUsed } : State).setVm s₂.vm).frames = .java g₀ :: r := hr
  have hsame : U.sameButNew ({ U with heap := s₂.heap, slotsUsed := s₂.slotsUsed } : State) L (ez_kc X o) (ez_ks X o) := by
    refine ⟨?_, q2, q3, q4, q5, q6⟩
    obtain ⟨t, ht, -⟩ := State.frames_cons hr
    show ({ U with heap := s₂.heap, slotsUsed := s₂.slotsUsed } : State) = { U.setFrames U.frames with heap := s₂.heap, slotsUsed := s₂.slotsUsed }
    rw [State.setFrames_self ht]
  refine ⟨o, U.calling g mk a, s₂, ({ U with heap := s₂.heap, slotsUsed := s₂.slotsUsed } : State).setVm s₂.vm, L, rfl,
    ⟨S.admits, S.cas, S.clock, S.frames, S.room, S.hears, S.method, S.code, (S.here.setHeapUsed s₂.heap s₂.slotsUsed).setVm hW'.alike, S.tail, State.WarmedH.trans S.warmed hW', S.limits, S.bytes, S.same.trans (hsame.setVm s.vm)⟩, hL, rfl, rfl, hqc, ?_, ?_⟩
  · rintro v rfl
    obtain ⟨c₂, i₂, len₂, hc₂, hd₂, hf₂⟩ := hend
    have hcc : c₂ = c := by
      have h1 : s₂.code? g.method = U.code? g.method := by rw [State.code?_eq, State.code?_eq, hW'.alike.method?]
      exact Option.some.inj (hc₂.symm.trans (h1.trans h.code))
    subst hcc
    have hlen : len₂ = len := by rw [hdg] at hd₂; cases hd₂; rfl
    subst hlen
    have hs₂ : s₂ = (({ U with heap := s₂.heap, slotsUsed := s₂.slotsUsed } : State).setVm s₂.vm).setTop { g with pc := g.pc + len₂, stack := v.toList ++ g.stack } := by
      refine e3.trans ?_
      rw [hf₂, State.calling_eq h.top, State.setFrames_setFrames, State.setTop_of_frames _ hr', hr]
      rfl
    rw [← hs₂]
    exact hsteps
  · rintro x rfl
    have hf₂ : s₂.frames = .throwing x :: .java g :: U.frames.tail := hend
    have hs₂ : s₂ = ((({ U with heap := s₂.heap, slotsUsed := s₂.slotsUsed } : State).setVm s₂.vm).setTop g).pushFrame (.throwing x) := by
      refine e3.trans ?_
      rw [hf₂, State.calling_eq h.top, State.setFrames_setFrames, State.pushFrame, State.frames_setTop _ hr', State.setTop_of_frames _ hr', State.setFrames_setFrames, hr]
      rfl
    rw [← hs₂]
    exact hsteps
/-! the three kinds of call, to the callee's entry -/
section EzGo
variable {p : Program} {l : Launch} {e : Env} {R : Room} {s : State} {m : MethodId} {args : Array Value} {below : List Frame} {meth : Method} {c : Code} {T : State} {locs : List Loc} {cells slots : Nat}
def ez_link (own : String) (index : Nat) (y : MethodName) : Prop := Cond.methodLink own index y ∈ ez_T ∨ ∃ host, Cond.methodLinkNest own index y host ∈ ez_T
def ez_To (p : Program) (l : Launch) (e : Env) (R : Room) (s : State) (m : MethodId) (args : Array Value) (below : List Frame) (meth : Method) (c : Code) (T : State) (locs : List Loc) (cells slots : Nat) (y : MethodName) (g : JFrame) (rest : List Value) (a : Array Value) : Prop :=
  ∃ (vm₁ : Vm) (mk : MethodId), s.methodNamed? y = some mk ∧ Stand p l e R s m args below meth c (T.setVm vm₁) locs cells slots ∧ ∀ target, Steps p.tables e below (doInvoke e ((T.setVm vm₁).setTop { g with stack := rest }) [] mk a).1 target → Steps p.tables e below (T.setTop g) target
theorem ez_goS (X : Stand p l e R s m args below meth c T locs cells slots) (hexec : p.tables.exec = Jvm.exec) (hts : ∀ w ∈ ez_T, w.before args s = true) {own : String} {index n : Nat} {Y : ez_X} (hok : ez_ok Y n)
    (hown : s.vm.findClass own = some m.cls) (hl : ez_link own index Y.1) (hstat : Cond.static Y.1 ∈ ez_T)
    {g : JFrame} (hg : g.method = m) {argsL rest : List Value} (hn : argsL.length = n) (hstack : g.stack = argsL.reverse ++ rest) (hdg : decode c.code g.pc = .ok (.invokestatic index, 3)) :
    ez_To p l e R s m args below meth c T locs cells slots Y.1 g rest argsL.toArray := by
  obtain ⟨-, hcw, hiw, hy, hpar⟩ := hok
  have hcode := hts _ hcw
  obtain ⟨mk, hnamed⟩ : ∃ mk, s.methodNamed? Y.1 = some mk := by
    obtain ⟨y, cc, n, ret, hs, rm⟩ := Y
    cases hs with
    | nil => exact Cond.code_named hcode
    | cons q hs =>
      obtain ⟨m', meth, c, h0, -⟩ := Cond.codeWith_spec (x := y) (bytes := cc) (maxLocals := n) (ret := ret) (handlers := q :: hs) hcode
      exact ⟨m', h0⟩
  obtain ⟨methM, cM, hmethM, -, -, -, -, -, -, hsigM⟩ := ez_code_spec hnamed hcode
  have hstatic : methM.isStatic = true := Cond.static_spec hnamed hmethM (hts _ hstat)
  obtain ⟨kP, hkP, -⟩ := className_of_methodNamed hnamed
  have hinitP : kP.init = .initialized := Cond.initialized_spec (findClass_of_methodNamed hnamed) hkP (hts _ hiw)
  have hlen : argsL.length = methM.sig.parameters.length := by
    rw [hsigM] at hpar
    exact hn.trans (Option.some.inj hpar).symm
  rcases hl with hl | ⟨host, hl⟩
  · obtain ⟨vm₁, X₁, hstep₁⟩ := X.invokestatic hexec hown (hts _ hl) hnamed hmethM hstatic hkP hinitP hy (g := g) hg (argsL := argsL) (rest := rest) hlen hstack hdg
    exact ⟨vm₁, mk, hnamed, X₁, fun target h => hstep₁ _ fun acts => by rw [doInvoke_state]; exact h⟩
  · obtain ⟨vm₁, X₁, hstep₁⟩ := X.invokestaticNest hexec hown (hts _ hl) hnamed hmethM hstatic hkP hinitP hy (g := g) hg (argsL := argsL) (rest := rest) hlen hstack hdg
    exact ⟨vm₁, mk, hnamed, X₁, fun target h => hstep₁ _ fun acts => by rw [doInvoke_state]; exact h⟩
theorem ez_goV (X : Stand p l e R s m args below meth c T locs cells slots) (hexec : p.tables.exec = Jvm.exec) (hts : ∀ w ∈ ez_T, w.before args s = true) {own : String} {index n : Nat} {Y : ez_X} (hok : ez_ok Y n)
    (hown : s.vm.findClass own = some m.cls) (hl : ez_link own index Y.1) (hinst : Cond.instanceMethod Y.1 ∈ ez_T) (hsel : Cond.selects Y.1.cls Y.1 Y.1 ∈ ez_T)
    {b : Addr} {cellB : Cell} (hcell : T.heap[b]? = some cellB) (hobj : cellB.vm.isStatics = false) (hcls : s.vm.findClass Y.1.cls = some cellB.cls)
    {g : JFrame} (hg : g.method = m) {argsL rest : List Value} (hn : argsL.length = n) (hstack : g.stack = argsL.reverse ++ .ref b :: rest) (hdg : decode c.code g.pc = .ok (.invokevirtual index, 3)) :
    ez_To p l e R s m args below meth c T locs cells slots Y.1 g rest (Value.ref b :: argsL).toArray := by
  obtain ⟨-, hcw, -, hy, hpar⟩ := hok
  obtain ⟨mk, methM, hnamed, hmethM, hstM, habM⟩ := Cond.instanceMethod_spec (hts _ hinst)
  obtain ⟨methM', cM, hmethM', -, -, -, -, -, -, hsigM⟩ := ez_code_spec hnamed (hts _ hcw)
  cases hmethM.symm.trans hmethM'
  obtain ⟨c2, r2, m2, q1, q2, q3, q4, kP, hkP, hkPi⟩ := Cond.selects_spec (hts _ hsel)
  cases hcls.symm.trans q1
  cases (State.methodFound?_of_named hnamed hy).symm.trans q2
  cases hnamed.symm.trans q3
  have hselP : selectMethod e.platform s.vm cellB.cls mk = .method mk := by rw [Launch.admits_selectMethod X.admits]; exact q4
  have hlen : argsL.length = methM.sig.parameters.length := by
    rw [hsigM] at hpar
    exact hn.trans (Option.some.inj hpar).symm
  rcases hl with hl | ⟨host, hl⟩
  · obtain ⟨vm₁, X₁, hstep₁⟩ := X.invokevirtual hexec hown (hts _ hl) hnamed hmethM hstM hkP hkPi hy (a := b) (cell := cellB) hcell
      (fun z h => by rw [h] at hobj; cases hobj) hselP hmethM habM hkP hkPi (g := g) hg (argsL := argsL) (rest := rest) hlen hstack hdg
    exact ⟨vm₁, mk, hnamed, X₁, fun target h => hstep₁ _ fun acts => by rw [doInvoke_state]; exact h⟩
  · obtain ⟨vm₁, X₁, hstep₁⟩ := X.invokevirtualNest hexec hown (hts _ hl) hnamed hmethM hstM hkP hkPi hy (a := b) (cell := cellB) hcell
      (fun z h => by rw [h] at hobj; cases hobj) hselP hmethM habM hkP hkPi (g := g) hg (argsL := argsL) (rest := rest) hlen hstack hdg
    exact ⟨vm₁, mk, hnamed, X₁, fun target h => hstep₁ _ fun acts => by rw [doInvoke_state]; exact h⟩
theorem ez_goI (X : Stand p l e R s m args below meth c T locs cells slots) (hexec : p.tables.exec = Jvm.exec) (hts : ∀ w ∈ ez_T, w.before args s = true) {own : String} {index n : Nat} {Y : ez_X} (hok : ez_ok Y n) (hy1 : Y.1.name = "<init>") (hr : Y.2.2.2.1 = none) (hh : ez_hs Y = [])
    (hown : s.vm.findClass own = some m.cls) (hl : ez_link own index Y.1) (hinst : Cond.instanceMethod Y.1 ∈ ez_T)
    {a : Addr} {g : JFrame} (hg : g.method = m) {argsL rest : List Value} (hn : argsL.length = n) (hstack : g.stack = argsL.reverse ++ .ref a :: rest) (hdg : decode c.code g.pc = .ok (.invokespecial index, 3)) :
    ez_To p l e R s m args below meth c T locs cells slots Y.1 g rest (Value.ref a :: argsL).toArray := by
  obtain ⟨y, cc, nl, ret, hs, rm⟩ := Y
  cases hr
  cases hh
  obtain ⟨-, hcw, -, hy, hpar⟩ := hok
  have hcode : (Cond.code y cc nl none).before args s = true := hts _ hcw
  have hpl : e.platform.magicAccessors = ({} : Platform).magicAccessors := by rw [X.admits.platform]
  have hlen : ∀ sig, parseMethodDescriptor y.desc = some sig → argsL.length = sig.parameters.length := fun sig h => by
    rw [h] at hpar
    exact hn.trans (Option.some.inj hpar).symm
  subst hg
  rcases hl with hl | ⟨host, hl⟩
  · obtain ⟨mk, methM, cM, kP, vm₁, hnamed, hmethM, hcodeM, -, hlocalsM, -, hkP, -, hW₁, hstep₁⟩ := Steps.initColdArgs (e := e) X.here hexec X.warmed hpl hown hy1 hy (hts _ hl) (hts _ hinst) hcode (f := g) rfl hlen hstack hdg
    exact ⟨vm₁, mk, hnamed, X.noted hW₁, fun target h => hstep₁ _ fun acts => by rw [doInvoke_state]; exact h⟩
  · obtain ⟨mk, methM, cM, kP, vm₁, hnamed, hmethM, hcodeM, -, hlocalsM, -, hkP, -, hW₁, hstep₁⟩ := Steps.initColdArgsNest (e := e) X.here hexec X.warmed hpl hown hy1 hy (hts _ hl) (hts _ hinst) hcode (f := g) rfl hlen hstack hdg
    exact ⟨vm₁, mk, hnamed, X.noted hW₁, fun target h => hstep₁ _ fun acts => by rw [doInvoke_state]; exact h⟩
end EzGo
/-! a call, in the layer -/
def ez_still (n n' : Nat) (ls : List (Option Value)) (rest : List Value) : Prop := ∀ ad ad' : Nat → Nat, (∀ k, ¬ (n ≤ k ∧ k < n') → ad' k = ad k) → rest.map (ez_v ad') = rest.map (ez_v ad) ∧ ∀ (i : Nat) (v : Value), ls[i]? = some (some v) → ez_v ad' v = ez_v ad v
theorem ez_still_eq (n : Nat) (ls : List (Option Value)) (rest : List Value) : ez_still n n ls rest := by
  intro ad ad' h
  have e : ad' = ad := funext fun k => h k (by omega)
  subst e
  exact ⟨rfl, fun _ _ _ => rfl⟩
def ez_old (n n' : Nat) (v : Value) : Bool := match v with
  | .ref k => !(decide (n ≤ k) && decide (k < n'))
  | _ => true
theorem ez_old_eq {n n' : Nat} {v : Value} (hv : ez_old n n' v = true) {ad ad' : Nat → Nat} (h : ∀ k, ¬ (n ≤ k ∧ k < n') → ad' k = ad k) : ez_v ad' v = ez_v ad v := by
  cases v <;> try rfl
  rename_i k
  have hk : ¬ (n ≤ k ∧ k < n') := fun ⟨a, b⟩ => by simp [ez_old, a, b] at hv
  simp only [ez_v]
  rw [h k hk]
theorem ez_still_of {n n' : Nat} {ls : List (Option Value)} {rest : List Value} (h1 : rest.all (ez_old n n') = true) (h2 : ls.all (fun o => match o with | some v => ez_old n n' v | none => true) = true) : ez_still n n' ls rest := by
  intro ad ad' h
  refine ⟨List.map_congr_left fun v hv => ez_old_eq (List.all_eq_true.mp h1 v hv) h, fun i v hi => ?_⟩
  exact ez_old_eq (List.all_eq_true.mp h2 _ (List.mem_of_getElem? hi)) h
/-- an exception of a kind has just come to this frame -/
def ez_Th (l : Launch) (G : ez_G) (X : ez_X) (uc us pc : Nat) (ls : List (Option Value)) (h : ez_H) (kx : Nat) (Q : ez_R → Prop) : Prop :=
  ∀ (p : Program) (e : Env) (s : State) (m : MethodId) (args : Array Value) (below : List Frame) (meth : Method) (c : Code) (A : Nat → Prop) (n0 : Nat) (ad0 ad : Nat → Nat) (H : Heap) (locs : List Loc) (cells slots : Nat) (L : Array Slot) (st : List Value) (x : Addr) (cell : Cell) (T : State),
    ez_In G X uc us ls h p s m args meth c A n0 ad0 ad H locs cells slots L → H[x]? = some cell → cell.vm = .none → s.vm.findClass (ez_exN kx) = some cell.cls → T.heap = H → Stand p l e (ez_rm X) s m args below meth c T locs cells slots →
    ∃ t, Steps p.tables e below ((T.setTop (F0 m pc L st)).pushFrame (.throwing x)) t ∧ ez_MQ X below s A (ez_Fin G A n0 ad0 Q) t
theorem ez_blind (G : ez_G) (ad : Nat → Nat) (sz : Nat) (as : List Value) (h : ez_H) : FrameBlind (ez_Pre G ad sz as h) := fun _ _ _ _ hp => hp
/-- a callee's room is there -/
def ez_fits (X Y : ez_X) (uc us : Nat) : Prop := (ez_fr Y + 1 ≤ ez_fr X ∧ 8 + (Y.2.2.1 + 11) + ez_lo Y ≤ ez_lo X) ∧ uc + ez_rc Y ≤ ez_rc X ∧ us + ez_rs Y ≤ ez_rs X
section EzCall
variable {l : Launch} {G : ez_G} {X Y : ez_X} {uc us pc pc' n : Nat} {ls : List (Option Value)} {st rest as : List Value} {h : ez_H} {Q Qc : ez_R → Prop}
theorem ez_call (hok : ez_ok Y n) (hC : ez_Ct l G Y as h Qc) (hroom : ez_fits X Y uc us) (hrest : (rest.map fun v => v.category).sum ≤ 8)
    (hto : ∀ (p : Program) (e : Env) (s : State) (m : MethodId) (args : Array Value) (below : List Frame) (meth : Method) (c : Code) (A : Nat → Prop) (n0 : Nat) (ad0 ad : Nat → Nat) (H : Heap) (locs : List Loc) (cells slots : Nat) (L : Array Slot) (T : State),
      ez_In G X uc us ls h p s m args meth c A n0 ad0 ad H locs cells slots L → T.heap = H → Stand p l e (ez_rm X) s m args below meth c T locs cells slots →
      ez_To p l e (ez_rm X) s m args below meth c T locs cells slots Y.1 (F0 m pc L (st.map (ez_v ad))) (rest.map (ez_v ad)) (as.map (ez_v ad)).toArray)
    (hdg : ∃ ig, decode X.2.1 pc = .ok (ig, 3)) (hp : pc + 3 = pc')
    (kr : ∀ v h', Qc (.inl v, h') → ez_still h.length h'.length ls rest ∧ ez_Ev l G X (uc + ez_mc Y) (us + ez_ms Y) pc' ls (v.toList ++ rest) h' Q)
    (kt : ∀ k h', Qc (.inr k, h') → h'.length = h.length ∧ ez_Th l G X (uc + ez_mc Y + 1) (us + ez_ms Y + 6) pc ls h' k Q) : ez_Ev l G X uc us pc ls st h Q := by
  intro p e s m args below meth c A n0 ad0 ad H locs cells slots L I T hT S
  obtain ⟨vm₁, mk, hnamed, S₁, hgo⟩ := hto p e s m args below meth c A n0 ad0 ad H locs cells slots L T I hT S
  obtain ⟨hctx, hA, ⟨hRo, hh9, had⟩, hn0, hag, hPw, hD, hS, hL, hc1, hs1⟩ := I
  obtain ⟨hx, hb, hml, hown, hts, hret, hlk, hhand, hK, -⟩ := id hctx
  obtain ⟨ig, hdg⟩ := hdg
  have hAH : ∀ q, va_A (ez_ws G ad h) H.size q → A q := by
    intro q hq
    rcases hq with ⟨k, e2, hk⟩ | hq
    · exact hD.2 k _ hk
    · exact hA q (Nat.le_trans hS.1 hq)
  have hweigh : 2 * (F0 m pc L (rest.map (ez_v ad))).monitorRoom + ((F0 m pc L (rest.map (ez_v ad))).stack.map fun v => v.category).sum ≤ 8 := by
    have e1 : ((rest.map (ez_v ad)).map fun v => v.category) = rest.map fun v => v.category := by
      rw [List.map_map]
      exact List.map_congr_left fun v _ => ez_cat ad v
    show 2 * 0 + ((rest.map (ez_v ad)).map fun v => v.category).sum ≤ 8
    rw [e1]
    omega
  have hpre : ez_Pre G ad H.size as h (as.map (ez_v ad)).toArray (T.setVm vm₁) := by
    refine ⟨rfl, by show T.heap.size = _; rw [hT], by show va_P _ _ _ T.heap; rw [hT]; exact hPw, ⟨hD.1, fun _ _ _ => trivial⟩, hK.moved S₁.warmed.alike, ?_, hh9, had⟩
    show ez_Ro G _ _ T.heap
    rw [hT]
    exact ((hRo.kept (fun q h1 h2 => hS.2.1 q h1 h2)).narrow hAH).moved S₁.warmed
  obtain ⟨o, st0, t, T', Lc, h0, S', hLc, e1, e2, ⟨hfin, hF⟩, hr, hth⟩ := ez_any (hC ad H.size) (ez_T_keep hts) hok.2.1 hok.2.2.1 (ez_blind G ad H.size as h) (R := ez_rm X) hroom.1.1 hroom.1.2 S₁
    (g := F0 m pc L (rest.map (ez_v ad))) (ig := ig) (len := 3) (mk := mk) (a := (as.map (ez_v ad)).toArray) rfl (by rw [hml]; exact hL.1) (by rw [hb]; exact hdg) hweigh (S₁.named hnamed) (by show cells + ez_rc Y ≤ ez_rc X; have := hroom.2.1; omega) (by show slots + ez_rs Y ≤ ez_rs X; have := hroom.2.2; omega) hpre
  have h0' : st0.heap = H := h0.trans hT
  obtain ⟨⟨r, h'⟩, ad', hq, ⟨hl', hl9⟩, hag', hP', hD', ho⟩ := hfin
  have hF1 : H.size ≤ T'.heap.size := by rw [e1, ← h0']; exact hF.1
  have hF2 : ∀ q : Nat, q < H.size → ¬ va_A (ez_ws G ad h) H.size q → T'.heap[q]? = H[q]? := fun q h1 h2 => by rw [e1, ← h0']; exact hF.2 q (by rw [h0']; exact h1) h2
  have hS' : va_S A s.heap T'.heap (locs ++ Lc) := by
    refine ⟨Nat.le_trans hS.1 hF1, fun q h1 h2 => ?_, fun q hq => ?_⟩
    · rw [hF2 q (Nat.lt_of_lt_of_le h1 hS.1) (fun z => h2 (hAH q z))]
      exact hS.2.1 q h1 h2
    · rcases List.mem_append.mp hq with h1 | h1
      · exact hS.2.2 q h1
      · exact hAH _ (hLc q h1)
  have hDA : va_D A (ez_ws G ad' h') := ⟨hD'.1, fun k q hk => hAH _ (hD'.2 k q hk)⟩
  have hPT : va_P G.1 ez_cl (ez_ws G ad' h') T'.heap := by rw [e1]; exact hP'
  have hag2 : ∀ k, ¬ (n0 ≤ k ∧ k < h'.length) → ad' k = ad0 k := fun k hk => (hag' k (by dsimp only; omega)).trans (hag k (by dsimp only at hl'; omega))
  have had2 : ∀ k, 900 ≤ k → ad' k = G.2.2.1 k := fun k hk => (hag' k (by dsimp only at hl9 ⊢; omega)).trans (had k hk)
  cases r with
  | inl v =>
    obtain ⟨hst, hev⟩ := kr v h' hq
    obtain ⟨hr1, hr2⟩ := hst ad ad' hag'
    subst ho
    have I' : ez_In G X (uc + ez_mc Y) (us + ez_ms Y) ls h' p s m args meth c A n0 ad0 ad' T'.heap (locs ++ Lc) (cells + ez_mc Y) (slots + ez_ms Y) L :=
      ⟨hctx, hA, ⟨hRo, hl9, had2⟩, Nat.le_trans hn0 hl', hag2, hPT, hDA, hS', ⟨hL.1, hL.2.1, fun i w hi => by rw [hr2 i w hi]; exact hL.2.2 i w hi⟩, by omega, by omega⟩
    obtain ⟨t2, a1, b1⟩ := hev p e s m args below meth c A n0 ad0 ad' T'.heap (locs ++ Lc) (cells + ez_mc Y) (slots + ez_ms Y) L I' T' rfl S'
    refine ⟨t2, hgo t2 ((hr _ rfl).trans ?_), b1⟩
    have e3 : (v.map (ez_v ad')).toList ++ rest.map (ez_v ad) = (v.toList ++ rest).map (ez_v ad') := by
      rw [← hr1]
      cases v <;> simp
    subst hp
    show Steps p.tables e below (T'.setTop (F0 m (pc + 3) L ((v.map (ez_v ad')).toList ++ rest.map (ez_v ad)))) t2
    rw [e3]
    exact a1
  | inr k =>
    obtain ⟨hle, hev⟩ := kt k h' hq
    obtain ⟨x, cell, ho1, ho2, ho3, ho4⟩ := ho
    have hlh : h.length = h'.length := hle.symm
    have e : ad' = ad := funext fun k => hag' k (by dsimp only; omega)
    subst e
    subst ho1
    have I' : ez_In G X (uc + ez_mc Y + 1) (us + ez_ms Y + 6) ls h' p s m args meth c A n0 ad0 ad' T'.heap (locs ++ Lc) (cells + (ez_mc Y + 1)) (slots + (ez_ms Y + 6)) L :=
      ⟨hctx, hA, ⟨hRo, hl9, had2⟩, Nat.le_trans hn0 hl', hag2, hPT, hDA, hS', hL, by omega, by omega⟩
    obtain ⟨t2, a1, b1⟩ := hev p e s m args below meth c A n0 ad0 ad' T'.heap (locs ++ Lc) (cells + (ez_mc Y + 1)) (slots + (ez_ms Y + 6)) L (rest.map (ez_v ad')) x cell T' I' (by rw [e1]; exact ho2) ho3 (by rw [← ho4, ← e2]; exact (S'.warmed.alike.findClass _ _).symm) rfl S'
    exact ⟨t2, hgo t2 ((hth x rfl).trans a1), b1⟩
/-- an exception leaves a method that has no handlers -/
theorem ez_Th_out (hX : ez_hs X = []) (hu : uc ≤ ez_mc X + 1 ∧ us ≤ ez_ms X + 6) (hq : Q (.inr n, h)) : ez_Th l G X uc us pc ls h n Q := by
  intro p e s m args below meth c A n0 ad0 ad H locs cells slots L st x cell T I hx1 hx2 hx3 hT S
  obtain ⟨⟨hx, hb, hml, hown, hts, hret, hlk, hhand, hK, -⟩, hA, ⟨hRo, hh9, had⟩, hn0, hag, hPw, hD, hS, hL, hc1, hs1⟩ := I
  have hout : ∀ y ∈ c.exceptionTable.toList, covers y (F0 m pc L st).pc = false := by
    rw [hX] at hhand
    rw [List.map_eq_nil_iff.mp hhand]
    intro y hy
    cases hy
  have S2 := stand_widen S (show cells ≤ ez_mc X + 1 by omega) (show slots ≤ ez_ms X + 6 by omega)
  obtain ⟨w1, w2, w3, w4, w5⟩ := S2.leaveThrown x (g := F0 m pc L st) rfl rfl rfl hout hlk
  refine ⟨_, w1, .threw x, w2, w3, ⟨(.inr n, h), ad, hq, ⟨hn0, hh9⟩, hag, by show va_P _ _ _ T.heap; rw [hT]; exact hPw, hD, x, cell, rfl, by show T.heap[x]? = _; rw [hT]; exact hx1, hx2, ?_⟩, hS.F hT, locs, ⟨w4, w5⟩, hS.2.2⟩
  show T.vm.findClass _ = _
  rw [S.warmed.alike.findClass]
  exact hx3
end EzCall
end
section
/-! ===== the layer's rows ===== -/
section EzRows
variable {l : Launch} {G : ez_G} {X : ez_X} {uc us pc pc' tgt : Nat} {ls : List (Option Value)} {st : List Value} {h : ez_H} {Q : ez_R → Prop}
/-- an instruction of so many bytes stands here, the next one there -/
def ez_at (X : ez_X) (pc : Nat) (i : Instr) (n pc' : Nat) : Prop := decode X.2.1 pc = .ok (i, n) ∧ pc + n = pc'
/-- a branch: its instruction, the next one, its offset, its target -/
def ez_br (X : ez_X) (pc : Nat) (i : Instr) (n pc' : Nat) (off : Int) (tgt : Nat) : Prop := decode X.2.1 pc = .ok (i, n) ∧ pc + n = pc' ∧ (pc : Int) + off = (tgt : Int)
theorem ez_pure {st' : List Value}
    (hW : ∀ (p : Program) (e : Env) (s : State) (m : MethodId) (args : Array Value) (below : List Frame) (meth : Method) (c : Code) (ad : Nat → Nat) (H : Heap) (locs : List Loc) (cells slots : Nat) (Qz : State → Prop) (L : Array Slot), p.tables.exec = Jvm.exec → c.code = X.2.1 →
      W p l e (ez_rm X) s m args below meth c H locs cells slots Qz (F0 m pc' L (st'.map (ez_v ad))) → W p l e (ez_rm X) s m args below meth c H locs cells slots Qz (F0 m pc L (st.map (ez_v ad))))
    (k : ez_Ev l G X uc us pc' ls st' h Q) : ez_Ev l G X uc us pc ls st h Q :=
  fun p e s m args below meth c A n0 ad0 ad H locs cells slots L I => hW p e s m args below meth c ad H locs cells slots _ L I.1.1 I.1.2.1 (k p e s m args below meth c A n0 ad0 ad H locs cells slots L I)
theorem ev_iconst {n : Int} {v : Int32} (hd : ez_at X pc (.iconst n) 1 pc') (hv : Int32.ofInt n = v) (k : ez_Ev l G X uc us pc' ls (.int v :: st) h Q) : ez_Ev l G X uc us pc ls st h Q := by
  obtain ⟨hd, rfl⟩ := hd
  exact ez_pure (st' := .int v :: st) (fun p e s m args below meth c ad H locs cells slots Qz L hx hb kk => lv_iconst hx hb hd hv kk) k
theorem ev_bipush {n : Int} {v : Int32} (hd : ez_at X pc (.bipush n) 2 pc') (hv : (Int8.ofInt n).toInt32 = v) (k : ez_Ev l G X uc us pc' ls (.int v :: st) h Q) : ez_Ev l G X uc us pc ls st h Q := by
  obtain ⟨hd, rfl⟩ := hd
  exact ez_pure (st' := .int v :: st) (fun p e s m args below meth c ad H locs cells slots Qz L hx hb kk => lv_bipush hx hb hd hv kk) k
theorem ev_sipush {n : Int} {v : Int32} (hd : ez_at X pc (.sipush n) 3 pc') (hv : (Int16.ofInt n).toInt32 = v) (k : ez_Ev l G X uc us pc' ls (.int v :: st) h Q) : ez_Ev l G X uc us pc ls st h Q := by
  obtain ⟨hd, rfl⟩ := hd
  exact ez_pure (st' := .int v :: st) (fun p e s m args below meth c ad H locs cells slots Qz L hx hb kk => lv_sipush hx hb hd hv kk) k
theorem ev_iadd {x y : Int32} (hd : ez_at X pc .iadd 1 pc') (k : ez_Ev l G X uc us pc' ls (.int (x + y) :: st) h Q) : ez_Ev l G X uc us pc ls (.int y :: .int x :: st) h Q := by
  obtain ⟨hd, rfl⟩ := hd
  exact ez_pure (st' := .int (x + y) :: st) (fun p e s m args below meth c ad H locs cells slots Qz L hx hb kk => lv_iadd hx hb hd kk) k
theorem ev_isub {x y : Int32} (hd : ez_at X pc .isub 1 pc') (k : ez_Ev l G X uc us pc' ls (.int (x - y) :: st) h Q) : ez_Ev l G X uc us pc ls (.int y :: .int x :: st) h Q := by
  obtain ⟨hd, rfl⟩ := hd
  exact ez_pure (st' := .int (x - y) :: st) (fun p e s m args below meth c ad H locs cells slots Qz L hx hb kk => lv_isub hx hb hd kk) k
theorem ev_imul {x y : Int32} (hd : ez_at X pc .imul 1 pc') (k : ez_Ev l G X uc us pc' ls (.int (x * y) :: st) h Q) : ez_Ev l G X uc us pc ls (.int y :: .int x :: st) h Q := by
  obtain ⟨hd, rfl⟩ := hd
  exact ez_pure (st' := .int (x * y) :: st) (fun p e s m args below meth c ad H locs cells slots Qz L hx hb kk => lv_imul hx hb hd kk) k
theorem ev_iand {x y : Int32} (hd : ez_at X pc .iand 1 pc') (k : ez_Ev l G X uc us pc' ls (.int (x &&& y) :: st) h Q) : ez_Ev l G X uc us pc ls (.int y :: .int x :: st) h Q := by
  obtain ⟨hd, rfl⟩ := hd
  exact ez_pure (st' := .int (x &&& y) :: st) (fun p e s m args below meth c ad H locs cells slots Qz L hx hb kk => lv_iand hx hb hd kk) k
theorem ev_ior {x y : Int32} (hd : ez_at X pc .ior 1 pc') (k : ez_Ev l G X uc us pc' ls (.int (x ||| y) :: st) h Q) : ez_Ev l G X uc us pc ls (.int y :: .int x :: st) h Q := by
  obtain ⟨hd, rfl⟩ := hd
  exact ez_pure (st' := .int (x ||| y) :: st) (fun p e s m args below meth c ad H locs cells slots Qz L hx hb kk => lv_ior hx hb hd kk) k
theorem ev_ixor {x y : Int32} (hd : ez_at X pc .ixor 1 pc') (k : ez_Ev l G X uc us pc' ls (.int (x ^^^ y) :: st) h Q) : ez_Ev l G X uc us pc ls (.int y :: .int x :: st) h Q := by
  obtain ⟨hd, rfl⟩ := hd
  exact ez_pure (st' := .int (x ^^^ y) :: st) (fun p e s m args below meth c ad H locs cells slots Qz L hx hb kk => lv_ixor hx hb hd kk) k
theorem ev_ishl {x y : Int32} (hd : ez_at X pc .ishl 1 pc') (k : ez_Ev l G X uc us pc' ls (.int (x <<< (y &&& 31)) :: st) h Q) : ez_Ev l G X uc us pc ls (.int y :: .int x :: st) h Q := by
  obtain ⟨hd, rfl⟩ := hd
  exact ez_pure (st' := .int (x <<< (y &&& 31)) :: st) (fun p e s m args below meth c ad H locs cells slots Qz L hx hb kk => lv_ishl hx hb hd kk) k
theorem ev_ishr {x y : Int32} (hd : ez_at X pc .ishr 1 pc') (k : ez_Ev l G X uc us pc' ls (.int (x >>> (y &&& 31)) :: st) h Q) : ez_Ev l G X uc us pc ls (.int y :: .int x :: st) h Q := by
  obtain ⟨hd, rfl⟩ := hd
  exact ez_pure (st' := .int (x >>> (y &&& 31)) :: st) (fun p e s m args below meth c ad H locs cells slots Qz L hx hb kk => lv_ishr hx hb hd kk) k
theorem ev_iushr {x y : Int32} (hd : ez_at X pc .iushr 1 pc') (k : ez_Ev l G X uc us pc' ls (.int ((x.toUInt32 >>> (y.toUInt32 &&& Int32.toUInt32 31)).toInt32) :: st) h Q) : ez_Ev l G X uc us pc ls (.int y :: .int x :: st) h Q := by
  obtain ⟨hd, rfl⟩ := hd
  exact ez_pure (st' := .int ((x.toUInt32 >>> (y.toUInt32 &&& Int32.toUInt32 31)).toInt32) :: st) (fun p e s m args below meth c ad H locs cells slots Qz L hx hb kk => lv_iushr hx hb hd rfl kk) k
theorem ev_idiv {x y : Int32} (hd : ez_at X pc .idiv 1 pc') (hne : ¬ y = 0) (k : ez_Ev l G X uc us pc' ls (.int (x / y) :: st) h Q) : ez_Ev l G X uc us pc ls (.int y :: .int x :: st) h Q := by
  obtain ⟨hd, rfl⟩ := hd
  exact ez_pure (st' := .int (x / y) :: st) (fun p e s m args below meth c ad H locs cells slots Qz L hx hb kk => lv_idiv hx hb hd hne kk) k
theorem ev_irem {x y : Int32} (hd : ez_at X pc .irem 1 pc') (hne : ¬ y = 0) (k : ez_Ev l G X uc us pc' ls (.int (x - x / y * y) :: st) h Q) : ez_Ev l G X uc us pc ls (.int y :: .int x :: st) h Q := by
  obtain ⟨hd, rfl⟩ := hd
  exact ez_pure (st' := .int (x - x / y * y) :: st) (fun p e s m args below meth c ad H locs cells slots Qz L hx hb kk => lv_irem hx hb hd hne kk) k
theorem ev_ineg {x : Int32} (hd : ez_at X pc .ineg 1 pc') (k : ez_Ev l G X uc us pc' ls (.int (-x) :: st) h Q) : ez_Ev l G X uc us pc ls (.int x :: st) h Q := by
  obtain ⟨hd, rfl⟩ := hd
  exact ez_pure (st' := .int (-x) :: st) (fun p e s m args below meth c ad H locs cells slots Qz L hx hb kk => lv_ineg hx hb hd kk) k
theorem ev_goto {off : Int} {n : Nat} (hd : ez_br X pc (.goto off) 3 n off tgt) (k : ez_Ev l G X uc us tgt ls st h Q) : ez_Ev l G X uc us pc ls st h Q :=
  ez_pure (fun p e s m args below meth c ad H locs cells slots Qz L hx hb kk => lv_goto hx hb hd.1 hd.2.2 kk) k
theorem ev_dup {v : Value} (hd : ez_at X pc .dup 1 pc') (hc : v.category = 1) (k : ez_Ev l G X uc us pc' ls (v :: v :: st) h Q) : ez_Ev l G X uc us pc ls (v :: st) h Q := by
  obtain ⟨hd, rfl⟩ := hd
  exact ez_pure (st' := v :: v :: st) (fun p e s m args below meth c ad H locs cells slots Qz L hx hb kk => lv_dup hx hb hd ((ez_cat ad v).trans hc) kk) k
theorem ev_dup2 {v w : Value} (hd : ez_at X pc .dup2 1 pc') (hc : v.category = 1) (hc2 : w.category = 1) (k : ez_Ev l G X uc us pc' ls (v :: w :: v :: w :: st) h Q) : ez_Ev l G X uc us pc ls (v :: w :: st) h Q := by
  obtain ⟨hd, rfl⟩ := hd
  exact ez_pure (st' := v :: w :: v :: w :: st) (fun p e s m args below meth c ad H locs cells slots Qz L hx hb kk => lv_dup2_11 hx hb hd ((ez_cat ad v).trans hc) ((ez_cat ad w).trans hc2) kk) k
theorem ev_pop {v : Value} (hd : ez_at X pc .pop 1 pc') (hc : v.category = 1) (k : ez_Ev l G X uc us pc' ls st h Q) : ez_Ev l G X uc us pc ls (v :: st) h Q := by
  obtain ⟨hd, rfl⟩ := hd
  exact ez_pure (st' := st) (fun p e s m args below meth c ad H locs cells slots Qz L hx hb kk => lv_pop hx hb hd ((ez_cat ad v).trans hc) kk) k
theorem ev_icmp_eq {x y : Int32} {off : Int} (hd : ez_br X pc (.if_icmp .eq off) 3 pc' off tgt) (kt : x = y → ez_Ev l G X uc us tgt ls st h Q) (kf : ¬ x = y → ez_Ev l G X uc us pc' ls st h Q) : ez_Ev l G X uc us pc ls (.int y :: .int x :: st) h Q := by
  obtain ⟨hd, rfl, ht⟩ := hd
  intro p e s m args below meth c A n0 ad0 ad H locs cells slots L I
  exact lv_icmp_eq I.1.1 I.1.2.1 hd ht (fun hc => kt hc p e s m args below meth c A n0 ad0 ad H locs cells slots L I) (fun hc => kf hc p e s m args below meth c A n0 ad0 ad H locs cells slots L I)
theorem ev_icmp_ne {x y : Int32} {off : Int} (hd : ez_br X pc (.if_icmp .ne off) 3 pc' off tgt) (kt : ¬ x = y → ez_Ev l G X uc us tgt ls st h Q) (kf : x = y → ez_Ev l G X uc us pc' ls st h Q) : ez_Ev l G X uc us pc ls (.int y :: .int x :: st) h Q := by
  obtain ⟨hd, rfl, ht⟩ := hd
  intro p e s m args below meth c A n0 ad0 ad H locs cells slots L I
  exact lv_icmp_ne I.1.1 I.1.2.1 hd ht (fun hc => kt hc p e s m args below meth c A n0 ad0 ad H locs cells slots L I) (fun hc => kf hc p e s m args below meth c A n0 ad0 ad H locs cells slots L I)
theorem ev_icmp_lt {x y : Int32} {off : Int} (hd : ez_br X pc (.if_icmp .lt off) 3 pc' off tgt) (kt : x < y → ez_Ev l G X uc us tgt ls st h Q) (kf : ¬ x < y → ez_Ev l G X uc us pc' ls st h Q) : ez_Ev l G X uc us pc ls (.int y :: .int x :: st) h Q := by
  obtain ⟨hd, rfl, ht⟩ := hd
  intro p e s m args below meth c A n0 ad0 ad H locs cells slots L I
  exact lv_icmp_lt I.1.1 I.1.2.1 hd ht (fun hc => kt hc p e s m args below meth c A n0 ad0 ad H locs cells slots L I) (fun hc => kf hc p e s m args below meth c A n0 ad0 ad H locs cells slots L I)
theorem ev_icmp_ge {x y : Int32} {off : Int} (hd : ez_br X pc (.if_icmp .ge off) 3 pc' off tgt) (kt : y ≤ x → ez_Ev l G X uc us tgt ls st h Q) (kf : ¬ y ≤ x → ez_Ev l G X uc us pc' ls st h Q) : ez_Ev l G X uc us pc ls (.int y :: .int x :: st) h Q := by
  obtain ⟨hd, rfl, ht⟩ := hd
  intro p e s m args below meth c A n0 ad0 ad H locs cells slots L I
  exact lv_icmp_ge I.1.1 I.1.2.1 hd ht (fun hc => kt hc p e s m args below meth c A n0 ad0 ad H locs cells slots L I) (fun hc => kf hc p e s m args below meth c A n0 ad0 ad H locs cells slots L I)
theorem ev_icmp_gt {x y : Int32} {off : Int} (hd : ez_br X pc (.if_icmp .gt off) 3 pc' off tgt) (kt : y < x → ez_Ev l G X uc us tgt ls st h Q) (kf : ¬ y < x → ez_Ev l G X uc us pc' ls st h Q) : ez_Ev l G X uc us pc ls (.int y :: .int x :: st) h Q := by
  obtain ⟨hd, rfl, ht⟩ := hd
  intro p e s m args below meth c A n0 ad0 ad H locs cells slots L I
  exact lv_icmp_gt I.1.1 I.1.2.1 hd ht (fun hc => kt hc p e s m args below meth c A n0 ad0 ad H locs cells slots L I) (fun hc => kf hc p e s m args below meth c A n0 ad0 ad H locs cells slots L I)
theorem ev_icmp_le {x y : Int32} {off : Int} (hd : ez_br X pc (.if_icmp .le off) 3 pc' off tgt) (kt : x ≤ y → ez_Ev l G X uc us tgt ls st h Q) (kf : ¬ x ≤ y → ez_Ev l G X uc us pc' ls st h Q) : ez_Ev l G X uc us pc ls (.int y :: .int x :: st) h Q := by
  obtain ⟨hd, rfl, ht⟩ := hd
  intro p e s m args below meth c A n0 ad0 ad H locs cells slots L I
  exact lv_icmp_le I.1.1 I.1.2.1 hd ht (fun hc => kt hc p e s m args below meth c A n0 ad0 ad H locs cells slots L I) (fun hc => kf hc p e s m args below meth c A n0 ad0 ad H locs cells slots L I)
theorem ev_if_eq {x : Int32} {off : Int} (hd : ez_br X pc (.ifCond .eq off) 3 pc' off tgt) (kt : x = 0 → ez_Ev l G X uc us tgt ls st h Q) (kf : ¬ x = 0 → ez_Ev l G X uc us pc' ls st h Q) : ez_Ev l G X uc us pc ls (.int x :: st) h Q := by
  obtain ⟨hd, rfl, ht⟩ := hd
  intro p e s m args below meth c A n0 ad0 ad H locs cells slots L I
  exact lv_if_eq I.1.1 I.1.2.1 hd ht (fun hc => kt hc p e s m args below meth c A n0 ad0 ad H locs cells slots L I) (fun hc => kf hc p e s m args below meth c A n0 ad0 ad H locs cells slots L I)
theorem ev_if_ne {x : Int32} {off : Int} (hd : ez_br X pc (.ifCond .ne off) 3 pc' off tgt) (kt : ¬ x = 0 → ez_Ev l G X uc us tgt ls st h Q) (kf : x = 0 → ez_Ev l G X uc us pc' ls st h Q) : ez_Ev l G X uc us pc ls (.int x :: st) h Q := by
  obtain ⟨hd, rfl, ht⟩ := hd
  intro p e s m args below meth c A n0 ad0 ad H locs cells slots L I
  exact lv_if_ne I.1.1 I.1.2.1 hd ht (fun hc => kt hc p e s m args below meth c A n0 ad0 ad H locs cells slots L I) (fun hc => kf hc p e s m args below meth c A n0 ad0 ad H locs cells slots L I)
theorem ev_if_lt {x : Int32} {off : Int} (hd : ez_br X pc (.ifCond .lt off) 3 pc' off tgt) (kt : x < 0 → ez_Ev l G X uc us tgt ls st h Q) (kf : ¬ x < 0 → ez_Ev l G X uc us pc' ls st h Q) : ez_Ev l G X uc us pc ls (.int x :: st) h Q := by
  obtain ⟨hd, rfl, ht⟩ := hd
  intro p e s m args below meth c A n0 ad0 ad H locs cells slots L I
  exact lv_if_lt I.1.1 I.1.2.1 hd ht (fun hc => kt hc p e s m args below meth c A n0 ad0 ad H locs cells slots L I) (fun hc => kf hc p e s m args below meth c A n0 ad0 ad H locs cells slots L I)
theorem ev_if_ge {x : Int32} {off : Int} (hd : ez_br X pc (.ifCond .ge off) 3 pc' off tgt) (kt : 0 ≤ x → ez_Ev l G X uc us tgt ls st h Q) (kf : ¬ 0 ≤ x → ez_Ev l G X uc us pc' ls st h Q) : ez_Ev l G X uc us pc ls (.int x :: st) h Q := by
  obtain ⟨hd, rfl, ht⟩ := hd
  intro p e s m args below meth c A n0 ad0 ad H locs cells slots L I
  exact lv_if_ge I.1.1 I.1.2.1 hd ht (fun hc => kt hc p e s m args below meth c A n0 ad0 ad H locs cells slots L I) (fun hc => kf hc p e s m args below meth c A n0 ad0 ad H locs cells slots L I)
theorem ev_if_gt {x : Int32} {off : Int} (hd : ez_br X pc (.ifCond .gt off) 3 pc' off tgt) (kt : 0 < x → ez_Ev l G X uc us tgt ls st h Q) (kf : ¬ 0 < x → ez_Ev l G X uc us pc' ls st h Q) : ez_Ev l G X uc us pc ls (.int x :: st) h Q := by
  obtain ⟨hd, rfl, ht⟩ := hd
  intro p e s m args below meth c A n0 ad0 ad H locs cells slots L I
  exact lv_if_gt I.1.1 I.1.2.1 hd ht (fun hc => kt hc p e s m args below meth c A n0 ad0 ad H locs cells slots L I) (fun hc => kf hc p e s m args below meth c A n0 ad0 ad H locs cells slots L I)
theorem ev_if_le {x : Int32} {off : Int} (hd : ez_br X pc (.ifCond .le off) 3 pc' off tgt) (kt : x ≤ 0 → ez_Ev l G X uc us tgt ls st h Q) (kf : ¬ x ≤ 0 → ez_Ev l G X uc us pc' ls st h Q) : ez_Ev l G X uc us pc ls (.int x :: st) h Q := by
  obtain ⟨hd, rfl, ht⟩ := hd
  intro p e s m args below meth c A n0 ad0 ad H locs cells slots L I
  exact lv_if_le I.1.1 I.1.2.1 hd ht (fun hc => kt hc p e s m args below meth c A n0 ad0 ad H locs cells slots L I) (fun hc => kf hc p e s m args below meth c A n0 ad0 ad H locs cells slots L I)
theorem ev_iload_n {k : Fin 4} {i : Nat} {x : Int32} (hd : ez_at X pc (.iload_n k) 1 pc') (hi : (k : Nat) = i) (hl : ls[i]? = some (some (.int x))) (kk : ez_Ev l G X uc us pc' ls (.int x :: st) h Q) : ez_Ev l G X uc us pc ls st h Q := by
  obtain ⟨hd, rfl⟩ := hd
  intro p e s m args below meth c A n0 ad0 ad H locs cells slots L I
  exact lv_iload_n I.1.1 I.1.2.1 hd hi (I.2.2.2.2.2.2.2.2.1.2.2 i _ hl).2 (kk p e s m args below meth c A n0 ad0 ad H locs cells slots L I)
theorem ev_iload {i : Nat} {x : Int32} (hd : ez_at X pc (.iload i) 2 pc') (hl : ls[i]? = some (some (.int x))) (kk : ez_Ev l G X uc us pc' ls (.int x :: st) h Q) : ez_Ev l G X uc us pc ls st h Q := by
  obtain ⟨hd, rfl⟩ := hd
  intro p e s m args below meth c A n0 ad0 ad H locs cells slots L I
  exact lv_iload I.1.1 I.1.2.1 hd (I.2.2.2.2.2.2.2.2.1.2.2 i _ hl).2 (kk p e s m args below meth c A n0 ad0 ad H locs cells slots L I)
theorem ev_aload_n {k : Fin 4} {i : Nat} {x : Nat} (hd : ez_at X pc (.aload_n k) 1 pc') (hi : (k : Nat) = i) (hl : ls[i]? = some (some (.ref x))) (kk : ez_Ev l G X uc us pc' ls (.ref x :: st) h Q) : ez_Ev l G X uc us pc ls st h Q := by
  obtain ⟨hd, rfl⟩ := hd
  intro p e s m args below meth c A n0 ad0 ad H locs cells slots L I
  exact lv_aload_n I.1.1 I.1.2.1 hd hi (I.2.2.2.2.2.2.2.2.1.2.2 i _ hl).2 (kk p e s m args below meth c A n0 ad0 ad H locs cells slots L I)
theorem ev_aload {i : Nat} {x : Nat} (hd : ez_at X pc (.aload i) 2 pc') (hl : ls[i]? = some (some (.ref x))) (kk : ez_Ev l G X uc us pc' ls (.ref x :: st) h Q) : ez_Ev l G X uc us pc ls st h Q := by
  obtain ⟨hd, rfl⟩ := hd
  intro p e s m args below meth c A n0 ad0 ad H locs cells slots L I
  exact lv_aload I.1.1 I.1.2.1 hd (I.2.2.2.2.2.2.2.2.1.2.2 i _ hl).2 (kk p e s m args below meth c A n0 ad0 ad H locs cells slots L I)
/-- the known locals, listed -/
def ez_lv (ad : Nat → Nat) (ls : List (Option Value)) : List (Nat × Value) := (List.range ls.length).filterMap fun i => (ls[i]?.join).map fun v => (i, ez_v ad v)
theorem ez_lv_mem {ad : Nat → Nat} {ls : List (Option Value)} {q : Nat × Value} (hq : q ∈ ez_lv ad ls) : ∃ v, ls[q.1]? = some (some v) ∧ q.2 = ez_v ad v := by
  obtain ⟨i, -, hi⟩ := List.mem_filterMap.mp hq
  cases hj : ls[i]?.join with
  | none => rw [hj] at hi; cases hi
  | some v =>
    rw [hj] at hi
    cases hi
    refine ⟨v, ?_, rfl⟩
    cases hk : ls[i]? with
    | none => rw [hk] at hj; cases hj
    | some o => rw [hk] at hj; simp only [Option.join_some] at hj; rw [hj]
theorem ez_lv_in {ad : Nat → Nat} {ls : List (Option Value)} {i : Nat} {v : Value} (h : ls[i]? = some (some v)) : (i, ez_v ad v) ∈ ez_lv ad ls :=
  List.mem_filterMap.mpr ⟨i, List.mem_range.mpr (List.getElem?_eq_some_iff.mp h).1, by rw [h]; rfl⟩
theorem ez_lv_has {ad : Nat → Nat} {n : Nat} {ls : List (Option Value)} {L : Array Slot} (h : ez_L ad n ls L) : lv_has L n (ez_lv ad ls) := by
  refine ⟨h.1, h.2.1, fun q hq => ?_⟩
  obtain ⟨v, h1, h2⟩ := ez_lv_mem hq
  rw [h2]
  exact (h.2.2 q.1 v h1).2
theorem ez_L_put {ad : Nat → Nat} {n i : Nat} {ls : List (Option Value)} {L L' : Array Slot} {v : Value} (h : ez_L ad n ls L) (hc : v.category = 1)
    (h' : lv_has L' n ((i, ez_v ad v) :: (ez_lv ad ls).filter (fun q => !(q.1 == i) && !(q.1 + 1 == i && q.2.category == 2)))) : ez_L ad n (ls.set i (some v)) L' := by
  refine ⟨h'.1, h'.2.1, fun j w hj => ?_⟩
  rw [List.getElem?_set] at hj
  by_cases hij : i = j
  · subst hij
    rw [if_pos rfl] at hj
    split at hj
    · simp only [Option.some.injEq] at hj
      subst hj
      exact ⟨hc, h'.2.2 _ List.mem_cons_self⟩
    · cases hj
  · rw [if_neg hij] at hj
    have h1 := (h.2.2 j w hj).1
    refine ⟨h1, h'.2.2 (j, ez_v ad w) (List.mem_cons_of_mem _ (List.mem_filter.mpr ⟨ez_lv_in hj, ?_⟩))⟩
    have h2 : ¬ (ez_v ad w).category = 2 := by rw [ez_cat, h1]; decide
    simp [h2, Ne.symm hij]
theorem ez_In_ls {ls' : List (Option Value)} {h : ez_H} {p : Program} {s : State} {m : MethodId} {args : Array Value} {meth : Method} {c : Code} {A : Nat → Prop} {n0 : Nat} {ad0 ad : Nat → Nat} {H : Heap} {locs : List Loc} {cells slots : Nat} {L L' : Array Slot}
    (I : ez_In G X uc us ls h p s m args meth c A n0 ad0 ad H locs cells slots L) (hL : ez_L ad X.2.2.1 ls' L') : ez_In G X uc us ls' h p s m args meth c A n0 ad0 ad H locs cells slots L' :=
  ⟨I.1, I.2.1, I.2.2.1, I.2.2.2.1, I.2.2.2.2.1, I.2.2.2.2.2.1, I.2.2.2.2.2.2.1, I.2.2.2.2.2.2.2.1, hL, I.2.2.2.2.2.2.2.2.2⟩
theorem ev_istore_n {k : Fin 4} {i : Nat} {x : Int32} (hd : ez_at X pc (.istore_n k) 1 pc') (hi : (k : Nat) = i) (hn : i < X.2.2.1) (kk : ez_Ev l G X uc us pc' (ls.set i (some (.int x))) st h Q) : ez_Ev l G X uc us pc ls (.int x :: st) h Q := by
  obtain ⟨hd, rfl⟩ := hd
  intro p e s m args below meth c A n0 ad0 ad H locs cells slots L I
  exact lv_istore_n I.1.1 I.1.2.1 hd hi (ez_lv_has I.2.2.2.2.2.2.2.2.1) hn rfl (fun L' hL' => kk p e s m args below meth c A n0 ad0 ad H locs cells slots L' (ez_In_ls I (ez_L_put I.2.2.2.2.2.2.2.2.1 rfl hL')))
theorem ev_istore {i : Nat} {x : Int32} (hd : ez_at X pc (.istore i) 2 pc') (hn : i < X.2.2.1) (kk : ez_Ev l G X uc us pc' (ls.set i (some (.int x))) st h Q) : ez_Ev l G X uc us pc ls (.int x :: st) h Q := by
  obtain ⟨hd, rfl⟩ := hd
  intro p e s m args below meth c A n0 ad0 ad H locs cells slots L I
  exact lv_istore I.1.1 I.1.2.1 hd (ez_lv_has I.2.2.2.2.2.2.2.2.1) hn rfl (fun L' hL' => kk p e s m args below meth c A n0 ad0 ad H locs cells slots L' (ez_In_ls I (ez_L_put I.2.2.2.2.2.2.2.2.1 rfl hL')))
theorem ev_astore_n {k : Fin 4} {i : Nat} {x : Nat} (hd : ez_at X pc (.astore_n k) 1 pc') (hi : (k : Nat) = i) (hn : i < X.2.2.1) (kk : ez_Ev l G X uc us pc' (ls.set i (some (.ref x))) st h Q) : ez_Ev l G X uc us pc ls (.ref x :: st) h Q := by
  obtain ⟨hd, rfl⟩ := hd
  intro p e s m args below meth c A n0 ad0 ad H locs cells slots L I
  exact lv_astore_n I.1.1 I.1.2.1 hd hi (ez_lv_has I.2.2.2.2.2.2.2.2.1) hn rfl (fun L' hL' => kk p e s m args below meth c A n0 ad0 ad H locs cells slots L' (ez_In_ls I (ez_L_put I.2.2.2.2.2.2.2.2.1 rfl hL')))
theorem ev_astore {i : Nat} {x : Nat} (hd : ez_at X pc (.astore i) 2 pc') (hn : i < X.2.2.1) (kk : ez_Ev l G X uc us pc' (ls.set i (some (.ref x))) st h Q) : ez_Ev l G X uc us pc ls (.ref x :: st) h Q := by
  obtain ⟨hd, rfl⟩ := hd
  intro p e s m args below meth c A n0 ad0 ad H locs cells slots L I
  exact lv_astore I.1.1 I.1.2.1 hd (ez_lv_has I.2.2.2.2.2.2.2.2.1) hn rfl (fun L' hL' => kk p e s m args below meth c A n0 ad0 ad H locs cells slots L' (ez_In_ls I (ez_L_put I.2.2.2.2.2.2.2.2.1 rfl hL')))
theorem ev_iinc {i : Nat} {n : Int} {x v : Int32} (hd : ez_at X pc (.iinc i n) 3 pc') (hl : ls[i]? = some (some (.int x))) (hv : x + Int32.ofInt n = v) (hn : i < X.2.2.1) (kk : ez_Ev l G X uc us pc' (ls.set i (some (.int v))) st h Q) : ez_Ev l G X uc us pc ls st h Q := by
  obtain ⟨hd, rfl⟩ := hd
  intro p e s m args below meth c A n0 ad0 ad H locs cells slots L I
  obtain ⟨k, hk⟩ := List.getElem?_of_mem (ez_lv_in (ad := ad) hl)
  exact lv_iinc I.1.1 I.1.2.1 hd (ez_lv_has I.2.2.2.2.2.2.2.2.1) hk hv hn rfl (fun L' hL' => kk p e s m args below meth c A n0 ad0 ad H locs cells slots L' (ez_In_ls I (ez_L_put (v := .int v) I.2.2.2.2.2.2.2.2.1 rfl hL')))
/-- forget locals -/
theorem ev_ls (ls' : List (Option Value)) (hl : ∀ (i : Nat) (v : Value), ls'[i]? = some (some v) → ls[i]? = some (some v)) (kk : ez_Ev l G X uc us pc ls' st h Q) : ez_Ev l G X uc us pc ls st h Q := by
  intro p e s m args below meth c A n0 ad0 ad H locs cells slots L I
  exact kk p e s m args below meth c A n0 ad0 ad H locs cells slots L (ez_In_ls I ⟨I.2.2.2.2.2.2.2.2.1.1, I.2.2.2.2.2.2.2.2.1.2.1, fun i v hv => I.2.2.2.2.2.2.2.2.1.2.2 i v (hl i v hv)⟩)
def ez_mask : List Bool → List (Option Value) → List (Option Value)
  | true :: bs, o :: l => o :: ez_mask bs l
  | false :: bs, _ :: l => none :: ez_mask bs l
  | _, _ => []
theorem ez_mask_le : ∀ (bs : List Bool) (l : List (Option Value)) (i : Nat) (v : Value), (ez_mask bs l)[i]? = some (some v) → l[i]? = some (some v) := by
  intro bs
  induction bs with
  | nil => intro l i v h; cases l <;> simp [ez_mask] at h
  | cons b bs ih =>
    intro l i v h
    cases l with
    | nil => cases b <;> simp [ez_mask] at h
    | cons o l =>
      cases b <;> cases i <;> simp only [ez_mask, List.getElem?_cons_zero, List.getElem?_cons_succ] at h ⊢
      · cases h
      · exact ih l _ v h
      · exact h
      · exact ih l _ v h
theorem ev_mask (bm : List Bool) {ls' : List (Option Value)} (hl : ez_mask bm ls = ls') (kk : ez_Ev l G X uc us pc ls' st h Q) : ez_Ev l G X uc us pc ls st h Q :=
  ev_ls ls' (fun i v hv => ez_mask_le bm ls i v (by rw [hl]; exact hv)) kk
theorem ev_mono {Q' : ez_R → Prop} (hq : ∀ r, Q' r → Q r) (kk : ez_Ev l G X uc us pc ls st h Q') : ez_Ev l G X uc us pc ls st h Q := by
  intro p e s m args below meth c A n0 ad0 ad H locs cells slots L I T hT S
  obtain ⟨t, a1, o, b1, b2, ⟨r, ad', c1, c2⟩, b4⟩ := kk p e s m args below meth c A n0 ad0 ad H locs cells slots L I T hT S
  exact ⟨t, a1, o, b1, b2, ⟨r, ad', hq r c1, c2⟩, b4⟩
/-- more is taken as used -/
theorem ev_more {uc' us' : Nat} (h1 : uc ≤ uc') (h2 : us ≤ us') (kk : ez_Ev l G X uc' us' pc ls st h Q) : ez_Ev l G X uc us pc ls st h Q := by
  intro p e s m args below meth c A n0 ad0 ad H locs cells slots L I
  exact kk p e s m args below meth c A n0 ad0 ad H locs cells slots L ⟨I.1, I.2.1, I.2.2.1, I.2.2.2.1, I.2.2.2.2.1, I.2.2.2.2.2.1, I.2.2.2.2.2.2.1, I.2.2.2.2.2.2.2.1, I.2.2.2.2.2.2.2.2.1, Nat.le_trans I.2.2.2.2.2.2.2.2.2.1 h1, Nat.le_trans I.2.2.2.2.2.2.2.2.2.2 h2⟩
/-- a cell is written -/
theorem ez_In_set {k : Nat} {q : ez_Cell} {h : ez_H} {p : Program} {s : State} {m : MethodId} {args : Array Value} {meth : Method} {c : Code} {A : Nat → Prop} {n0 : Nat} {ad0 ad : Nat → Nat} {H H1 : Heap} {locs locs1 : List Loc} {cells slots : Nat} {L : Array Slot}
    (I : ez_In G X uc us ls h p s m args meth c A n0 ad0 ad H locs cells slots L) (hP1 : va_P G.1 ez_cl ((ez_ws G ad h).set k (ad k, ez_e G.2.1 ad q)) H1) (hD1 : va_D A ((ez_ws G ad h).set k (ad k, ez_e G.2.1 ad q))) (hS1 : va_S A s.heap H1 locs1) : ez_In G X uc us ls (h.set k q) p s m args meth c A n0 ad0 ad H1 locs1 cells slots L :=
  ⟨I.1, I.2.1, ⟨I.2.2.1.1, by rw [List.length_set]; exact I.2.2.1.2.1, I.2.2.1.2.2⟩, by rw [List.length_set]; exact I.2.2.2.1, by rw [List.length_set]; exact I.2.2.2.2.1, by rw [ez_ws_set]; exact hP1, by rw [ez_ws_set]; exact hD1, hS1, I.2.2.2.2.2.2.2.2.1, I.2.2.2.2.2.2.2.2.2⟩
theorem ev_iald {k n : Nat} {f : Nat → Int32} {i : Int32} (hd : ez_at X pc .iaload 1 pc') (hk : h[k]? = some (.inl (.int, (n, .inl f)))) (hin : vp_in i n) (kk : ez_Ev l G X uc us pc' ls (.int (f i.toNatClampNeg) :: st) h Q) : ez_Ev l G X uc us pc ls (.int i :: .ref k :: st) h Q := by
  obtain ⟨hd, rfl⟩ := hd
  intro p e s m args below meth c A n0 ad0 ad H locs cells slots L I
  exact va_iald I.1.1 I.1.2.1 I.1.2.2.2.2.2.2.2.2.1 I.2.2.2.2.2.1 k 0 (ez_ws_get G ad hk) rfl hin hd (kk p e s m args below meth c A n0 ad0 ad H locs cells slots L I)
theorem ev_zald {k n : Nat} {f : Nat → Int32} {i : Int32} (hd : ez_at X pc .baload 1 pc') (hk : h[k]? = some (.inl (.boolean, (n, .inl f)))) (hin : vp_in i n) (kk : ez_Ev l G X uc us pc' ls (.int (f i.toNatClampNeg) :: st) h Q) : ez_Ev l G X uc us pc ls (.int i :: .ref k :: st) h Q := by
  obtain ⟨hd, rfl⟩ := hd
  intro p e s m args below meth c A n0 ad0 ad H locs cells slots L I
  exact va_zald I.1.1 I.1.2.1 I.1.2.2.2.2.2.2.2.2.1 I.2.2.2.2.2.1 k 1 (ez_ws_get G ad hk) rfl hin hd (kk p e s m args below meth c A n0 ad0 ad H locs cells slots L I)
theorem ev_lald {k n : Nat} {f : Nat → Int64} {i : Int32} (hd : ez_at X pc .laload 1 pc') (hk : h[k]? = some (.inl (.long, (n, .inr (.inl f))))) (hin : vp_in i n) (kk : ez_Ev l G X uc us pc' ls (.long (f i.toNatClampNeg) :: st) h Q) : ez_Ev l G X uc us pc ls (.int i :: .ref k :: st) h Q := by
  obtain ⟨hd, rfl⟩ := hd
  intro p e s m args below meth c A n0 ad0 ad H locs cells slots L I
  exact va_lald I.1.1 I.1.2.1 I.1.2.2.2.2.2.2.2.2.1 I.2.2.2.2.2.1 k 2 (ez_ws_get G ad hk) rfl hin hd (kk p e s m args below meth c A n0 ad0 ad H locs cells slots L I)
theorem ev_iast {k n : Nat} {f : Nat → Int32} {i x : Int32} (hd : ez_at X pc .iastore 1 pc') (hk : h[k]? = some (.inl (.int, (n, .inl f)))) (hin : vp_in i n) (kk : ez_Ev l G X uc us pc' ls st (h.set k (.inl (.int, (n, .inl (upd f i.toNatClampNeg x))))) Q) : ez_Ev l G X uc us pc ls (.int x :: .int i :: .ref k :: st) h Q := by
  obtain ⟨hd, rfl⟩ := hd
  intro p e s m args below meth c A n0 ad0 ad H locs cells slots L I
  exact va_iast I.1.1 I.1.2.1 I.1.2.2.2.2.2.2.2.2.1 I.2.2.2.2.2.1 I.2.2.2.2.2.2.1 I.2.2.2.2.2.2.2.1 k 0 (ez_ws_get G ad hk) rfl hin hd (fun H1 locs1 hP1 hD1 hS1 => kk p e s m args below meth c A n0 ad0 ad H1 locs1 cells slots L (ez_In_set (q := .inl (.int, (n, .inl (upd f i.toNatClampNeg x)))) I hP1 hD1 hS1))
theorem ev_zast {k n : Nat} {f : Nat → Int32} {i x : Int32} (hd : ez_at X pc .bastore 1 pc') (hk : h[k]? = some (.inl (.boolean, (n, .inl f)))) (hin : vp_in i n) (kk : ez_Ev l G X uc us pc' ls st (h.set k (.inl (.boolean, (n, .inl (upd f i.toNatClampNeg (vp_nar .boolean x)))))) Q) : ez_Ev l G X uc us pc ls (.int x :: .int i :: .ref k :: st) h Q := by
  obtain ⟨hd, rfl⟩ := hd
  intro p e s m args below meth c A n0 ad0 ad H locs cells slots L I
  exact va_zast I.1.1 I.1.2.1 I.1.2.2.2.2.2.2.2.2.1 I.2.2.2.2.2.1 I.2.2.2.2.2.2.1 I.2.2.2.2.2.2.2.1 k 1 (ez_ws_get G ad hk) rfl hin hd (fun H1 locs1 hP1 hD1 hS1 => kk p e s m args below meth c A n0 ad0 ad H1 locs1 cells slots L (ez_In_set (q := .inl (.boolean, (n, .inl (upd f i.toNatClampNeg (vp_nar .boolean x))))) I hP1 hD1 hS1))
theorem ev_last {k n : Nat} {f : Nat → Int64} {i : Int32} {x : Int64} (hd : ez_at X pc .lastore 1 pc') (hk : h[k]? = some (.inl (.long, (n, .inr (.inl f))))) (hin : vp_in i n) (kk : ez_Ev l G X uc us pc' ls st (h.set k (.inl (.long, (n, .inr (.inl (vp_updL f i.toNatClampNeg x)))))) Q) : ez_Ev l G X uc us pc ls (.long x :: .int i :: .ref k :: st) h Q := by
  obtain ⟨hd, rfl⟩ := hd
  intro p e s m args below meth c A n0 ad0 ad H locs cells slots L I
  exact va_last I.1.1 I.1.2.1 I.1.2.2.2.2.2.2.2.2.1 I.2.2.2.2.2.1 I.2.2.2.2.2.2.1 I.2.2.2.2.2.2.2.1 k 2 (ez_ws_get G ad hk) rfl hin hd (fun H1 locs1 hP1 hD1 hS1 => kk p e s m args below meth c A n0 ad0 ad H1 locs1 cells slots L (ez_In_set (q := .inl (.long, (n, .inr (.inl (vp_updL f i.toNatClampNeg x))))) I hP1 hD1 hS1))
theorem ev_alen {k : Nat} {a : vp_A} {v : Int32} (hd : ez_at X pc .arraylength 1 pc') (hk : h[k]? = some (.inl (.int, a))) (hv : Int32.ofNat a.1 = v) (kk : ez_Ev l G X uc us pc' ls (.int v :: st) h Q) : ez_Ev l G X uc us pc ls (.ref k :: st) h Q := by
  obtain ⟨hd, rfl⟩ := hd
  intro p e s m args below meth c A n0 ad0 ad H locs cells slots L I
  exact va_alen I.1.1 I.1.2.1 I.1.2.2.2.2.2.2.2.2.1 I.2.2.2.2.2.1 k 0 (ez_ws_get G ad hk) rfl hv hd (kk p e s m args below meth c A n0 ad0 ad H locs cells slots L I)
theorem ev_i2l {x : Int32} (hd : ez_at X pc .i2l 1 pc') (k : ez_Ev l G X uc us pc' ls (.long x.toInt64 :: st) h Q) : ez_Ev l G X uc us pc ls (.int x :: st) h Q := by
  obtain ⟨hd, rfl⟩ := hd
  exact ez_pure (st' := .long x.toInt64 :: st) (fun p e s m args below meth c ad H locs cells slots Qz L hx hb kk => lv_i2l hx hb hd rfl kk) k
theorem ev_lconst {n : Fin 2} {v : Int64} (hd : ez_at X pc (.lconst n) 1 pc') (hv : Int64.ofNat (n : Nat) = v) (k : ez_Ev l G X uc us pc' ls (.long v :: st) h Q) : ez_Ev l G X uc us pc ls st h Q := by
  obtain ⟨hd, rfl⟩ := hd
  exact ez_pure (st' := .long v :: st) (fun p e s m args below meth c ad H locs cells slots Qz L hx hb kk => lv_lconst hx hb hd hv kk) k
theorem ev_lcmp {x y : Int64} (hd : ez_at X pc .lcmp 1 pc') (k : ez_Ev l G X uc us pc' ls (.int (lg_cmp x y) :: st) h Q) : ez_Ev l G X uc us pc ls (.long y :: .long x :: st) h Q := by
  obtain ⟨hd, rfl⟩ := hd
  exact ez_pure (st' := .int (lg_cmp x y) :: st) (fun p e s m args below meth c ad H locs cells slots Qz L hx hb kk => W.lcmp hx hb hd kk) k
theorem ev_ldc {index : Nat} {v : Int32} (hd : ez_at X pc (.ldc index) 2 pc') (hc : Cond.constant X.1.cls index v ∈ ez_T) (kk : ez_Ev l G X uc us pc' ls (.int v :: st) h Q) : ez_Ev l G X uc us pc ls st h Q := by
  obtain ⟨hd, rfl⟩ := hd
  intro p e s m args below meth c A n0 ad0 ad H locs cells slots L I
  exact lv_ldc I.1.1 I.1.2.1 I.1.2.2.2.1 (I.1.2.2.2.2.1 _ hc) hd (kk p e s m args below meth c A n0 ad0 ad H locs cells slots L I)
theorem ev_tableOut {dflt lo hi : Int} {offs : Array Int} {n : Nat} {x : Int32} (hd : decode X.2.1 pc = .ok (.tableswitch dflt lo hi offs, n)) (hx : x.toInt < lo ∨ hi < x.toInt) (ht : (pc : Int) + dflt = (tgt : Int)) (kk : ez_Ev l G X uc us tgt ls st h Q) : ez_Ev l G X uc us pc ls (.int x :: st) h Q := by
  intro p e s m args below meth c A n0 ad0 ad H locs cells slots L I
  exact lv_tableOut I.1.1 I.1.2.1 hd hx ht (kk p e s m args below meth c A n0 ad0 ad H locs cells slots L I)
theorem ev_tableIn {dflt lo hi off : Int} {offs : Array Int} {n : Nat} {x : Int32} (hd : decode X.2.1 pc = .ok (.tableswitch dflt lo hi offs, n)) (h1 : ¬ x.toInt < lo) (h2 : ¬ hi < x.toInt) (ho : offs[(x.toInt - lo).toNat]? = some off) (ht : (pc : Int) + off = (tgt : Int)) (kk : ez_Ev l G X uc us tgt ls st h Q) : ez_Ev l G X uc us pc ls (.int x :: st) h Q := by
  intro p e s m args below meth c A n0 ad0 ad H locs cells slots L I
  exact lv_tableIn I.1.1 I.1.2.1 hd h1 h2 ho ht (kk p e s m args below meth c A n0 ad0 ad H locs cells slots L I)
theorem ev_lookup {dflt off : Int} {ps : Array (Int × Int)} {n : Nat} {x : Int32} (hd : decode X.2.1 pc = .ok (.lookupswitch dflt ps, n)) (hp : (ps.toList.zip (ps.toList.drop 1)).all (fun (a, next) => a.1 < next.1) = true) (ho : Op.lookupswitch.offset ps.toList dflt x.toInt = off) (ht : (pc : Int) + off = (tgt : Int)) (kk : ez_Ev l G X uc us tgt ls st h Q) : ez_Ev l G X uc us pc ls (.int x :: st) h Q := by
  intro p e s m args below meth c A n0 ad0 ad H locs cells slots L I
  exact lv_lookup I.1.1 I.1.2.1 hd hp ho ht (kk p e s m args below meth c A n0 ad0 ad H locs cells slots L I)
/-! returns -/
theorem ez_end {v : Option Value} {p : Program} {s : State} {m : MethodId} {args : Array Value} {meth : Method} {c : Code} {A : Nat → Prop} {n0 : Nat} {ad0 ad : Nat → Nat} {H : Heap} {locs : List Loc} {cells slots : Nat} {L : Array Slot}
    (I : ez_In G X uc us ls h p s m args meth c A n0 ad0 ad H locs cells slots L) (hq : Q (.inl v, h)) {t : State} (ht : t.heap = H) : ez_Fin G A n0 ad0 Q (.returned (v.map (ez_v ad))) t ∧ va_F A s t :=
  ⟨⟨(.inl v, h), ad, hq, ⟨I.2.2.2.1, I.2.2.1.2.1⟩, I.2.2.2.2.1, by rw [ht]; exact I.2.2.2.2.2.1, I.2.2.2.2.2.2.1, rfl⟩, I.2.2.2.2.2.2.2.1.F ht⟩
theorem ez_Wret {p : Program} {l : Launch} {e : Env} {R : Room} {s : State} {m : MethodId} {args : Array Value} {below : List Frame} {meth : Method} {c : Code} {H : Heap} {locs : List Loc} {cells slots : Nat} {A : Nat → Prop} {F : Outcome → State → Prop} {g : JFrame}
    (h1 : cells ≤ ez_mc X) (h2 : slots ≤ ez_ms X) (k : W p l e R s m args below meth c H locs (ez_mc X) (ez_ms X) (MQ below (fun _ st o t => F o t ∧ va_F A st t) args s (ez_mc X) (ez_ms X) A) g) : W p l e R s m args below meth c H locs cells slots (ez_MQ X below s A F) g := by
  refine W.widen h1 h2 ?_
  intro T hT S
  obtain ⟨t, a1, o, b1, b2, ⟨b3, b4⟩, L, ⟨⟨v, rfl⟩, b5, b6⟩, b7⟩ := k T hT S
  exact ⟨t, a1, .returned v, b1, b2, b3, b4, L, ⟨b5, b6⟩, b7⟩
theorem ev_iret {v : Int32} (hd : ez_at X pc .ireturn 1 pc') (hr : X.2.2.2.1 = some .int) (hu : uc ≤ ez_mc X ∧ us ≤ ez_ms X) (hq : Q (.inl (some (.int v)), h)) : ez_Ev l G X uc us pc ls [.int v] h Q := by
  intro p e s m args below meth c A n0 ad0 ad H locs cells slots L I
  have hc := I.2.2.2.2.2.2.2.2.2
  exact ez_Wret (by omega) (by omega) (W.iret I.1.1 I.1.2.1 (I.1.2.2.2.2.2.1.trans hr) (fun t ht _ => ez_end I hq ht) I.2.2.2.2.2.2.2.1.2.2 hd.1 I.1.2.2.2.2.2.2.1)
theorem ev_zret {v : Int32} {ty : FieldType} (hd : ez_at X pc .ireturn 1 pc') (hr : X.2.2.2.1 = some ty) (hn : narrow ty (.int v) = .int v) (hu : uc ≤ ez_mc X ∧ us ≤ ez_ms X) (hq : Q (.inl (some (.int v)), h)) : ez_Ev l G X uc us pc ls [.int v] h Q := by
  intro p e s m args below meth c A n0 ad0 ad H locs cells slots L I
  have hc := I.2.2.2.2.2.2.2.2.2
  exact ez_Wret (by omega) (by omega) (W.zret I.1.1 I.1.2.1 (I.1.2.2.2.2.2.1.trans hr) hn (fun t ht _ => ez_end I hq ht) I.2.2.2.2.2.2.2.1.2.2 hd.1 I.1.2.2.2.2.2.2.1)
theorem ev_vret (hd : ez_at X pc .return_ 1 pc') (hr : X.2.2.2.1 = none) (hu : uc ≤ ez_mc X ∧ us ≤ ez_ms X) (hq : Q (.inl none, h)) : ez_Ev l G X uc us pc ls [] h Q := by
  intro p e s m args below meth c A n0 ad0 ad H locs cells slots L I
  have hc := I.2.2.2.2.2.2.2.2.2
  exact ez_Wret (by omega) (by omega) (W.vret I.1.1 I.1.2.1 (I.1.2.2.2.2.2.1.trans hr) (fun t ht _ => ez_end I hq ht) I.2.2.2.2.2.2.2.1.2.2 hd.1 I.1.2.2.2.2.2.2.1)
theorem ev_aret {k : Nat} {nm : String} (hd : ez_at X pc .areturn 1 pc') (hr : X.2.2.2.1 = some (.object nm)) (hu : uc ≤ ez_mc X ∧ us ≤ ez_ms X) (hq : Q (.inl (some (.ref k)), h)) : ez_Ev l G X uc us pc ls [.ref k] h Q := by
  intro p e s m args below meth c A n0 ad0 ad H locs cells slots L I
  have hc := I.2.2.2.2.2.2.2.2.2
  exact ez_Wret (by omega) (by omega) (W.aret I.1.1 I.1.2.1 (I.1.2.2.2.2.2.1.trans hr) (Or.inl ⟨nm, rfl⟩) (Or.inr ⟨_, rfl⟩) (fun t ht _ => ez_end I hq ht) I.2.2.2.2.2.2.2.1.2.2 hd.1 I.1.2.2.2.2.2.2.1)
/-! fields -/
def ez_fld (own : String) (index ci j : Nat) : Prop := ∃ (C : String) (T : u_T) (N : Nat), ez_cl[ci]? = some (C, T, N) ∧ j < N ∧ (∀ w ∈ u_ws C T N, w ∈ ez_T) ∧ (Cond.fieldLink own index (T j).1 (T j).2.1 (T j).2.2.1 ∈ ez_T ∨ ∃ host, Cond.fieldLinkNest own index (T j).1 (T j).2.1 (T j).2.2.1 host ∈ ez_T)
theorem ev_getf {index ci j k : Nat} {fs : List Value} {v : Value} (hd : ez_at X pc (.getfield index) 3 pc') (hf : ez_fld X.1.cls index ci j) (hk : h[k]? = some (.inr (ci, fs))) (hv : fs[j]? = some v) (kk : ez_Ev l G X uc us pc' ls (v :: st) h Q) : ez_Ev l G X uc us pc ls (.ref k :: st) h Q := by
  obtain ⟨hd, rfl⟩ := hd
  obtain ⟨C, T, N, hc, hj, hin, hl⟩ := hf
  intro p e s m args below meth c A n0 ad0 ad H locs cells slots L I
  have hv' : (fs.map (ez_v ad))[j]? = some (ez_v ad v) := by rw [List.getElem?_map, hv]; rfl
  rcases hl with hl | ⟨host, hl⟩
  · exact va_get I.1.1 I.1.2.1 I.1.2.2.2.2.1 hin I.1.2.2.2.1 I.1.2.2.2.2.2.2.2.2.1 I.2.2.2.2.2.1 k (ez_ws_get G ad hk) hc j hj (I.1.2.2.2.2.1 _ hl) (fun _ h => h) hv' hd (kk p e s m args below meth c A n0 ad0 ad H locs cells slots L I)
  · exact va_getN I.1.1 I.1.2.1 I.1.2.2.2.2.1 hin I.1.2.2.2.1 I.1.2.2.2.2.2.2.2.2.1 I.2.2.2.2.2.1 k (ez_ws_get G ad hk) hc j hj (I.1.2.2.2.2.1 _ hl) (fun _ h => h) hv' hd (kk p e s m args below meth c A n0 ad0 ad H locs cells slots L I)
def ez_fty (ci j : Nat) (fin : Bool) (ty : FieldType) : Prop := ∃ (C : String) (T : u_T) (N : Nat) (ty0 : Nat → FieldType), ez_cl[ci]? = some (C, T, N) ∧ (∀ k, k < N → parseFieldDescriptor (T k).2.2.1 = some (ty0 k)) ∧ (∀ a, a < N → ∀ b, b < N → a ≠ b → (T a).2.1 ≠ (T b).2.1) ∧ (T j).2.2.2 = fin ∧ parseFieldDescriptor (T j).2.2.1 = some ty ∧ (T j).1 = C
theorem ez_e_set (cA : FieldType → ClassId) (ad : Nat → Nat) (ci j : Nat) (fs : List Value) (v : Value) : (Sum.inr (ci, (fs.map (ez_v ad)).set j (ez_v ad v)) : va_E) = ez_e cA ad (.inr (ci, fs.set j v)) := by
  show _ = (Sum.inr (ci, (fs.set j v).map (ez_v ad)) : va_E)
  rw [List.map_set]
theorem ev_putf {index ci j k : Nat} {fs : List Value} {v : Value} {ty : FieldType} (hd : ez_at X pc (.putfield index) 3 pc') (hf : ez_fld X.1.cls index ci j) (hty : ez_fty ci j false ty) (hk : h[k]? = some (.inr (ci, fs))) (hl : j < fs.length) (hn : ∀ ad, narrow ty (ez_v ad v) = ez_v ad v ∧ fits ty (ez_v ad v) = true)
    (kk : ez_Ev l G X uc us pc' ls st (h.set k (.inr (ci, fs.set j v))) Q) : ez_Ev l G X uc us pc ls (v :: .ref k :: st) h Q := by
  obtain ⟨hd, rfl⟩ := hd
  obtain ⟨C, T, N, hc, hj, hin, hlk⟩ := hf
  obtain ⟨C', T', N', ty0, hc', ht0, hnm, hfin, hty, -⟩ := hty
  cases hc.symm.trans hc'
  intro p e s m args below meth c A n0 ad0 ad H locs cells slots L I
  have hlen : j < (fs.map (ez_v ad)).length := by rw [List.length_map]; exact hl
  have go : ∀ (H1 : Heap) (locs1 : List Loc), va_P G.1 ez_cl ((ez_ws G ad h).set k (ad k, .inr (ci, (fs.map (ez_v ad)).set j (ez_v ad v)))) H1 → va_D A ((ez_ws G ad h).set k (ad k, .inr (ci, (fs.map (ez_v ad)).set j (ez_v ad v)))) → va_S A s.heap H1 locs1 → W p l e (ez_rm X) s m args below meth c H1 locs1 cells slots (ez_MQ X below s A (ez_Fin G A n0 ad0 Q)) (F0 m (pc + 3) L (st.map (ez_v ad))) := fun H1 locs1 hP1 hD1 hS1 => by
    rw [ez_e_set G.2.1] at hP1 hD1
    exact kk p e s m args below meth c A n0 ad0 ad H1 locs1 cells slots L (ez_In_set I hP1 hD1 hS1)
  rcases hlk with hlk | ⟨host, hlk⟩
  · exact va_put I.1.1 I.1.2.1 I.1.2.2.2.2.1 hin ty0 ht0 hnm I.1.2.2.2.1 I.1.2.2.2.2.2.2.2.2.1 I.2.2.2.2.2.1 I.2.2.2.2.2.2.1 I.2.2.2.2.2.2.2.1 k (ez_ws_get G ad hk) hc j hj (I.1.2.2.2.2.1 _ hlk) (fun _ h => h) hfin hty (hn ad).1 (hn ad).2 hlen hd go
  · exact va_putN I.1.1 I.1.2.1 I.1.2.2.2.2.1 hin ty0 ht0 hnm I.1.2.2.2.1 I.1.2.2.2.2.2.2.2.2.1 I.2.2.2.2.2.1 I.2.2.2.2.2.2.1 I.2.2.2.2.2.2.2.1 k (ez_ws_get G ad hk) hc j hj (I.1.2.2.2.2.1 _ hlk) (fun _ h => h) hfin hty (hn ad).1 (hn ad).2 hlen hd go
/-! calls -/
theorem ev_calls {Y : ez_X} {n index : Nat} {as rest : List Value} {Qc : ez_R → Prop} (hok : ez_ok Y n) (hl : ez_link X.1.cls index Y.1) (hst : Cond.static Y.1 ∈ ez_T) (hd : ez_at X pc (.invokestatic index) 3 pc') (hC : ez_Ct l G Y as h Qc) (hs : st = as.reverse ++ rest) (hn : as.length = n)
    (hroom : ez_fits X Y uc us) (hrest : (rest.map fun v => v.category).sum ≤ 8) (hX : ez_hs X = []) (hth : uc + ez_mc Y ≤ ez_mc X ∧ us + ez_ms Y ≤ ez_ms X)
    (kr : ∀ v h', Qc (.inl v, h') → ez_still h.length h'.length ls rest ∧ ez_Ev l G X (uc + ez_mc Y) (us + ez_ms Y) pc' ls (v.toList ++ rest) h' Q)
    (kt : ∀ k h', Qc (.inr k, h') → h'.length = h.length ∧ Q (.inr k, h')) : ez_Ev l G X uc us pc ls st h Q := by
  refine ez_call hok hC hroom hrest ?_ ⟨_, hd.1⟩ hd.2 kr (fun k h' hq => ⟨(kt k h' hq).1, ez_Th_out hX ⟨by have := hth.1; omega, by have := hth.2; omega⟩ (kt k h' hq).2⟩)
  intro p e s m args below meth c A n0 ad0 ad H locs cells slots L T I hT S
  exact ez_goS S I.1.1 I.1.2.2.2.2.1 hok I.1.2.2.2.1 hl hst rfl (by rw [List.length_map]; exact hn) (by show st.map (ez_v ad) = _; rw [hs, List.map_append, List.map_reverse]) (by rw [I.1.2.1]; exact hd.1)
theorem ez_toV {Y : ez_X} {n index b ci : Nat} {as rest fs : List Value} {T0 : u_T} {N : Nat} (hok : ez_ok Y n) (hl : ez_link X.1.cls index Y.1) (hin : Cond.instanceMethod Y.1 ∈ ez_T) (hsel : Cond.selects Y.1.cls Y.1 Y.1 ∈ ez_T) (hd : ez_at X pc (.invokevirtual index) 3 pc') (hs : st = as.reverse ++ .ref b :: rest) (hn : as.length = n) (hb : h[b]? = some (.inr (ci, fs))) (hc : ez_cl[ci]? = some (Y.1.cls, T0, N)) :
    ∀ (p : Program) (e : Env) (s : State) (m : MethodId) (args : Array Value) (below : List Frame) (meth : Method) (c : Code) (A : Nat → Prop) (n0 : Nat) (ad0 ad : Nat → Nat) (H : Heap) (locs : List Loc) (cells slots : Nat) (L : Array Slot) (T : State),
      ez_In G X uc us ls h p s m args meth c A n0 ad0 ad H locs cells slots L → T.heap = H → Stand p l e (ez_rm X) s m args below meth c T locs cells slots →
      ez_To p l e (ez_rm X) s m args below meth c T locs cells slots Y.1 (F0 m pc L (st.map (ez_v ad))) (rest.map (ez_v ad)) ((Value.ref b :: as).map (ez_v ad)).toArray := by
  intro p e s m args below meth c A n0 ad0 ad H locs cells slots L T I hT S
  obtain ⟨cell, q1, q2, q3⟩ := va_recv I.1.2.2.2.2.2.2.2.2.1 I.2.2.2.2.2.1 hc (ez_ws_get G ad hb)
  exact ez_goV S I.1.1 I.1.2.2.2.2.1 hok I.1.2.2.2.1 hl hin hsel (by rw [hT]; exact q1) q2 q3 rfl (argsL := as.map (ez_v ad)) (by rw [List.length_map]; exact hn) (by show st.map (ez_v ad) = _; rw [hs, List.map_append, List.map_reverse]; rfl) (by rw [I.1.2.1]; exact hd.1)
theorem ev_callv {Y : ez_X} {n index b ci : Nat} {as rest fs : List Value} {T0 : u_T} {N : Nat} {Qc : ez_R → Prop} (hok : ez_ok Y n) (hl : ez_link X.1.cls index Y.1) (hin : Cond.instanceMethod Y.1 ∈ ez_T) (hsel : Cond.selects Y.1.cls Y.1 Y.1 ∈ ez_T) (hd : ez_at X pc (.invokevirtual index) 3 pc') (hb : h[b]? = some (.inr (ci, fs))) (hc : ez_cl[ci]? = some (Y.1.cls, T0, N))
    (hC : ez_Ct l G Y (.ref b :: as) h Qc) (hs : st = as.reverse ++ .ref b :: rest) (hn : as.length = n)
    (hroom : ez_fits X Y uc us) (hrest : (rest.map fun v => v.category).sum ≤ 8) (hX : ez_hs X = []) (hth : uc + ez_mc Y ≤ ez_mc X ∧ us + ez_ms Y ≤ ez_ms X)
    (kr : ∀ v h', Qc (.inl v, h') → ez_still h.length h'.length ls rest ∧ ez_Ev l G X (uc + ez_mc Y) (us + ez_ms Y) pc' ls (v.toList ++ rest) h' Q)
    (kt : ∀ k h', Qc (.inr k, h') → h'.length = h.length ∧ Q (.inr k, h')) : ez_Ev l G X uc us pc ls st h Q :=
  ez_call hok hC hroom hrest (ez_toV hok hl hin hsel hd hs hn hb hc) ⟨_, hd.1⟩ hd.2 kr (fun k h' hq => ⟨(kt k h' hq).1, ez_Th_out hX ⟨by have := hth.1; omega, by have := hth.2; omega⟩ (kt k h' hq).2⟩)
theorem ev_calli {Y : ez_X} {n index b : Nat} {as rest : List Value} {Qc : ez_R → Prop} (hok : ez_ok Y n) (hy1 : Y.1.name = "<init>") (hyr : Y.2.2.2.1 = none) (hh : ez_hs Y = []) (hl : ez_link X.1.cls index Y.1) (hin : Cond.instanceMethod Y.1 ∈ ez_T) (hd : ez_at X pc (.invokespecial index) 3 pc')
    (hC : ez_Ct l G Y (.ref b :: as) h Qc) (hs : st = as.reverse ++ .ref b :: rest) (hn : as.length = n)
    (hroom : ez_fits X Y uc us) (hrest : (rest.map fun v => v.category).sum ≤ 8)
    (kr : ∀ v h', Qc (.inl v, h') → ez_still h.length h'.length ls rest ∧ ez_Ev l G X (uc + ez_mc Y) (us + ez_ms Y) pc' ls (v.toList ++ rest) h' Q)
    (kt : ∀ k h', ¬ Qc (.inr k, h')) : ez_Ev l G X uc us pc ls st h Q := by
  refine ez_call hok hC hroom hrest ?_ ⟨_, hd.1⟩ hd.2 kr (fun k h' hq => absurd hq (kt k h'))
  intro p e s m args below meth c A n0 ad0 ad H locs cells slots L T I hT S
  exact ez_goI S I.1.1 I.1.2.2.2.2.1 hok hy1 hyr hh I.1.2.2.2.1 hl hin rfl (a := ad b) (argsL := as.map (ez_v ad)) (by rw [List.length_map]; exact hn) (by show st.map (ez_v ad) = _; rw [hs, List.map_append, List.map_reverse]; rfl) (by rw [I.1.2.1]; exact hd.1)
end EzRows
end
section
/-- the world once made: places, their lengths or fields -/
def es_SH : List ((FieldType × Nat) ⊕ (Nat × List (Option Nat))) := [.inr (0, [none, none, some 1, some 10, some 19, some 28, some 37, some 42, none]), .inr (1, [some 2, some 3, some 4, some 5, some 6, some 7, some 8, some 9, none, none]), .inl (.int, 24), .inl (.int, 24), .inl (.int, 24), .inl (.int, 48), .inl (.int, 24), .inl (.int, 3), .inl (.int, 5), .inl (.int, 24), .inr (1, [some 11, some 12, some 13, some 14, some 15, some 16, some 17, some 18, none, none]), .inl (.int, 24), .inl (.int, 24), .inl (.int, 24), .inl (.int, 48), .inl (.int, 24), .inl (.int, 3), .inl (.int, 5), .inl (.int, 24), .inr (2, [some 1, some 20, some 21, some 22, some 23, some 24, some 25, some 26, some 27, none, none, none, none]), .inl (.int, 24), .inl (.int, 384), .inl (.int, 512), .inl (.int, 512), .inl (.int, 32), .inl (.int, 32), .inl (.int, 32), .inl (.int, 32), .inr (2, [some 10, some 29, some 30, some 31, some 32, some 33, some 34, some 35, some 36, none, none, none, none]), .inl (.int, 24), .inl (.int, 384), .inl (.int, 512), .inl (.int, 512), .inl (.int, 32), .inl (.int, 32), .inl (.int, 32), .inl (.int, 32), .inr (3, [some 19, some 28, some 38, some 39, some 40, some 41, none, none, none, none, none, none, none]), .inl (.int, 32), .inl (.int, 1024), .inl (.int, 1024), .inl (.int, 1024), .inr (4, [some 1, some 10, some 43, some 44, some 45, none]), .inl (.int, 24), .inl (.int, 24), .inl (.int, 24), .inr (5, [none, none, some 47, some 48, some 49, some 50, some 51, some 52, some 53, some 54, some 55, some 56, some 57, some 58, none, some 59, some 60, some 61, some 62, none, none, some 63]), .inl (.boolean, 16), .inl (.int, 2), .inl (.int, 48), .inl (.int, 48), .inl (.int, 48), .inl (.int, 48), .inl (.int, 6), .inl (.boolean, 24), .inl (.int, 24), .inl (.int, 1024), .inl (.boolean, 64), .inl (.boolean, 1024), .inl (.int, 1024), .inl (.int, 1024), .inl (.int, 1024), .inl (.boolean, 1024), .inl (.boolean, 576), .inl (.long, 1)]
/-! ===== THE STEADY WORLD: once made, its references stand; its numbers change: σ k j is the number at slot j of the cell at place k ===== -/
abbrev es_Sh : Type := (FieldType × Nat) ⊕ (Nat × List (Option Nat))
abbrev es_S : Type := Nat → Nat → Int32
def es_fs (rs : List (Option Nat)) (f : Nat → Int32) : List Value := rs.mapIdx fun j r => match r with
  | some k => .ref k
  | none => .int (f j)
def es_cell (q : es_Sh) (f : Nat → Int32) : ez_Cell := match q with
  | .inl a => if a.1 = .long then .inl (.long, (a.2, .inr (.inl fun j => (f j).toInt64))) else .inl (a.1, (a.2, .inl f))
  | .inr o => .inr (o.1, es_fs o.2 f)
def es_Hs (sh : List es_Sh) (σ : es_S) : ez_H := sh.mapIdx fun k q => es_cell q (σ k)
/-- (shut, so that nobody unfolds it by chance) -/
theorem es_Hex : ∃ f : es_S → ez_H, ∀ σ, f σ = es_Hs es_SH σ := ⟨_, fun _ => rfl⟩
noncomputable def es_H : es_S → ez_H := Classical.choose es_Hex
theorem es_Heq (σ : es_S) : es_H σ = es_Hs es_SH σ := Classical.choose_spec es_Hex σ
def es_up (σ : es_S) (k j : Nat) (x : Int32) : es_S := fun a => if a = k then upd (σ k) j x else σ a
def es_arr (σ : es_S) (k : Nat) (f : Nat → Int32) : es_S := fun a => if a = k then f else σ a
theorem es_up_arr (σ : es_S) (k j : Nat) (x : Int32) : es_up σ k j x = es_arr σ k (upd (σ k) j x) := rfl
theorem es_up_eq (σ : es_S) (k j : Nat) (x : Int32) : es_up σ k j x k j = x := by simp [es_up, upd]
theorem es_up_ne (σ : es_S) (k j : Nat) (x : Int32) {j' : Nat} (h : j' ≠ j) : es_up σ k j x k j' = σ k j' := by simp [es_up, upd, h]
theorem es_up_off (σ : es_S) (k j : Nat) (x : Int32) {k' : Nat} (h : k' ≠ k) : es_up σ k j x k' = σ k' := by simp [es_up, h]
theorem es_get {σ : es_S} {k : Nat} {q : es_Sh} (hk : es_SH[k]? = some q) : (es_H σ)[k]? = some (es_cell q (σ k)) := by
  rw [es_Heq]
  simp only [es_Hs, List.getElem?_mapIdx, hk, Option.map_some]
theorem es_len (σ : es_S) : (es_H σ).length = es_SH.length := by rw [es_Heq]; unfold es_Hs; exact List.length_mapIdx
theorem es_set {σ : es_S} {k : Nat} {q : es_Sh} (hk : es_SH[k]? = some q) (f : Nat → Int32) : (es_H σ).set k (es_cell q f) = es_H (es_arr σ k f) := by
  apply List.ext_getElem?
  intro j
  rw [List.getElem?_set]
  have hl : k < (es_H σ).length := by rw [es_len]; exact (List.getElem?_eq_some_iff.mp hk).1
  by_cases hj : k = j
  · subst hj
    rw [if_pos rfl, if_pos hl, es_get hk]
    have e9 : es_arr σ k f k = f := if_pos rfl
    rw [e9]
  · rw [if_neg hj, es_Heq, es_Heq]
    simp only [es_Hs, List.getElem?_mapIdx]
    have e9 : es_arr σ k f j = σ j := if_neg (fun e => hj e.symm)
    rw [e9]
theorem es_fs_get {rs : List (Option Nat)} {f : Nat → Int32} {j : Nat} (h : rs[j]? = some none) : (es_fs rs f)[j]? = some (.int (f j)) := by
  simp [es_fs, h]
theorem es_fs_ref {rs : List (Option Nat)} {f : Nat → Int32} {j k : Nat} (h : rs[j]? = some (some k)) : (es_fs rs f)[j]? = some (.ref k) := by
  simp [es_fs, h]
theorem es_fs_set {rs : List (Option Nat)} {f : Nat → Int32} {j : Nat} (h : rs[j]? = some none) (x : Int32) : (es_fs rs f).set j (.int x) = es_fs rs (upd f j x) := by
  apply List.ext_getElem?
  intro i
  rw [List.getElem?_set]
  have hl : j < (es_fs rs f).length := by simp [es_fs, (List.getElem?_eq_some_iff.mp h).1]
  by_cases hj : j = i
  · subst hj
    rw [if_pos rfl, if_pos hl, es_fs_get h]
    simp [upd]
  · rw [if_neg hj]
    simp only [es_fs, List.getElem?_mapIdx, upd]
    cases rs[i]? with
    | none => rfl
    | some r =>
      cases r with
      | none => simp [Ne.symm hj]
      | some k => rfl
/-- how a method ends, in the steady world -/
def es_Q (R : Option Value → es_S → Prop) (T : Nat → es_S → Prop) : ez_R → Prop := fun r => ∃ σ : es_S, r.2 = es_H σ ∧ match r.1 with
  | .inl v => R v σ
  | .inr k => T k σ
def es_I (P : Int32 → es_S → Prop) : Option Value → es_S → Prop := fun v σ => ∃ x, v = some (.int x) ∧ P x σ
def es_V (P : es_S → Prop) : Option Value → es_S → Prop := fun v σ => v = none ∧ P σ
def es_P (P : Nat → es_S → Prop) : Option Value → es_S → Prop := fun v σ => ∃ k, v = some (.ref k) ∧ P k σ
def es_no : Nat → es_S → Prop := fun _ _ => False
section EsRows
variable {l : Launch} {G : ez_G} {X : ez_X} {uc us pc pc' tgt : Nat} {ls : List (Option Value)} {st : List Value} {σ : es_S} {Q : ez_R → Prop} {R : Option Value → es_S → Prop} {T : Nat → es_S → Prop}
theorem es_iald {k n : Nat} {i : Int32} (hd : ez_at X pc .iaload 1 pc') (hk : es_SH[k]? = some (.inl (.int, n))) (hin : vp_in i n) (kk : ez_Ev l G X uc us pc' ls (.int (σ k i.toNatClampNeg) :: st) (es_H σ) Q) : ez_Ev l G X uc us pc ls (.int i :: .ref k :: st) (es_H σ) Q :=
  ev_iald hd (es_get hk) hin kk
theorem es_zald {k n : Nat} {i : Int32} (hd : ez_at X pc .baload 1 pc') (hk : es_SH[k]? = some (.inl (.boolean, n))) (hin : vp_in i n) (kk : ez_Ev l G X uc us pc' ls (.int (σ k i.toNatClampNeg) :: st) (es_H σ) Q) : ez_Ev l G X uc us pc ls (.int i :: .ref k :: st) (es_H σ) Q :=
  ev_zald hd (es_get hk) hin kk
theorem es_lald {k n : Nat} {i : Int32} (hd : ez_at X pc .laload 1 pc') (hk : es_SH[k]? = some (.inl (.long, n))) (hin : vp_in i n) (kk : ez_Ev l G X uc us pc' ls (.long (σ k i.toNatClampNeg).toInt64 :: st) (es_H σ) Q) : ez_Ev l G X uc us pc ls (.int i :: .ref k :: st) (es_H σ) Q :=
  ev_lald hd (es_get hk) hin kk
theorem es_iast {k n : Nat} {i x : Int32} (hd : ez_at X pc .iastore 1 pc') (hk : es_SH[k]? = some (.inl (.int, n))) (hin : vp_in i n) (kk : ez_Ev l G X uc us pc' ls st (es_H (es_up σ k i.toNatClampNeg x)) Q) : ez_Ev l G X uc us pc ls (.int x :: .int i :: .ref k :: st) (es_H σ) Q := by
  refine ev_iast hd (es_get hk) hin ?_
  have e := es_set (σ := σ) hk (upd (σ k) i.toNatClampNeg x)
  have e2 : es_cell (.inl (.int, n)) (upd (σ k) i.toNatClampNeg x) = .inl (.int, (n, .inl (upd (σ k) i.toNatClampNeg x))) := rfl
  rw [e2] at e
  rw [e]
  exact kk
theorem es_zast {k n : Nat} {i x : Int32} (hd : ez_at X pc .bastore 1 pc') (hk : es_SH[k]? = some (.inl (.boolean, n))) (hin : vp_in i n) (kk : ez_Ev l G X uc us pc' ls st (es_H (es_up σ k i.toNatClampNeg (vp_nar .boolean x))) Q) : ez_Ev l G X uc us pc ls (.int x :: .int i :: .ref k :: st) (es_H σ) Q := by
  refine ev_zast hd (es_get hk) hin ?_
  have e := es_set (σ := σ) hk (upd (σ k) i.toNatClampNeg (vp_nar .boolean x))
  have e2 : es_cell (.inl (.boolean, n)) (upd (σ k) i.toNatClampNeg (vp_nar .boolean x)) = .inl (.boolean, (n, .inl (upd (σ k) i.toNatClampNeg (vp_nar .boolean x)))) := rfl
  rw [e2] at e
  rw [e]
  exact kk
theorem es_last {k n : Nat} {i x : Int32} (hd : ez_at X pc .lastore 1 pc') (hk : es_SH[k]? = some (.inl (.long, n))) (hin : vp_in i n) (kk : ez_Ev l G X uc us pc' ls st (es_H (es_up σ k i.toNatClampNeg x)) Q) : ez_Ev l G X uc us pc ls (.long x.toInt64 :: .int i :: .ref k :: st) (es_H σ) Q := by
  refine ev_last (f := fun j => (σ k j).toInt64) hd (es_get hk) hin ?_
  have e := es_set (σ := σ) hk (upd (σ k) i.toNatClampNeg x)
  have e2 : es_cell (.inl (.long, n)) (upd (σ k) i.toNatClampNeg x) = .inl (.long, (n, .inr (.inl (vp_updL (fun j => (σ k j).toInt64) i.toNatClampNeg x.toInt64)))) := by
    show (Sum.inl (.long, (n, .inr (.inl fun j => (upd (σ k) i.toNatClampNeg x j).toInt64))) : ez_Cell) = _
    have e3 : (fun j => (upd (σ k) i.toNatClampNeg x j).toInt64) = vp_updL (fun j => (σ k j).toInt64) i.toNatClampNeg x.toInt64 := by
      funext j
      simp only [upd, vp_updL]
      split <;> rfl
    rw [e3]
  rw [e2] at e
  rw [e]
  exact kk
theorem es_alen {k n : Nat} {v : Int32} (hd : ez_at X pc .arraylength 1 pc') (hk : es_SH[k]? = some (.inl (.int, n))) (hv : Int32.ofNat n = v) (kk : ez_Ev l G X uc us pc' ls (.int v :: st) (es_H σ) Q) : ez_Ev l G X uc us pc ls (.ref k :: st) (es_H σ) Q :=
  ev_alen hd (es_get hk) hv kk
theorem es_getI {index ci j k : Nat} {rs : List (Option Nat)} (hd : ez_at X pc (.getfield index) 3 pc') (hf : ez_fld X.1.cls index ci j) (hk : es_SH[k]? = some (.inr (ci, rs))) (hj : rs[j]? = some none) (kk : ez_Ev l G X uc us pc' ls (.int (σ k j) :: st) (es_H σ) Q) : ez_Ev l G X uc us pc ls (.ref k :: st) (es_H σ) Q :=
  ev_getf hd hf (es_get hk) (es_fs_get hj) kk
theorem es_getR {index ci j k r : Nat} {rs : List (Option Nat)} (hd : ez_at X pc (.getfield index) 3 pc') (hf : ez_fld X.1.cls index ci j) (hk : es_SH[k]? = some (.inr (ci, rs))) (hj : rs[j]? = some (some r)) (kk : ez_Ev l G X uc us pc' ls (.ref r :: st) (es_H σ) Q) : ez_Ev l G X uc us pc ls (.ref k :: st) (es_H σ) Q :=
  ev_getf hd hf (es_get hk) (es_fs_ref hj) kk
theorem es_putI {index ci j k : Nat} {x : Int32} {ty : FieldType} {rs : List (Option Nat)} (hd : ez_at X pc (.putfield index) 3 pc') (hf : ez_fld X.1.cls index ci j) (hty : ez_fty ci j false ty) (hk : es_SH[k]? = some (.inr (ci, rs))) (hj : rs[j]? = some none) (hn : narrow ty (.int x) = .int x ∧ fits ty (.int x) = true) (kk : ez_Ev l G X uc us pc' ls st (es_H (es_up σ k j x)) Q) : ez_Ev l G X uc us pc ls (.int x :: .ref k :: st) (es_H σ) Q := by
  refine ev_putf hd hf hty (es_get hk) (by simp [es_fs, (List.getElem?_eq_some_iff.mp hj).1]) (fun _ => hn) ?_
  rw [es_fs_set hj]
  have e := es_set (σ := σ) hk (upd (σ k) j x)
  have e2 : es_cell (.inr (ci, rs)) (upd (σ k) j x) = .inr (ci, es_fs rs (upd (σ k) j x)) := rfl
  rw [e2] at e
  rw [e]
  exact kk
theorem es_iret {v : Int32} (hd : ez_at X pc .ireturn 1 pc') (hr : X.2.2.2.1 = some .int) (hu : uc ≤ ez_mc X ∧ us ≤ ez_ms X) (hq : R (some (.int v)) σ) : ez_Ev l G X uc us pc ls [.int v] (es_H σ) (es_Q R T) := ev_iret hd hr hu ⟨σ, rfl, hq⟩
theorem es_zret {v : Int32} (hd : ez_at X pc .ireturn 1 pc') (hr : X.2.2.2.1 = some .boolean) (hn : narrow .boolean (.int v) = .int v) (hu : uc ≤ ez_mc X ∧ us ≤ ez_ms X) (hq : R (some (.int v)) σ) : ez_Ev l G X uc us pc ls [.int v] (es_H σ) (es_Q R T) := ev_zret hd hr hn hu ⟨σ, rfl, hq⟩
theorem es_vret (hd : ez_at X pc .return_ 1 pc') (hr : X.2.2.2.1 = none) (hu : uc ≤ ez_mc X ∧ us ≤ ez_ms X) (hq : R none σ) : ez_Ev l G X uc us pc ls [] (es_H σ) (es_Q R T) := ev_vret hd hr hu ⟨σ, rfl, hq⟩
theorem es_aret {k : Nat} {nm : String} (hd : ez_at X pc .areturn 1 pc') (hr : X.2.2.2.1 = some (.object nm)) (hu : uc ≤ ez_mc X ∧ us ≤ ez_ms X) (hq : R (some (.ref k)) σ) : ez_Ev l G X uc us pc ls [.ref k] (es_H σ) (es_Q R T) := ev_aret hd hr hu ⟨σ, rfl, hq⟩
/-- what a caller must know of a callee, by its link: a static one -/
def es_lkS (X Y : ez_X) (index n : Nat) : Prop := ez_ok Y n ∧ ez_link X.1.cls index Y.1 ∧ Cond.static Y.1 ∈ ez_T
/-- and one of an object -/
def es_lkV (X Y : ez_X) (index n ci : Nat) : Prop := ez_ok Y n ∧ ez_link X.1.cls index Y.1 ∧ Cond.instanceMethod Y.1 ∈ ez_T ∧ Cond.selects Y.1.cls Y.1 Y.1 ∈ ez_T ∧ ∃ (T0 : u_T) (N : Nat), ez_cl[ci]? = some (Y.1.cls, T0, N)
theorem es_calls {Y : ez_X} {n index : Nat} {as rest : List Value} {R' : Option Value → es_S → Prop} {T' : Nat → es_S → Prop} (hlk : es_lkS X Y index n) (hd : ez_at X pc (.invokestatic index) 3 pc') (hC : ez_Ct l G Y as (es_H σ) (es_Q R' T')) (hs : st = as.reverse ++ rest) (hn : as.length = n)
    (hroom : ez_fits X Y uc us) (hrest : (rest.map fun v => v.category).sum ≤ 8) (hX : ez_hs X = []) (hth : uc + ez_mc Y ≤ ez_mc X ∧ us + ez_ms Y ≤ ez_ms X)
    (kr : ∀ v σ', R' v σ' → ez_Ev l G X (uc + ez_mc Y) (us + ez_ms Y) pc' ls (v.toList ++ rest) (es_H σ') (es_Q R T))
    (kt : ∀ k σ', T' k σ' → T k σ') : ez_Ev l G X uc us pc ls st (es_H σ) (es_Q R T) := by
  refine ev_calls hlk.1 hlk.2.1 hlk.2.2 hd hC hs hn hroom hrest hX hth ?_ ?_
  · rintro v h' ⟨σ', e, hr⟩
    have e' : h' = es_H σ' := e
    subst e'
    refine ⟨?_, kr v σ' hr⟩
    rw [es_len, es_len]
    exact ez_still_eq _ _ _
  · rintro k h' ⟨σ', e, hr⟩
    have e' : h' = es_H σ' := e
    subst e'
    exact ⟨by rw [es_len, es_len], σ', rfl, kt k σ' hr⟩
theorem es_callv {Y : ez_X} {n index b ci : Nat} {as rest : List Value} {rs : List (Option Nat)} {R' : Option Value → es_S → Prop} {T' : Nat → es_S → Prop} (hlk : es_lkV X Y index n ci) (hd : ez_at X pc (.invokevirtual index) 3 pc') (hb : es_SH[b]? = some (.inr (ci, rs))) (hC : ez_Ct l G Y (.ref b :: as) (es_H σ) (es_Q R' T')) (hs : st = as.reverse ++ .ref b :: rest) (hn : as.length = n)
    (hroom : ez_fits X Y uc us) (hrest : (rest.map fun v => v.category).sum ≤ 8) (hX : ez_hs X = []) (hth : uc + ez_mc Y ≤ ez_mc X ∧ us + ez_ms Y ≤ ez_ms X)
    (kr : ∀ v σ', R' v σ' → ez_Ev l G X (uc + ez_mc Y) (us + ez_ms Y) pc' ls (v.toList ++ rest) (es_H σ') (es_Q R T))
    (kt : ∀ k σ', T' k σ' → T k σ') : ez_Ev l G X uc us pc ls st (es_H σ) (es_Q R T) := by
  obtain ⟨T0, N, hc⟩ := hlk.2.2.2.2
  refine ev_callv hlk.1 hlk.2.1 hlk.2.2.1 hlk.2.2.2.1 hd (es_get hb) hc hC hs hn hroom hrest hX hth ?_ ?_
  · rintro v h' ⟨σ', e, hr⟩
    have e' : h' = es_H σ' := e
    subst e'
    refine ⟨?_, kr v σ' hr⟩
    rw [es_len, es_len]
    exact ez_still_eq _ _ _
  · rintro k h' ⟨σ', e, hr⟩
    have e' : h' = es_H σ' := e
    subst e'
    exact ⟨by rw [es_len, es_len], σ', rfl, kt k σ' hr⟩
theorem es_callsI {Y : ez_X} {n index : Nat} {as rest : List Value} {P : Int32 → es_S → Prop} {T' : Nat → es_S → Prop} (hlk : es_lkS X Y index n) (hd : ez_at X pc (.invokestatic index) 3 pc') (hC : ez_Ct l G Y as (es_H σ) (es_Q (es_I P) T')) (hs : st = as.reverse ++ rest) (hn : as.length = n)
    (hroom : ez_fits X Y uc us) (hrest : (rest.map fun v => v.category).sum ≤ 8) (hX : ez_hs X = []) (hth : uc + ez_mc Y ≤ ez_mc X ∧ us + ez_ms Y ≤ ez_ms X)
    (kr : ∀ x σ', P x σ' → ez_Ev l G X (uc + ez_mc Y) (us + ez_ms Y) pc' ls (.int x :: rest) (es_H σ') (es_Q R T))
    (kt : ∀ k σ', T' k σ' → T k σ') : ez_Ev l G X uc us pc ls st (es_H σ) (es_Q R T) :=
  es_calls hlk hd hC hs hn hroom hrest hX hth (fun v σ' hv => by
    obtain ⟨x, rfl, hp⟩ := hv
    exact kr x σ' hp) kt
theorem es_callvI {Y : ez_X} {n index : Nat} {b ci : Nat} {rs : List (Option Nat)} {as rest : List Value} {P : Int32 → es_S → Prop} {T' : Nat → es_S → Prop} (hlk : es_lkV X Y index n ci) (hd : ez_at X pc (.invokevirtual index) 3 pc') (hb : es_SH[b]? = some (.inr (ci, rs))) (hC : ez_Ct l G Y (.ref b :: as) (es_H σ) (es_Q (es_I P) T')) (hs : st = as.reverse ++ .ref b :: rest) (hn : as.length = n)
    (hroom : ez_fits X Y uc us) (hrest : (rest.map fun v => v.category).sum ≤ 8) (hX : ez_hs X = []) (hth : uc + ez_mc Y ≤ ez_mc X ∧ us + ez_ms Y ≤ ez_ms X)
    (kr : ∀ x σ', P x σ' → ez_Ev l G X (uc + ez_mc Y) (us + ez_ms Y) pc' ls (.int x :: rest) (es_H σ') (es_Q R T))
    (kt : ∀ k σ', T' k σ' → T k σ') : ez_Ev l G X uc us pc ls st (es_H σ) (es_Q R T) :=
  es_callv hlk hd hb hC hs hn hroom hrest hX hth (fun v σ' hv => by
    obtain ⟨x, rfl, hp⟩ := hv
    exact kr x σ' hp) kt
theorem es_callsV {Y : ez_X} {n index : Nat} {as rest : List Value} {P : es_S → Prop} {T' : Nat → es_S → Prop} (hlk : es_lkS X Y index n) (hd : ez_at X pc (.invokestatic index) 3 pc') (hC : ez_Ct l G Y as (es_H σ) (es_Q (es_V P) T')) (hs : st = as.reverse ++ rest) (hn : as.length = n)
    (hroom : ez_fits X Y uc us) (hrest : (rest.map fun v => v.category).sum ≤ 8) (hX : ez_hs X = []) (hth : uc + ez_mc Y ≤ ez_mc X ∧ us + ez_ms Y ≤ ez_ms X)
    (kr : ∀ σ', P σ' → ez_Ev l G X (uc + ez_mc Y) (us + ez_ms Y) pc' ls rest (es_H σ') (es_Q R T))
    (kt : ∀ k σ', T' k σ' → T k σ') : ez_Ev l G X uc us pc ls st (es_H σ) (es_Q R T) :=
  es_calls hlk hd hC hs hn hroom hrest hX hth (fun v σ' hv => by
    obtain ⟨rfl, hp⟩ := hv
    exact kr σ' hp) kt
theorem es_callvV {Y : ez_X} {n index : Nat} {b ci : Nat} {rs : List (Option Nat)} {as rest : List Value} {P : es_S → Prop} {T' : Nat → es_S → Prop} (hlk : es_lkV X Y index n ci) (hd : ez_at X pc (.invokevirtual index) 3 pc') (hb : es_SH[b]? = some (.inr (ci, rs))) (hC : ez_Ct l G Y (.ref b :: as) (es_H σ) (es_Q (es_V P) T')) (hs : st = as.reverse ++ .ref b :: rest) (hn : as.length = n)
    (hroom : ez_fits X Y uc us) (hrest : (rest.map fun v => v.category).sum ≤ 8) (hX : ez_hs X = []) (hth : uc + ez_mc Y ≤ ez_mc X ∧ us + ez_ms Y ≤ ez_ms X)
    (kr : ∀ σ', P σ' → ez_Ev l G X (uc + ez_mc Y) (us + ez_ms Y) pc' ls rest (es_H σ') (es_Q R T))
    (kt : ∀ k σ', T' k σ' → T k σ') : ez_Ev l G X uc us pc ls st (es_H σ) (es_Q R T) :=
  es_callv hlk hd hb hC hs hn hroom hrest hX hth (fun v σ' hv => by
    obtain ⟨rfl, hp⟩ := hv
    exact kr σ' hp) kt
theorem es_callsP {Y : ez_X} {n index : Nat} {as rest : List Value} {P : Nat → es_S → Prop} {T' : Nat → es_S → Prop} (hlk : es_lkS X Y index n) (hd : ez_at X pc (.invokestatic index) 3 pc') (hC : ez_Ct l G Y as (es_H σ) (es_Q (es_P P) T')) (hs : st = as.reverse ++ rest) (hn : as.length = n)
    (hroom : ez_fits X Y uc us) (hrest : (rest.map fun v => v.category).sum ≤ 8) (hX : ez_hs X = []) (hth : uc + ez_mc Y ≤ ez_mc X ∧ us + ez_ms Y ≤ ez_ms X)
    (kr : ∀ x σ', P x σ' → ez_Ev l G X (uc + ez_mc Y) (us + ez_ms Y) pc' ls (.ref x :: rest) (es_H σ') (es_Q R T))
    (kt : ∀ k σ', T' k σ' → T k σ') : ez_Ev l G X uc us pc ls st (es_H σ) (es_Q R T) :=
  es_calls hlk hd hC hs hn hroom hrest hX hth (fun v σ' hv => by
    obtain ⟨x, rfl, hp⟩ := hv
    exact kr x σ' hp) kt
theorem es_callvP {Y : ez_X} {n index : Nat} {b ci : Nat} {rs : List (Option Nat)} {as rest : List Value} {P : Nat → es_S → Prop} {T' : Nat → es_S → Prop} (hlk : es_lkV X Y index n ci) (hd : ez_at X pc (.invokevirtual index) 3 pc') (hb : es_SH[b]? = some (.inr (ci, rs))) (hC : ez_Ct l G Y (.ref b :: as) (es_H σ) (es_Q (es_P P) T')) (hs : st = as.reverse ++ .ref b :: rest) (hn : as.length = n)
    (hroom : ez_fits X Y uc us) (hrest : (rest.map fun v => v.category).sum ≤ 8) (hX : ez_hs X = []) (hth : uc + ez_mc Y ≤ ez_mc X ∧ us + ez_ms Y ≤ ez_ms X)
    (kr : ∀ x σ', P x σ' → ez_Ev l G X (uc + ez_mc Y) (us + ez_ms Y) pc' ls (.ref x :: rest) (es_H σ') (es_Q R T))
    (kt : ∀ k σ', T' k σ' → T k σ') : ez_Ev l G X uc us pc ls st (es_H σ) (es_Q R T) :=
  es_callv hlk hd hb hC hs hn hroom hrest hX hth (fun v σ' hv => by
    obtain ⟨x, rfl, hp⟩ := hv
    exact kr x σ' hp) kt
end EsRows
end
section
/-! ===== making cells: new, newarray, final fields, Object's constructor ===== -/
section EzMake
variable {l : Launch} {G : ez_G} {X : ez_X} {uc us pc pc' : Nat} {ls : List (Option Value)} {st : List Value} {h : ez_H} {Q : ez_R → Prop}
def ez_oldc (n : Nat) (q : ez_Cell) : Bool := match q with
  | .inl _ => true
  | .inr o => o.2.all (ez_old n (n + 1))
def ez_oks (h : ez_H) (ls : List (Option Value)) (st : List Value) : Bool :=
  h.all (ez_oldc h.length) && (st.all (ez_old h.length (h.length + 1)) && ls.all (fun o => match o with | some v => ez_old h.length (h.length + 1) v | none => true))
def ez_adn (ad : Nat → Nat) (n q : Nat) : Nat → Nat := fun k => if k = n then q else ad k
theorem ez_adn_eq (ad : Nat → Nat) (n q : Nat) : ∀ k, ¬ (n ≤ k ∧ k < n + 1) → ez_adn ad n q k = ad k := fun k hk => if_neg (by omega)
theorem ez_ws_push (G : ez_G) (ad : Nat → Nat) (h : ez_H) (q : Nat) (cell : ez_Cell) (hok : h.all (ez_oldc h.length) = true) : ez_ws G (ez_adn ad h.length q) (h ++ [cell]) = ez_ws G ad h ++ [(q, ez_e G.2.1 (ez_adn ad h.length q) cell)] := by
  unfold ez_ws
  rw [List.mapIdx_append]
  congr 1
  · apply List.ext_getElem?
    intro j
    simp only [List.getElem?_mapIdx]
    cases hj : h[j]? with
    | none => rfl
    | some c =>
      simp only [Option.map_some]
      have hlt := (List.getElem?_eq_some_iff.mp hj).1
      have hc := List.all_eq_true.mp hok c (List.mem_of_getElem? hj)
      have e1 : ez_adn ad h.length q j = ad j := if_neg (by omega)
      have e2 : ez_e G.2.1 (ez_adn ad h.length q) c = ez_e G.2.1 ad c := by
        cases c with
        | inl a => rfl
        | inr o =>
          show (Sum.inr (o.1, o.2.map (ez_v (ez_adn ad h.length q))) : va_E) = Sum.inr (o.1, o.2.map (ez_v ad))
          rw [List.map_congr_left fun v hv => ez_old_eq (List.all_eq_true.mp hc v hv) (ez_adn_eq ad h.length q)]
      rw [e1, e2]
  · simp [ez_adn]
theorem ez_In_push {n : Nat} {p : Program} {s : State} {m : MethodId} {args : Array Value} {meth : Method} {c : Code} {A : Nat → Prop} {n0 : Nat} {ad0 ad : Nat → Nat} {H H1 : Heap} {locs : List Loc} {cells slots q : Nat} {cell : ez_Cell} {L : Array Slot}
    (I : ez_In G X uc us ls h p s m args meth c A n0 ad0 ad H locs cells slots L) (hok : ez_oks h ls st = true) (hlt : h.length < 900)
    (hP1 : va_P G.1 ez_cl (ez_ws G ad h ++ [(q, ez_e G.2.1 (ez_adn ad h.length q) cell)]) H1) (hD1 : va_D A (ez_ws G ad h ++ [(q, ez_e G.2.1 (ez_adn ad h.length q) cell)])) (hS1 : va_S A s.heap H1 locs) :
    ez_In G X (uc + 1) (us + n) ls (h ++ [cell]) p s m args meth c A n0 ad0 (ez_adn ad h.length q) H1 locs (cells + 1) (slots + n) L ∧ st.map (ez_v (ez_adn ad h.length q)) = st.map (ez_v ad) := by
  unfold ez_oks at hok
  simp only [Bool.and_eq_true] at hok
  obtain ⟨h1, h2, h3⟩ := hok
  obtain ⟨r1, r2⟩ := ez_still_of h2 h3 ad (ez_adn ad h.length q) (ez_adn_eq ad h.length q)
  obtain ⟨hctx, hA, ⟨hRo, hh9, had⟩, hn0, hag, hPw, hD, hS, hL, hc1, hs1⟩ := I
  have hlen : (h ++ [cell]).length = h.length + 1 := by simp
  refine ⟨⟨hctx, hA, ⟨hRo, by omega, fun k hk => by rw [ez_adn_eq ad h.length q k (by omega)]; exact had k hk⟩, by omega, fun k hk => ?_, by rw [ez_ws_push G ad h q cell h1]; exact hP1, by rw [ez_ws_push G ad h q cell h1]; exact hD1, hS1,
    ⟨hL.1, hL.2.1, fun i v hi => by rw [r2 i v hi]; exact hL.2.2 i v hi⟩, by omega, by omega⟩, r1⟩
  rw [hlen] at hk
  rw [ez_adn_eq ad h.length q k (by omega)]
  exact hag k (by omega)
def ez_mk (own : String) (index ci N : Nat) (fs : List Value) : Prop := ∃ (C : String) (T : u_T) (ty : Nat → FieldType), ez_cl[ci]? = some (C, T, N) ∧ (∀ w ∈ u_ws C T N, w ∈ ez_T) ∧ (∀ k, k < N → parseFieldDescriptor (T k).2.2.1 = some (ty k)) ∧
  Cond.classLink own index C ∈ ez_T ∧ Cond.instantiable C N ∈ ez_T ∧ Cond.initialized C ∈ ez_T ∧ (∀ j, j < N → defaultValue (ty j) = vp_V fs j) ∧ fs.all (fun v => match v with | .ref _ => false | _ => true) = true
theorem ez_norefs {fs : List Value} (hf : fs.all (fun v => match v with | .ref _ => false | _ => true) = true) (ad : Nat → Nat) : fs.map (ez_v ad) = fs := by
  have : ∀ v ∈ fs, ez_v ad v = v := fun v hv => by
    have := List.all_eq_true.mp hf v hv
    cases v <;> first | rfl | cases this
  rw [List.map_congr_left this, List.map_id']
theorem ev_new {index ci N : Nat} {fs : List Value} (hd : ez_at X pc (.new index) 3 pc') (hm : ez_mk X.1.cls index ci N fs) (hlt : h.length < 900) (b1 : uc + 1 ≤ ez_rc X) (b2 : us + N ≤ ez_rs X) (hok : ez_oks h ls st = true)
    (kk : ez_Ev l G X (uc + 1) (us + N) pc' ls (.ref h.length :: st) (h ++ [.inr (ci, fs)]) Q) : ez_Ev l G X uc us pc ls st h Q := by
  obtain ⟨hd, rfl⟩ := hd
  obtain ⟨C, T, ty, hc, hin, hty, hcl, hinst, hini, hfs, hnr⟩ := hm
  intro p e s m args below meth c A n0 ad0 ad H locs cells slots L I
  have hts := I.1.2.2.2.2.1
  have hc2 := I.2.2.2.2.2.2.2.2.2
  refine va_new I.1.1 I.1.2.1 hts hin ty hty I.1.2.2.2.1 (hts _ hcl) (hts _ hinst) (hts _ hini) I.1.2.2.2.2.2.2.2.2.1 I.2.2.2.2.2.1 I.2.2.2.2.2.2.1 I.2.2.2.2.2.2.2.1 I.2.1 hc hfs (by show cells + 1 ≤ ez_rc X; omega) (by show slots + N ≤ ez_rs X; omega) hd ?_
  intro q H1 hP1 hD1 hS1
  have e1 : (Sum.inr (ci, fs) : va_E) = ez_e G.2.1 (ez_adn ad h.length q) (.inr (ci, fs)) := by
    show _ = (Sum.inr (ci, fs.map (ez_v (ez_adn ad h.length q))) : va_E)
    rw [ez_norefs hnr]
  rw [e1] at hP1 hD1
  obtain ⟨I', r1⟩ := ez_In_push (st := st) I hok hlt hP1 hD1 hS1
  have := kk p e s m args below meth c A n0 ad0 (ez_adn ad h.length q) H1 locs (cells + 1) (slots + N) L I'
  rw [List.map_cons, r1] at this
  have e2 : ez_v (ez_adn ad h.length q) (.ref h.length) = .ref q := by simp [ez_v, ez_adn]
  rw [e2] at this
  exact this
theorem ez_cA {tys : List (ClassId × FieldType)} {D : va_G} {cl : List vw_C} {U : State} {c1 c2 : ClassId} {ty : FieldType} (hK : va_K D cl tys U) {i j : Nat} (h1 : tys[i]? = some (c1, ty)) (h2 : tys[j]? = some (c2, ty)) (hp : ty = .int ∨ ty = .boolean ∨ ty = .long) : c1 = c2 := by
  have a1 := (hK.2 i _ h1).2
  have a2 := (hK.2 j _ h2).2
  rcases hp with rfl | rfl | rfl <;> exact Option.some.inj (a1.symm.trans a2)
theorem ev_newa {atype : ArrayType} {ty : FieldType} {n : Int32} {N : Nat} {a0 : vp_A} (hd : ez_at X pc (.newarray atype) 2 pc') (harr : Cond.arrayClass (newarray.typeOf atype) ∈ ez_T) (hty : newarray.typeOf atype = ty) (hp : ty = .int ∨ ty = .boolean ∨ ty = .long) (ha : ∀ cA : ClassId, vp_cell cA a0 = arrV cA N (fun _ => defaultValue ty)) (hn : ¬ n < 0) (hN : n.toNatClampNeg = N) (hby : N * componentBytes ty ≤ 536870912)
    (hlt : h.length < 900) (b1 : uc + 1 ≤ ez_rc X) (b2 : us + N ≤ ez_rs X) (hok : ez_oks h ls st = true)
    (kk : ez_Ev l G X (uc + 1) (us + N) pc' ls (.ref h.length :: st) (h ++ [.inl (ty, a0)]) Q) : ez_Ev l G X uc us pc ls (.int n :: st) h Q := by
  obtain ⟨hd, rfl⟩ := hd
  intro p e s m args below meth c A n0 ad0 ad H locs cells slots L I
  have hts := I.1.2.2.2.2.1
  have hc2 := I.2.2.2.2.2.2.2.2.2
  refine va_newa I.1.1 I.1.2.1 (hts _ harr) hty I.1.2.2.2.2.2.2.2.2.1 I.2.2.2.2.2.1 I.2.2.2.2.2.2.1 I.2.2.2.2.2.2.2.1 I.2.1 ha hn hN hby (by show cells + 1 ≤ ez_rc X; omega) (by show slots + N ≤ ez_rs X; omega) hd ?_
  intro q cA H1 hK1 hP1 hD1 hS1
  have e0 : cA = G.2.1 ty := by
    have h2 : (ez_tys G ++ [(cA, ty)])[3]? = some (cA, ty) := rfl
    rcases hp with rfl | rfl | rfl
    · exact ez_cA hK1 (i := 3) (j := 0) h2 rfl (Or.inl rfl)
    · exact ez_cA hK1 (i := 3) (j := 1) h2 rfl (Or.inr (Or.inl rfl))
    · exact ez_cA hK1 (i := 3) (j := 2) h2 rfl (Or.inr (Or.inr rfl))
  subst e0
  obtain ⟨I', r1⟩ := ez_In_push (st := st) (cell := .inl (ty, a0)) I hok hlt hP1 hD1 hS1
  have := kk p e s m args below meth c A n0 ad0 (ez_adn ad h.length q) H1 locs (cells + 1) (slots + N) L I'
  rw [List.map_cons, r1] at this
  have e2 : ez_v (ez_adn ad h.length q) (.ref h.length) = .ref q := by simp [ez_v, ez_adn]
  rw [e2] at this
  exact this
theorem ev_putF {index ci j k : Nat} {fs : List Value} {v : Value} {ty : FieldType} (hd : ez_at X pc (.putfield index) 3 pc') (hf : ez_fld X.1.cls index ci j) (hfl : ∃ (T : u_T) (N : Nat), ez_cl[ci]? = some (X.1.cls, T, N) ∧ Cond.fieldLink X.1.cls index (T j).1 (T j).2.1 (T j).2.2.1 ∈ ez_T) (hX : X.1.name = "<init>") (hty : ez_fty ci j true ty) (hk : h[k]? = some (.inr (ci, fs))) (hl : j < fs.length) (hn : ∀ ad, narrow ty (ez_v ad v) = ez_v ad v ∧ fits ty (ez_v ad v) = true)
    (kk : ez_Ev l G X uc us pc' ls st (h.set k (.inr (ci, fs.set j v))) Q) : ez_Ev l G X uc us pc ls (v :: .ref k :: st) h Q := by
  obtain ⟨hd, rfl⟩ := hd
  obtain ⟨C, T, N, hc, hj, hin, -⟩ := hf
  obtain ⟨C', T', N', ty0, hc', ht0, hnm, hfin, hty, hC⟩ := hty
  cases hc.symm.trans hc'
  obtain ⟨T2, N2, hc2, hlk⟩ := hfl
  cases hc.symm.trans hc2
  intro p e s m args below meth c A n0 ad0 ad H locs cells slots L I
  have hlen : j < (fs.map (ez_v ad)).length := by rw [List.length_map]; exact hl
  refine va_putF I.1.1 I.1.2.1 I.1.2.2.2.2.1 hin ty0 ht0 hnm I.1.2.2.2.1 I.1.2.2.2.2.2.2.2.2.1 I.2.2.2.2.2.1 I.2.2.2.2.2.2.1 I.2.2.2.2.2.2.2.1 k (ez_ws_get G ad hk) hc j hj (I.1.2.2.2.2.1 _ hlk) (fun _ h => h) hfin (I.1.2.2.2.2.2.2.2.2.2.trans hX) hC hty (hn ad).1 (hn ad).2 hlen hd ?_
  intro H1 locs1 hP1 hD1 hS1
  rw [ez_e_set G.2.1] at hP1 hD1
  exact kk p e s m args below meth c A n0 ad0 ad H1 locs1 cells slots L (ez_In_set I hP1 hD1 hS1)
theorem ev_objInit {index k : Nat} (hd : ez_at X pc (.invokespecial index) 3 pc') (h1 : Cond.methodLink X.1.cls index Lib.objectInit ∈ ez_T) (h2 : Cond.instanceMethod Lib.objectInit ∈ ez_T) (h3 : Cond.code Lib.objectInit ⟨#[0xb1]⟩ 1 none ∈ ez_T) (hw : (st.map fun v => v.category).sum ≤ 8) (hf : 1 ≤ ez_fr X ∧ 20 ≤ ez_lo X)
    (kk : ez_Ev l G X uc us pc' ls st h Q) : ez_Ev l G X uc us pc ls (.ref k :: st) h Q := by
  obtain ⟨hd, rfl⟩ := hd
  intro p e s m args below meth c A n0 ad0 ad H locs cells slots L I
  have hts := I.1.2.2.2.2.1
  have hw' : ((st.map (ez_v ad)).map fun v => v.category).sum ≤ 8 := by
    have e1 : ((st.map (ez_v ad)).map fun v => v.category) = st.map fun v => v.category := by
      rw [List.map_map]
      exact List.map_congr_left fun v _ => ez_cat ad v
    rw [e1]
    exact hw
  exact W.objInit I.1.1 I.1.2.1 I.1.2.2.2.1 (hts _ h1) (hts _ h2) (hts _ h3) rfl (by rw [I.1.2.2.1]; exact I.2.2.2.2.2.2.2.2.1.1) rfl hd hf.1 (by show 2 * 0 + ((st.map (ez_v ad)).map fun v => v.category).sum + 12 ≤ ez_lo X; have := hf.2; omega) (kk p e s m args below meth c A n0 ad0 ad H locs cells slots L I)
end EzMake
end
section
/-! ===== throwing and catching ===== -/
section EzThrow
variable {l : Launch} {G : ez_G} {X : ez_X} {uc us pc pc' : Nat} {ls : List (Option Value)} {st : List Value} {h : ez_H} {Q : ez_R → Prop}
/-- 'throw new E("text")', E of kind k, at pc: the entries of its class, its text, its constructor -/
def ez_thr (X : ez_X) (pc k : Nat) : Prop := ∃ (ik is ic : Nat) (text : String),
  Cond.classLink X.1.cls ik (ez_exN k) ∈ ez_T ∧ Cond.initialized (ez_exN k) ∈ ez_T ∧ (X.1.cls, is, text) ∈ ez_str ∧ (∀ w ∈ vx_atS X.1.cls ic (ez_exN k) ["java/lang/RuntimeException", "java/lang/Exception"], w ∈ ez_T) ∧
  (∀ w ∈ Cond.classLink X.1.cls ik (ez_exN k) :: Cond.initialized (ez_exN k) :: vx_atS X.1.cls ic (ez_exN k) ["java/lang/RuntimeException", "java/lang/Exception"], vx_ot w = true) ∧
  Bundle.fit (ez_exN k) = true ∧ decode X.2.1 pc = .ok (.new ik, 3) ∧ decode X.2.1 (pc + 3) = .ok (.dup, 1) ∧ decode X.2.1 (pc + 4) = .ok (.ldc is, 2) ∧ decode X.2.1 (pc + 6) = .ok (.invokespecial ic, 3) ∧ decode X.2.1 (pc + 9) = .ok (.athrow, 1)
theorem ev_throw {k : Nat} (hl : l.stackTraces = false) (ht : ez_thr X pc k) (hX : ez_hs X = []) (hr : (6 ≤ ez_fr X ∧ 84 ≤ ez_lo X) ∧ uc + 1 ≤ ez_rc X ∧ us + 6 ≤ ez_rs X) (hm : uc ≤ ez_mc X ∧ us ≤ ez_ms X) (hst : st = []) (hq : Q (.inr k, h)) : ez_Ev l G X uc us pc ls st h Q := by
  subst hst
  obtain ⟨ik, is, ic, text, w1, w2, w3, w4, w5, w6, d0, d3, d4, d6, d9⟩ := ht
  intro p e s m args below meth c A n0 ad0 ad H locs cells slots L I
  obtain ⟨⟨hx, hb, hml, hown, hts, hret, hlk, hhand, hK, -⟩, hA, ⟨hRo, hh9, had⟩, hn0, hag, hPw, hD, hS, hL, hc1, hs1⟩ := I
  obtain ⟨sa, hsa⟩ := hRo.2.2.1 _ w3
  have hout : ∀ y ∈ c.exceptionTable.toList, covers y (pc + 9) = false := by
    rw [hX] at hhand
    rw [List.map_eq_nil_iff.mp hhand]
    intro y hy
    cases hy
  have k0 := vx_throwS (p := p) (l := l) (e := e) (R := ez_rm X) (s := s) (m := m) (args := args) (below := below) (meth := meth) (c := c) (H := H) (locs := locs) (cells := cells) (slots := slots) (ls := L) (rest := []) (mc := ez_mc X + 1) (ms := ez_ms X + 6) (free := A)
    (Qc := fun _ _ _ _ => False) (XC := fun E st t => E = ez_exN k ∧ H.size ≤ t.heap.size ∧ ∀ q : Nat, q < H.size → t.heap[q]? = H[q]?)
    hx hb hl hown w6 (by decide) (hts _ w1) (hts _ w2) hsa (fun w hw => hts w (w4 w hw)) w5 hRo.2.1.1 hRo.2.1.2 hS (by rw [hml]; exact hL.1) d0 d3 d4 d6 d9 hout
    (by show 2 + 3 < ez_fr X; omega) (by show 0 + (13 * (2 + 1) + 43) ≤ ez_lo X; omega) (by show cells + 1 ≤ ez_rc X; omega) (by show slots + 6 ≤ ez_rs X; omega) hlk (fun t _ h1 h2 => ⟨rfl, h1, h2⟩) hS.2.2 (by omega) (by omega)
  intro T hT S
  obtain ⟨t, a1, o, b1, b2, hq2⟩ := k0 T hT S
  rcases hq2 with ⟨hf, -⟩ | ⟨q, rfl, E, ce, Lc, ⟨rfl, f1, f2⟩, hce, hcv, hcl, hW, hsm, hLc⟩
  · exact hf.elim
  · have hkp : ∀ (j : Nat) (z : Nat × va_E), (ez_ws G ad h)[j]? = some z → t.heap[z.1]? = H[z.1]? := fun j z hz => f2 z.1 (hPw j z hz).lt
    refine ⟨t, a1, .threw q, b1, b2, ⟨(.inr k, h), ad, hq, ⟨hn0, hh9⟩, hag, fun j z hz => (hPw j z hz).kept (hkp j z hz), hD, q, ce, rfl, hce, hcv, by rw [hW.alike.findClass]; exact hcl⟩, ⟨Nat.le_trans hS.1 f1, fun q2 g1 g2 => by rw [f2 q2 (Nat.lt_of_lt_of_le g1 hS.1)]; exact hS.2.1 q2 g1 g2⟩, Lc, ⟨hW, hsm⟩, hLc⟩
/-- an exception of kind k is caught here by the handler at hp, whose first instruction stores it; rows: (from, to, handler, class's entry) -/
theorem ez_Th_catch {k hp i : Nat} {pre suf : List (Nat × Nat × Nat × Nat)} {x : Nat × Nat × Nat × Nat} (hX : ez_hs X = pre ++ x :: suf) (hpre : ∀ z ∈ pre, z.2.2.2 ≠ 0 ∧ k = 1 ∧ Cond.classLink X.1.cls z.2.2.2 "java/lang/IllegalArgumentException" ∈ ez_T) (hx : (x.1 ≤ pc ∧ pc < x.2.1) ∧ x.2.2.1 = hp ∧ x.2.2.2 ≠ 0)
    (hlink : Cond.classLink X.1.cls x.2.2.2 (ez_exN k) ∈ ez_T) (hcast : Cond.castable (ez_exN k) (ez_exN k) ∈ ez_T) (hi : i < X.2.2.1) (hd : (∃ f : Fin 4, decode X.2.1 hp = .ok (.astore_n f, 1) ∧ (f : Nat) = i ∧ hp + 1 = pc') ∨ (decode X.2.1 hp = .ok (.astore i, 2) ∧ hp + 2 = pc'))
    (kk : ez_Ev l G X uc us pc' (ls.set i none) [] h Q) : ez_Th l G X uc us pc ls h k Q := by
  intro p e s m args below meth c A n0 ad0 ad H locs cells slots L st q cell T I hc1 hc2 hc3 hT S
  have hts := I.1.2.2.2.2.1
  have hown := I.1.2.2.2.1
  have hhand := I.1.2.2.2.2.2.2.2.1
  rw [hX] at hhand
  obtain ⟨pre', r1, e1, e2, e3⟩ := List.map_eq_append_iff.mp hhand
  obtain ⟨x', suf', e4, e5, e6⟩ := List.map_eq_cons_iff.mp e3
  subst e4
  have hcov : covers x' pc = true := by
    have h1 := congrArg (fun z : Nat × Nat × Nat × Nat => z.1) e5
    have h2 := congrArg (fun z : Nat × Nat × Nat × Nat => z.2.1) e5
    dsimp only at h1 h2
    simp only [covers, Bool.and_eq_true, decide_eq_true_eq]
    omega
  have hct : x'.catchType = x.2.2.2 := congrArg (fun z : Nat × Nat × Nat × Nat => z.2.2.2) e5
  have hhp : x'.handlerPc = hp := (congrArg (fun z : Nat × Nat × Nat × Nat => z.2.2.1) e5).trans hx.2.1
  have hL0 : lv_has L X.2.2.1 (ez_lv ad ls) := ez_lv_has I.2.2.2.2.2.2.2.2.1
  have hput : ∀ (L' : Array Slot) (y : Nat), lv_has L' X.2.2.1 ((i, Value.ref y) :: (ez_lv ad ls).filter (fun q => !(q.1 == i) && !(q.1 + 1 == i && q.2.category == 2))) → ez_L ad X.2.2.1 (ls.set i none) L' := by
    intro L' y hl'
    refine ⟨hl'.1, hl'.2.1, fun j w hj => ?_⟩
    rw [List.getElem?_set] at hj
    by_cases hij : i = j
    · subst hij
      rw [if_pos rfl] at hj
      split at hj <;> cases hj
    · rw [if_neg hij] at hj
      have h1 := (I.2.2.2.2.2.2.2.2.1.2.2 j w hj).1
      refine ⟨h1, hl'.2.2 (j, ez_v ad w) (List.mem_cons_of_mem _ (List.mem_filter.mpr ⟨ez_lv_in hj, ?_⟩))⟩
      have h2 : ¬ (ez_v ad w).category = 2 := by rw [ez_cat, h1]; decide
      simp [h2, Ne.symm hij]
  have kw : W p l e (ez_rm X) s m args below meth c H locs cells slots (ez_MQ X below s A (ez_Fin G A n0 ad0 Q)) (F0 m x'.handlerPc L [.ref q]) := by
    rw [hhp]
    rcases hd with ⟨f, hd, hf, rfl⟩ | ⟨hd, rfl⟩
    · exact lv_astore_n I.1.1 I.1.2.1 hd hf hL0 hi rfl (fun L' hL' => kk p e s m args below meth c A n0 ad0 ad H locs cells slots L' (ez_In_ls I (hput L' q hL')))
    · exact lv_astore I.1.1 I.1.2.1 hd hL0 hi rfl (fun L' hL' => kk p e s m args below meth c A n0 ad0 ad H locs cells slots L' (ez_In_ls I (hput L' q hL')))
  have kc := vx_catch (E := ez_exN k) (name := ez_exN k) (ce := cell) (q := q) (rest := st) (pc := pc) (ls := L) hown pre' x' suf' e1 (fun z hz => ?_) hcov (by rw [hct]; exact hx.2.2) (by rw [hct]; exact hts _ hlink) (hts _ hcast) hc1 hc2 hc3 kw
  · exact kc T hT S
  · have hz2 : (z.startPc, z.endPc, z.handlerPc, z.catchType) ∈ pre := by
      rw [← e2]
      exact List.mem_map.mpr ⟨z, hz, rfl⟩
    obtain ⟨g1, g2, g3⟩ := hpre _ hz2
    subst g2
    exact Or.inr ⟨g1, _, hts _ g3, I.2.2.1.1.2.2.2.1⟩
end EzThrow
end
section
/-! ===== the methods ===== -/
def X_EE_init : ez_X := (⟨"EditionEqual", "<init>", "(I)V"⟩, prog_1_method_1_code, 2, none, [], (2, 44, 45, 6713, 45, 6713))
def X_EE_block : ez_X := (⟨"EditionEqual", "block", "(III)I"⟩, prog_1_method_2_code, 5, (some .int), [], (8, 125, 1, 6, 0, 0))
def X_EE_wire : ez_X := (⟨"EditionEqual", "wire", "(IIII)I"⟩, prog_1_method_3_code, 6, (some .int), [], (8, 125, 1, 6, 0, 0))
def X_EE_out : ez_X := (⟨"EditionEqual", "out", "(III)I"⟩, prog_1_method_4_code, 5, (some .int), [], (8, 125, 1, 6, 0, 0))
def X_EE_bar : ez_X := (⟨"EditionEqual", "bar", "(IZ)Z"⟩, prog_1_method_5_code, 5, (some .boolean), [], (7, 105, 1, 6, 0, 0))
def X_EE_wrong : ez_X := (⟨"EditionEqual", "wrong", "(I)I"⟩, prog_1_method_6_code, 2, (some .int), [], (8, 125, 1, 6, 0, 0))
def X_EE_value : ez_X := (⟨"EditionEqual", "value", "(IIII)I"⟩, prog_1_method_7_code, 5, (some .int), [], (9, 147, 1, 6, 0, 0))
def X_EE_tick : ez_X := (⟨"EditionEqual", "tick", "(III)I"⟩, prog_1_method_8_code, 5, (some .int), [], (9, 147, 1, 6, 0, 0))
def X_EE_reached : ez_X := (⟨"EditionEqual", "reached", "(I)I"⟩, prog_1_method_9_code, 2, (some .int), [], (9, 147, 1, 6, 0, 0))
def X_EE_state : ez_X := (⟨"EditionEqual", "state", "(II)I"⟩, prog_1_method_10_code, 3, (some .int), [], (9, 147, 1, 6, 0, 0))
def X_EE_least : ez_X := (⟨"EditionEqual", "least", "(I)I"⟩, prog_1_method_11_code, 2, (some .int), [], (9, 147, 1, 6, 0, 0))
def X_EE_compare : ez_X := (⟨"EditionEqual", "compare", "()I"⟩, prog_1_method_12_code, 1, (some .int), [], (8, 136, 1, 6, 0, 0))
def X_EE_shown : ez_X := (⟨"EditionEqual", "shown", "(I)I"⟩, prog_1_method_13_code, 3, (some .int), [], (8, 136, 1, 6, 0, 0))
def X_EE_last : ez_X := (⟨"EditionEqual", "last", "(I)I"⟩, prog_1_method_14_code, 2, (some .int), [], (8, 136, 1, 6, 0, 0))
def X_EE_pairs : ez_X := (⟨"EditionEqual", "pairs", "()I"⟩, prog_1_method_15_code, 1, (some .int), [], (8, 136, 1, 6, 0, 0))
def X_EE_same : ez_X := (⟨"EditionEqual", "same", "()Z"⟩, prog_1_method_16_code, 1, (some .boolean), [], (7, 113, 1, 6, 0, 0))
def X_EE_matched : ez_X := (⟨"EditionEqual", "matched", "(I)I"⟩, prog_1_method_17_code, 2, (some .int), [], (7, 113, 1, 6, 0, 0))
def X_EE_idle : ez_X := (⟨"EditionEqual", "idle", "(II)I"⟩, prog_1_method_18_code, 4, (some .int), [], (8, 125, 1, 6, 0, 0))
def X_EE_blocks : ez_X := (⟨"EditionEqual", "blocks", "(I)I"⟩, prog_1_method_19_code, 2, (some .int), [], (8, 125, 1, 6, 0, 0))
def X_EE_editionOf : ez_X := (⟨"EditionEqual", "editionOf", "(I)LEditionEqual$Edition;"⟩, prog_1_method_20_code, 2, (some (.object "EditionEqual$Edition")), [], (7, 104, 1, 6, 0, 0))
def X_EE_behaviourOf : ez_X := (⟨"EditionEqual", "behaviourOf", "(I)LEditionEqual$Behaviour;"⟩, prog_1_method_21_code, 3, (some (.object "EditionEqual$Behaviour")), [], (8, 125, 1, 6, 0, 0))
def X_EE_searchOfBoth : ez_X := (⟨"EditionEqual", "searchOfBoth", "()LEditionEqual$PairSearch;"⟩, prog_1_method_22_code, 1, (some (.object "EditionEqual$PairSearch")), [], (7, 116, 1, 6, 0, 0))
def X_EE_forgetAnswers : ez_X := (⟨"EditionEqual", "forgetAnswers", "()V"⟩, prog_1_method_23_code, 1, none, [], (1, 20, 0, 0, 0, 0))
def X_EE_openRows : ez_X := (⟨"EditionEqual", "openRows", "()I"⟩, prog_1_method_24_code, 1, (some .int), [], (0, 0, 0, 0, 0, 0))
def X_EE_isNumberOfKind : ez_X := (⟨"EditionEqual", "isNumberOfKind", "(II)Z"⟩, prog_1_method_25_code, 3, (some .boolean), [], (1, 21, 0, 0, 0, 0))
def X_EE_checkRow : ez_X := (⟨"EditionEqual", "checkRow", "(I)V"⟩, prog_1_method_26_code, 2, none, [], (6, 84, 1, 6, 0, 0))
def X_EE_checkBothRight : ez_X := (⟨"EditionEqual", "checkBothRight", "()V"⟩, prog_1_method_27_code, 1, none, [], (6, 85, 1, 6, 0, 0))
def X_EE_checkEdition : ez_X := (⟨"EditionEqual", "checkEdition", "(I)V"⟩, prog_1_method_28_code, 1, none, [], (6, 84, 1, 6, 0, 0))
def X_EE_checkBlock : ez_X := (⟨"EditionEqual", "checkBlock", "(LEditionEqual$Edition;I)V"⟩, prog_1_method_29_code, 2, none, [], (6, 84, 1, 6, 0, 0))
def X_EE_isWithin : ez_X := (⟨"EditionEqual", "isWithin", "(II)Z"⟩, prog_1_method_30_code, 2, (some .boolean), [], (0, 0, 0, 0, 0, 0))
def X_EE_bitOf : ez_X := (⟨"EditionEqual", "bitOf", "(I)I"⟩, prog_1_method_31_code, 1, (some .int), [], (0, 0, 0, 0, 0, 0))
def X_EE_holds : ez_X := (⟨"EditionEqual", "holds", "(II)Z"⟩, prog_1_method_32_code, 2, (some .boolean), [], (0, 0, 0, 0, 0, 0))
def X_MD_init : ez_X := (⟨"EditionEqualModel", "<init>", "(I)V"⟩, prog_7_method_1_code, 3, none, [], (1, 22, 17, 7048, 17, 7048))
def X_MD_thrown : ez_X := (⟨"EditionEqualModel", "thrown", "()I"⟩, prog_7_method_2_code, 1, (some .int), [], (0, 0, 0, 0, 0, 0))
def X_MD_in : ez_X := (⟨"EditionEqualModel", "in", "(III)Z"⟩, prog_7_method_3_code, 3, (some .boolean), [], (0, 0, 0, 0, 0, 0))
def X_MD_goes : ez_X := (⟨"EditionEqualModel", "goes", "(ZZ)Z"⟩, prog_7_method_4_code, 3, (some .boolean), [], (0, 0, 0, 0, 0, 0))
def X_MD_isBlock : ez_X := (⟨"EditionEqualModel", "isBlock", "(II)Z"⟩, prog_7_method_5_code, 3, (some .boolean), [], (1, 22, 0, 0, 0, 0))
def X_MD_isRow : ez_X := (⟨"EditionEqualModel", "isRow", "(I)Z"⟩, prog_7_method_6_code, 2, (some .boolean), [], (1, 22, 0, 0, 0, 0))
def X_MD_needs : ez_X := (⟨"EditionEqualModel", "needs", "(I)I"⟩, prog_7_method_7_code, 1, (some .int), [], (0, 0, 0, 0, 0, 0))
def X_MD_input : ez_X := (⟨"EditionEqualModel", "input", "(III)I"⟩, prog_7_method_8_code, 4, (some .int), [], (0, 0, 0, 0, 0, 0))
def X_MD_delays : ez_X := (⟨"EditionEqualModel", "delays", "(I)I"⟩, prog_7_method_9_code, 4, (some .int), [], (0, 0, 0, 0, 0, 0))
def X_MD_block : ez_X := (⟨"EditionEqualModel", "block", "(III)I"⟩, prog_7_method_10_code, 6, (some .int), [], (1, 23, 0, 0, 0, 0))
def X_MD_wire : ez_X := (⟨"EditionEqualModel", "wire", "(IIII)I"⟩, prog_7_method_11_code, 7, (some .int), [], (2, 44, 0, 0, 0, 0))
def X_MD_out : ez_X := (⟨"EditionEqualModel", "out", "(III)I"⟩, prog_7_method_12_code, 5, (some .int), [], (2, 44, 0, 0, 0, 0))
def X_MD_bar : ez_X := (⟨"EditionEqualModel", "bar", "(IZ)Z"⟩, prog_7_method_13_code, 4, (some .boolean), [], (2, 43, 0, 0, 0, 0))
def X_MD_isRound : ez_X := (⟨"EditionEqualModel", "isRound", "(II)Z"⟩, prog_7_method_14_code, 5, (some .boolean), [], (2, 49, 0, 0, 0, 0))
def X_MD_mark : ez_X := (⟨"EditionEqualModel", "mark", "(II)Z"⟩, prog_7_method_15_code, 7, (some .boolean), [], (1, 23, 0, 0, 0, 0))
def X_MD_fault : ez_X := (⟨"EditionEqualModel", "fault", "(I)I"⟩, prog_7_method_16_code, 4, (some .int), [], (3, 73, 0, 0, 0, 0))
def X_MD_wrong : ez_X := (⟨"EditionEqualModel", "wrong", "(I)I"⟩, prog_7_method_17_code, 2, (some .int), [], (4, 96, 0, 0, 0, 0))
def X_MD_isRight : ez_X := (⟨"EditionEqualModel", "isRight", "(I)Z"⟩, prog_7_method_18_code, 2, (some .boolean), [], (4, 96, 0, 0, 0, 0))
def X_MD_areRight : ez_X := (⟨"EditionEqualModel", "areRight", "()Z"⟩, prog_7_method_19_code, 1, (some .boolean), [], (5, 117, 0, 0, 0, 0))
def X_MD_settle : ez_X := (⟨"EditionEqualModel", "settle", "(III)V"⟩, prog_7_method_20_code, 7, none, [], (2, 48, 0, 0, 0, 0))
def X_MD_reckon : ez_X := (⟨"EditionEqualModel", "reckon", "(II)I"⟩, prog_7_method_21_code, 6, (some .int), [], (1, 23, 0, 0, 0, 0))
def X_MD_answer : ez_X := (⟨"EditionEqualModel", "answer", "(III)I"⟩, prog_7_method_22_code, 7, (some .int), [], (3, 74, 0, 0, 0, 0))
def X_MD_value : ez_X := (⟨"EditionEqualModel", "value", "(IIII)I"⟩, prog_7_method_23_code, 5, (some .int), [], (5, 117, 0, 0, 0, 0))
def X_MD_tick : ez_X := (⟨"EditionEqualModel", "tick", "(III)I"⟩, prog_7_method_24_code, 4, (some .int), [], (5, 117, 0, 0, 0, 0))
def X_MD_explore : ez_X := (⟨"EditionEqualModel", "explore", "(I)V"⟩, prog_7_method_25_code, 7, none, [], (4, 100, 0, 0, 0, 0))
def X_MD_reachedCount : ez_X := (⟨"EditionEqualModel", "reachedCount", "(I)I"⟩, prog_7_method_26_code, 4, (some .int), [], (0, 0, 0, 0, 0, 0))
def X_MD_reached : ez_X := (⟨"EditionEqualModel", "reached", "(I)I"⟩, prog_7_method_27_code, 2, (some .int), [], (5, 126, 0, 0, 0, 0))
def X_MD_state : ez_X := (⟨"EditionEqualModel", "state", "(II)I"⟩, prog_7_method_28_code, 5, (some .int), [], (5, 126, 0, 0, 0, 0))
def X_MD_tells : ez_X := (⟨"EditionEqualModel", "tells", "(III)Z"⟩, prog_7_method_29_code, 8, (some .boolean), [], (0, 0, 0, 0, 0, 0))
def X_MD_least : ez_X := (⟨"EditionEqualModel", "least", "(I)I"⟩, prog_7_method_30_code, 8, (some .int), [], (5, 126, 0, 0, 0, 0))
def X_MD_meet : ez_X := (⟨"EditionEqualModel", "meet", "(III)V"⟩, prog_7_method_31_code, 4, none, [], (0, 0, 0, 0, 0, 0))
def X_MD_goOver : ez_X := (⟨"EditionEqualModel", "goOver", "()V"⟩, prog_7_method_32_code, 5, none, [], (5, 126, 0, 0, 0, 0))
def X_MD_shownCount : ez_X := (⟨"EditionEqualModel", "shownCount", "()I"⟩, prog_7_method_33_code, 3, (some .int), [], (0, 0, 0, 0, 0, 0))
def X_MD_compare : ez_X := (⟨"EditionEqualModel", "compare", "()I"⟩, prog_7_method_34_code, 1, (some .int), [], (6, 150, 0, 0, 0, 0))
def X_MD_shown : ez_X := (⟨"EditionEqualModel", "shown", "(I)I"⟩, prog_7_method_35_code, 6, (some .int), [], (6, 150, 0, 0, 0, 0))
def X_MD_last : ez_X := (⟨"EditionEqualModel", "last", "(I)I"⟩, prog_7_method_36_code, 3, (some .int), [], (6, 150, 0, 0, 0, 0))
def X_MD_pairs : ez_X := (⟨"EditionEqualModel", "pairs", "()I"⟩, prog_7_method_37_code, 1, (some .int), [], (6, 150, 0, 0, 0, 0))
def X_MD_areSame : ez_X := (⟨"EditionEqualModel", "areSame", "()Z"⟩, prog_7_method_38_code, 8, (some .boolean), [], (1, 25, 0, 0, 0, 0))
def X_MD_areSingle : ez_X := (⟨"EditionEqualModel", "areSingle", "()Z"⟩, prog_7_method_39_code, 6, (some .boolean), [], (0, 0, 0, 0, 0, 0))
def X_MD_same : ez_X := (⟨"EditionEqualModel", "same", "()Z"⟩, prog_7_method_40_code, 1, (some .boolean), [], (6, 137, 0, 0, 0, 0))
def X_MD_matched : ez_X := (⟨"EditionEqualModel", "matched", "(I)I"⟩, prog_7_method_41_code, 4, (some .int), [], (6, 137, 0, 0, 0, 0))
def X_MD_idle : ez_X := (⟨"EditionEqualModel", "idle", "(II)I"⟩, prog_7_method_42_code, 7, (some .int), [], (1, 23, 0, 0, 0, 0))
def X_MD_blocks : ez_X := (⟨"EditionEqualModel", "blocks", "(I)I"⟩, prog_7_method_43_code, 2, (some .int), [], (1, 22, 0, 0, 0, 0))
def X_BH_init : ez_X := (⟨"EditionEqual$Behaviour", "<init>", "(LEditionEqual$Edition;)V"⟩, prog_2_method_1_code, 2, none, [], (1, 22, 8, 1560, 8, 1560))
def X_BH_forget : ez_X := (⟨"EditionEqual$Behaviour", "forget", "()V"⟩, prog_2_method_2_code, 1, none, [], (0, 0, 0, 0, 0, 0))
def X_BH_learn : ez_X := (⟨"EditionEqual$Behaviour", "learn", "(II)V"⟩, prog_2_method_3_code, 4, none, [], (4, 93, 0, 0, 0, 0))
def X_BH_valueOf : ez_X := (⟨"EditionEqual$Behaviour", "valueOf", "(III)I"⟩, prog_2_method_4_code, 4, (some .int), [], (2, 44, 0, 0, 0, 0))
def X_BH_outsOf : ez_X := (⟨"EditionEqual$Behaviour", "outsOf", "(II)I"⟩, prog_2_method_5_code, 3, (some .int), [], (1, 22, 0, 0, 0, 0))
def X_BH_stateAfter : ez_X := (⟨"EditionEqual$Behaviour", "stateAfter", "(II)I"⟩, prog_2_method_6_code, 3, (some .int), [], (1, 22, 0, 0, 0, 0))
def X_BH_countReached : ez_X := (⟨"EditionEqual$Behaviour", "countReached", "()I"⟩, prog_2_method_7_code, 1, (some .int), [], (1, 20, 0, 0, 0, 0))
def X_BH_reachedAt : ez_X := (⟨"EditionEqual$Behaviour", "reachedAt", "(I)I"⟩, prog_2_method_8_code, 4, (some .int), [], (1, 21, 0, 0, 0, 0))
def X_BH_placeOf : ez_X := (⟨"EditionEqual$Behaviour", "placeOf", "(II)I"⟩, prog_2_method_9_code, 3, (some .int), [], (0, 0, 0, 0, 0, 0))
def X_BH_orderBlocks : ez_X := (⟨"EditionEqual$Behaviour", "orderBlocks", "()V"⟩, prog_2_method_10_code, 5, none, [], (2, 42, 0, 0, 0, 0))
def X_BH_fillColumns : ez_X := (⟨"EditionEqual$Behaviour", "fillColumns", "(I)V"⟩, prog_2_method_11_code, 4, none, [], (3, 69, 0, 0, 0, 0))
def X_BH_workOutColumn : ez_X := (⟨"EditionEqual$Behaviour", "workOutColumn", "(II)I"⟩, prog_2_method_12_code, 6, (some .int), [], (2, 44, 0, 0, 0, 0))
def X_BH_columnAt : ez_X := (⟨"EditionEqual$Behaviour", "columnAt", "(II)I"⟩, prog_2_method_13_code, 4, (some .int), [], (1, 21, 0, 0, 0, 0))
def X_BH_fillTicks : ez_X := (⟨"EditionEqual$Behaviour", "fillTicks", "(I)V"⟩, prog_2_method_14_code, 7, none, [], (3, 67, 0, 0, 0, 0))
def X_BH_findReached : ez_X := (⟨"EditionEqual$Behaviour", "findReached", "(I)V"⟩, prog_2_method_15_code, 6, none, [], (2, 44, 0, 0, 0, 0))
def X_BH_countClasses : ez_X := (⟨"EditionEqual$Behaviour", "countClasses", "(I)I"⟩, prog_2_method_16_code, 7, (some .int), [], (4, 110, 0, 0, 0, 0))
def X_BH_partByOuts : ez_X := (⟨"EditionEqual$Behaviour", "partByOuts", "(I)I"⟩, prog_2_method_17_code, 3, (some .int), [], (3, 87, 0, 0, 0, 0))
def X_BH_partByNextClass : ez_X := (⟨"EditionEqual$Behaviour", "partByNextClass", "(I)I"⟩, prog_2_method_18_code, 4, (some .int), [], (3, 87, 0, 0, 0, 0))
def X_BH_partByKeys : ez_X := (⟨"EditionEqual$Behaviour", "partByKeys", "()I"⟩, prog_2_method_19_code, 4, (some .int), [], (2, 64, 0, 0, 0, 0))
def X_BH_firstLike : ez_X := (⟨"EditionEqual$Behaviour", "firstLike", "(I)I"⟩, prog_2_method_20_code, 4, (some .int), [], (1, 21, 0, 0, 0, 0))
def X_ED_init : ez_X := (⟨"EditionEqual$Edition", "<init>", "()V"⟩, prog_3_method_1_code, 1, none, [], (1, 23, 8, 176, 8, 176))
def X_ED_hasRoomFor : ez_X := (⟨"EditionEqual$Edition", "hasRoomFor", "(I)Z"⟩, prog_3_method_2_code, 2, (some .boolean), [], (0, 0, 0, 0, 0, 0))
def X_ED_addBlock : ez_X := (⟨"EditionEqual$Edition", "addBlock", "(II)I"⟩, prog_3_method_3_code, 4, (some .int), [], (1, 21, 0, 0, 0, 0))
def X_ED_countNeeded : ez_X := (⟨"EditionEqual$Edition", "countNeeded", "(I)I"⟩, prog_3_method_4_code, 1, (some .int), [], (0, 0, 0, 0, 0, 0))
def X_ED_rewire : ez_X := (⟨"EditionEqual$Edition", "rewire", "(III)I"⟩, prog_3_method_5_code, 5, (some .int), [], (2, 44, 0, 0, 0, 0))
def X_ED_changeOutput : ez_X := (⟨"EditionEqual$Edition", "changeOutput", "(II)I"⟩, prog_3_method_6_code, 4, (some .int), [], (2, 42, 0, 0, 0, 0))
def X_ED_countBlocks : ez_X := (⟨"EditionEqual$Edition", "countBlocks", "()I"⟩, prog_3_method_7_code, 1, (some .int), [], (0, 0, 0, 0, 0, 0))
def X_ED_countDelays : ez_X := (⟨"EditionEqual$Edition", "countDelays", "()I"⟩, prog_3_method_8_code, 1, (some .int), [], (0, 0, 0, 0, 0, 0))
def X_ED_hasBlock : ez_X := (⟨"EditionEqual$Edition", "hasBlock", "(I)Z"⟩, prog_3_method_9_code, 2, (some .boolean), [], (0, 0, 0, 0, 0, 0))
def X_ED_hasBlockOrNone : ez_X := (⟨"EditionEqual$Edition", "hasBlockOrNone", "(I)Z"⟩, prog_3_method_10_code, 2, (some .boolean), [], (1, 21, 0, 0, 0, 0))
def X_ED_kindOf : ez_X := (⟨"EditionEqual$Edition", "kindOf", "(I)I"⟩, prog_3_method_11_code, 2, (some .int), [], (1, 21, 0, 0, 0, 0))
def X_ED_numberOf : ez_X := (⟨"EditionEqual$Edition", "numberOf", "(I)I"⟩, prog_3_method_12_code, 2, (some .int), [], (1, 21, 0, 0, 0, 0))
def X_ED_outputAt : ez_X := (⟨"EditionEqual$Edition", "outputAt", "(I)I"⟩, prog_3_method_13_code, 2, (some .int), [], (1, 21, 0, 0, 0, 0))
def X_ED_delayAt : ez_X := (⟨"EditionEqual$Edition", "delayAt", "(I)I"⟩, prog_3_method_14_code, 2, (some .int), [], (1, 21, 0, 0, 0, 0))
def X_ED_neededAt : ez_X := (⟨"EditionEqual$Edition", "neededAt", "(II)I"⟩, prog_3_method_15_code, 4, (some .int), [], (1, 21, 0, 0, 0, 0))
def X_ED_neededInTick : ez_X := (⟨"EditionEqual$Edition", "neededInTick", "(I)I"⟩, prog_3_method_16_code, 2, (some .int), [], (1, 21, 0, 0, 0, 0))
def X_ED_firstFault : ez_X := (⟨"EditionEqual$Edition", "firstFault", "()I"⟩, prog_3_method_17_code, 2, (some .int), [], (3, 64, 0, 0, 0, 0))
def X_ED_firstUnwired : ez_X := (⟨"EditionEqual$Edition", "firstUnwired", "()I"⟩, prog_3_method_18_code, 3, (some .int), [], (0, 0, 0, 0, 0, 0))
def X_ED_firstComingBack : ez_X := (⟨"EditionEqual$Edition", "firstComingBack", "()I"⟩, prog_3_method_19_code, 3, (some .int), [], (2, 42, 0, 0, 0, 0))
def X_ED_idleAt : ez_X := (⟨"EditionEqual$Edition", "idleAt", "(I)I"⟩, prog_3_method_20_code, 5, (some .int), [], (2, 46, 0, 0, 0, 0))
def X_ED_liveBlocks : ez_X := (⟨"EditionEqual$Edition", "liveBlocks", "()I"⟩, prog_3_method_21_code, 6, (some .int), [], (1, 21, 0, 0, 0, 0))
def X_MT_init : ez_X := (⟨"EditionEqual$Matching", "<init>", "(LEditionEqual$Edition;LEditionEqual$Edition;)V"⟩, prog_4_method_1_code, 3, none, [], (1, 22, 3, 72, 3, 72))
def X_MT_matchAll : ez_X := (⟨"EditionEqual$Matching", "matchAll", "()Z"⟩, prog_4_method_2_code, 5, (some .boolean), [], (4, 89, 0, 0, 0, 0))
def X_MT_partnerOf : ez_X := (⟨"EditionEqual$Matching", "partnerOf", "(I)I"⟩, prog_4_method_3_code, 2, (some .int), [], (1, 21, 0, 0, 0, 0))
def X_MT_matchBoth : ez_X := (⟨"EditionEqual$Matching", "matchBoth", "(II)Z"⟩, prog_4_method_4_code, 4, (some .boolean), [], (3, 66, 0, 0, 0, 0))
def X_MT_areOfOneSort : ez_X := (⟨"EditionEqual$Matching", "areOfOneSort", "(II)Z"⟩, prog_4_method_5_code, 5, (some .boolean), [], (2, 42, 0, 0, 0, 0))
def X_PS_init : ez_X := (⟨"EditionEqual$PairSearch", "<init>", "(LEditionEqual$Behaviour;LEditionEqual$Behaviour;)V"⟩, prog_5_method_1_code, 3, none, [], (1, 22, 4, 3104, 4, 3104))
def X_PS_forget : ez_X := (⟨"EditionEqual$PairSearch", "forget", "()V"⟩, prog_5_method_2_code, 1, none, [], (0, 0, 0, 0, 0, 0))
def X_PS_learn : ez_X := (⟨"EditionEqual$PairSearch", "learn", "(I)V"⟩, prog_5_method_3_code, 3, none, [], (3, 71, 0, 0, 0, 0))
def X_PS_countPairs : ez_X := (⟨"EditionEqual$PairSearch", "countPairs", "()I"⟩, prog_5_method_4_code, 1, (some .int), [], (0, 0, 0, 0, 0, 0))
def X_PS_countShown : ez_X := (⟨"EditionEqual$PairSearch", "countShown", "()I"⟩, prog_5_method_5_code, 1, (some .int), [], (0, 0, 0, 0, 0, 0))
def X_PS_shownRow : ez_X := (⟨"EditionEqual$PairSearch", "shownRow", "(I)I"⟩, prog_5_method_6_code, 4, (some .int), [], (0, 0, 0, 0, 0, 0))
def X_PS_lastOuts : ez_X := (⟨"EditionEqual$PairSearch", "lastOuts", "(I)I"⟩, prog_5_method_7_code, 2, (some .int), [], (0, 0, 0, 0, 0, 0))
def X_PS_goOnFrom : ez_X := (⟨"EditionEqual$PairSearch", "goOnFrom", "(II)V"⟩, prog_5_method_8_code, 6, none, [], (2, 46, 0, 0, 0, 0))
def X_PS_meet : ez_X := (⟨"EditionEqual$PairSearch", "meet", "(IIII)V"⟩, prog_5_method_9_code, 6, none, [], (1, 21, 0, 0, 0, 0))
def X_PS_keepShown : ez_X := (⟨"EditionEqual$PairSearch", "keepShown", "(II)V"⟩, prog_5_method_10_code, 4, none, [], (0, 0, 0, 0, 0, 0))
def X_LW_cell : ez_X := (⟨"EditionEqualLaw", "cell", "([II)I"⟩, method_2_code, 2, (some .int), [], (0, 0, 0, 0, 0, 0))
def X_LW_block : ez_X := (⟨"EditionEqualLaw", "block", "(LEditionEqual;III[J)I"⟩, method_3_code, 6, (some .int), [(0, 12, 15, 13), (0, 12, 19, 15)], (9, 149, 1, 6, 1, 6))
def X_LW_wire : ez_X := (⟨"EditionEqualLaw", "wire", "(LEditionEqual;IIII[J)I"⟩, method_4_code, 7, (some .int), [(0, 14, 17, 13)], (9, 150, 1, 6, 1, 6))
def X_LW_out : ez_X := (⟨"EditionEqualLaw", "out", "(LEditionEqual;III[J)I"⟩, method_5_code, 6, (some .int), [(0, 12, 15, 13)], (9, 149, 1, 6, 1, 6))
def X_LW_bar : ez_X := (⟨"EditionEqualLaw", "bar", "(LEditionEqual;IZ[J)I"⟩, method_6_code, 5, (some .int), [(0, 17, 20, 13)], (8, 129, 1, 6, 1, 6))
def X_LW_wrong : ez_X := (⟨"EditionEqualLaw", "wrong", "(LEditionEqual;I[J)I"⟩, method_7_code, 4, (some .int), [(0, 9, 12, 13)], (9, 146, 1, 6, 1, 6))
def X_LW_value : ez_X := (⟨"EditionEqualLaw", "value", "(LEditionEqual;IIII[J)I"⟩, method_8_code, 7, (some .int), [(0, 14, 17, 13), (0, 14, 21, 15)], (10, 171, 1, 6, 1, 6))
def X_LW_tick : ez_X := (⟨"EditionEqualLaw", "tick", "(LEditionEqual;III[J)I"⟩, method_9_code, 6, (some .int), [(0, 12, 15, 13), (0, 12, 19, 15)], (10, 171, 1, 6, 1, 6))
def X_LW_reached : ez_X := (⟨"EditionEqualLaw", "reached", "(LEditionEqual;I[J)I"⟩, method_10_code, 4, (some .int), [(0, 9, 12, 13), (0, 9, 15, 15)], (10, 168, 1, 6, 1, 6))
def X_LW_state : ez_X := (⟨"EditionEqualLaw", "state", "(LEditionEqual;II[J)I"⟩, method_11_code, 5, (some .int), [(0, 10, 13, 13), (0, 10, 17, 15)], (10, 169, 1, 6, 1, 6))
def X_LW_least : ez_X := (⟨"EditionEqualLaw", "least", "(LEditionEqual;I[J)I"⟩, method_12_code, 4, (some .int), [(0, 9, 12, 13), (0, 9, 15, 15)], (10, 168, 1, 6, 1, 6))
def X_LW_compare : ez_X := (⟨"EditionEqualLaw", "compare", "(LEditionEqual;[J)I"⟩, method_13_code, 3, (some .int), [(0, 8, 11, 15)], (9, 156, 1, 6, 1, 6))
def X_LW_shown : ez_X := (⟨"EditionEqualLaw", "shown", "(LEditionEqual;I[J)I"⟩, method_14_code, 4, (some .int), [(0, 9, 12, 13), (0, 9, 15, 15)], (9, 158, 1, 6, 1, 6))
def X_LW_last : ez_X := (⟨"EditionEqualLaw", "last", "(LEditionEqual;I[J)I"⟩, method_15_code, 4, (some .int), [(0, 9, 12, 13), (0, 9, 15, 15)], (9, 157, 1, 6, 1, 6))
def X_LW_pairs : ez_X := (⟨"EditionEqualLaw", "pairs", "(LEditionEqual;[J)I"⟩, method_16_code, 3, (some .int), [(0, 8, 11, 15)], (9, 156, 1, 6, 1, 6))
def X_LW_same : ez_X := (⟨"EditionEqualLaw", "same", "(LEditionEqual;[J)I"⟩, method_17_code, 3, (some .int), [(0, 15, 18, 15)], (8, 133, 1, 6, 1, 6))
def X_LW_matched : ez_X := (⟨"EditionEqualLaw", "matched", "(LEditionEqual;I[J)I"⟩, method_18_code, 4, (some .int), [(0, 9, 12, 13), (0, 9, 15, 15)], (8, 134, 1, 6, 1, 6))
def X_LW_idle : ez_X := (⟨"EditionEqualLaw", "idle", "(LEditionEqual;II[J)I"⟩, method_19_code, 5, (some .int), [(0, 10, 13, 13)], (9, 148, 1, 6, 1, 6))
def X_LW_blocks : ez_X := (⟨"EditionEqualLaw", "blocks", "(LEditionEqual;I[J)I"⟩, method_20_code, 4, (some .int), [(0, 9, 12, 13)], (9, 146, 1, 6, 1, 6))
def X_JI_bitCount : ez_X := (⟨"java/lang/Integer", "bitCount", "(I)I"⟩, prog_11_method_49_code, 1, (some .int), [], (0, 0, 0, 0, 0, 0))
def X_JA_fill : ez_X := (⟨"java/util/Arrays", "fill", "([II)V"⟩, prog_17_method_103_code, 4, none, [], (0, 0, 0, 0, 0, 0))
end
section
/-! ===== words ===== -/
theorem ez_r1 {w : Cond} (h : w ∈ tables_1_1) (g : ez_gw w = true) : w ∈ ez_T := by
  have h1 : w ∈ tables_1 := by
    unfold tables_1
    exact List.mem_append_left _ h
  exact List.mem_filter.mpr ⟨List.mem_append_right _ h1, g⟩
theorem ez_r2 {w : Cond} (h : w ∈ tables_1_2) (g : ez_gw w = true) : w ∈ ez_T := by
  have h1 : w ∈ tables_1 := by
    unfold tables_1
    exact List.mem_append_right _ (List.mem_append_left _ h)
  exact List.mem_filter.mpr ⟨List.mem_append_right _ h1, g⟩
theorem ez_r3 {w : Cond} (h : w ∈ tables_1_3) (g : ez_gw w = true) : w ∈ ez_T := by
  have h1 : w ∈ tables_1 := by
    unfold tables_1
    exact List.mem_append_right _ (List.mem_append_right _ (List.mem_append_left _ h))
  exact List.mem_filter.mpr ⟨List.mem_append_right _ h1, g⟩
theorem ez_r4 {w : Cond} (h : w ∈ tables_1_4) (g : ez_gw w = true) : w ∈ ez_T := by
  have h1 : w ∈ tables_1 := by
    unfold tables_1
    exact List.mem_append_right _ (List.mem_append_right _ (List.mem_append_right _ (List.mem_append_left _ h)))
  exact List.mem_filter.mpr ⟨List.mem_append_right _ h1, g⟩
theorem ez_r5 {w : Cond} (h : w ∈ tables_1_5) (g : ez_gw w = true) : w ∈ ez_T := by
  have h1 : w ∈ tables_1 := by
    unfold tables_1
    exact List.mem_append_right _ (List.mem_append_right _ (List.mem_append_right _ (List.mem_append_right _ (h))))
  exact List.mem_filter.mpr ⟨List.mem_append_right _ h1, g⟩
theorem ez_r0 {w : Cond} (h : w ∈ k2_sels lw_privs) (g : ez_gw w = true) : w ∈ ez_T := List.mem_filter.mpr ⟨List.mem_append_left _ h, g⟩
theorem t_0 : Cond.selects "EditionEqual" ⟨"EditionEqual", "editionOf", "(I)LEditionEqual$Edition;"⟩ ⟨"EditionEqual", "editionOf", "(I)LEditionEqual$Edition;"⟩ ∈ ez_T := ez_r0 (List.mem_of_getElem? (i := 0) rfl) rfl
theorem t_2 : Cond.selects "EditionEqual" ⟨"EditionEqual", "isNumberOfKind", "(II)Z"⟩ ⟨"EditionEqual", "isNumberOfKind", "(II)Z"⟩ ∈ ez_T := ez_r0 (List.mem_of_getElem? (i := 2) rfl) rfl
theorem t_3 : Cond.selects "EditionEqual" ⟨"EditionEqual", "forgetAnswers", "()V"⟩ ⟨"EditionEqual", "forgetAnswers", "()V"⟩ ∈ ez_T := ez_r0 (List.mem_of_getElem? (i := 3) rfl) rfl
theorem t_4 : Cond.selects "EditionEqual" ⟨"EditionEqual", "checkRow", "(I)V"⟩ ⟨"EditionEqual", "checkRow", "(I)V"⟩ ∈ ez_T := ez_r0 (List.mem_of_getElem? (i := 4) rfl) rfl
theorem t_5 : Cond.selects "EditionEqual$Edition" ⟨"EditionEqual$Edition", "firstUnwired", "()I"⟩ ⟨"EditionEqual$Edition", "firstUnwired", "()I"⟩ ∈ ez_T := ez_r0 (List.mem_of_getElem? (i := 5) rfl) rfl
theorem t_6 : Cond.selects "EditionEqual$Edition" ⟨"EditionEqual$Edition", "firstComingBack", "()I"⟩ ⟨"EditionEqual$Edition", "firstComingBack", "()I"⟩ ∈ ez_T := ez_r0 (List.mem_of_getElem? (i := 6) rfl) rfl
theorem t_7 : Cond.selects "EditionEqual" ⟨"EditionEqual", "behaviourOf", "(I)LEditionEqual$Behaviour;"⟩ ⟨"EditionEqual", "behaviourOf", "(I)LEditionEqual$Behaviour;"⟩ ∈ ez_T := ez_r0 (List.mem_of_getElem? (i := 7) rfl) rfl
theorem t_8 : Cond.selects "EditionEqual" ⟨"EditionEqual", "openRows", "()I"⟩ ⟨"EditionEqual", "openRows", "()I"⟩ ∈ ez_T := ez_r0 (List.mem_of_getElem? (i := 8) rfl) rfl
theorem t_9 : Cond.selects "EditionEqual$Behaviour" ⟨"EditionEqual$Behaviour", "orderBlocks", "()V"⟩ ⟨"EditionEqual$Behaviour", "orderBlocks", "()V"⟩ ∈ ez_T := ez_r0 (List.mem_of_getElem? (i := 9) rfl) rfl
theorem t_10 : Cond.selects "EditionEqual$Behaviour" ⟨"EditionEqual$Behaviour", "fillColumns", "(I)V"⟩ ⟨"EditionEqual$Behaviour", "fillColumns", "(I)V"⟩ ∈ ez_T := ez_r0 (List.mem_of_getElem? (i := 10) rfl) rfl
theorem t_11 : Cond.selects "EditionEqual$Behaviour" ⟨"EditionEqual$Behaviour", "workOutColumn", "(II)I"⟩ ⟨"EditionEqual$Behaviour", "workOutColumn", "(II)I"⟩ ∈ ez_T := ez_r0 (List.mem_of_getElem? (i := 11) rfl) rfl
theorem t_12 : Cond.selects "EditionEqual$Behaviour" ⟨"EditionEqual$Behaviour", "columnAt", "(II)I"⟩ ⟨"EditionEqual$Behaviour", "columnAt", "(II)I"⟩ ∈ ez_T := ez_r0 (List.mem_of_getElem? (i := 12) rfl) rfl
theorem t_13 : Cond.selects "EditionEqual$Behaviour" ⟨"EditionEqual$Behaviour", "fillTicks", "(I)V"⟩ ⟨"EditionEqual$Behaviour", "fillTicks", "(I)V"⟩ ∈ ez_T := ez_r0 (List.mem_of_getElem? (i := 13) rfl) rfl
theorem t_14 : Cond.selects "EditionEqual$Behaviour" ⟨"EditionEqual$Behaviour", "findReached", "(I)V"⟩ ⟨"EditionEqual$Behaviour", "findReached", "(I)V"⟩ ∈ ez_T := ez_r0 (List.mem_of_getElem? (i := 14) rfl) rfl
theorem t_15 : Cond.selects "EditionEqual$Behaviour" ⟨"EditionEqual$Behaviour", "placeOf", "(II)I"⟩ ⟨"EditionEqual$Behaviour", "placeOf", "(II)I"⟩ ∈ ez_T := ez_r0 (List.mem_of_getElem? (i := 15) rfl) rfl
theorem t_16 : Cond.selects "EditionEqual$Behaviour" ⟨"EditionEqual$Behaviour", "partByOuts", "(I)I"⟩ ⟨"EditionEqual$Behaviour", "partByOuts", "(I)I"⟩ ∈ ez_T := ez_r0 (List.mem_of_getElem? (i := 16) rfl) rfl
theorem t_17 : Cond.selects "EditionEqual$Behaviour" ⟨"EditionEqual$Behaviour", "partByKeys", "()I"⟩ ⟨"EditionEqual$Behaviour", "partByKeys", "()I"⟩ ∈ ez_T := ez_r0 (List.mem_of_getElem? (i := 17) rfl) rfl
theorem t_18 : Cond.selects "EditionEqual$Behaviour" ⟨"EditionEqual$Behaviour", "firstLike", "(I)I"⟩ ⟨"EditionEqual$Behaviour", "firstLike", "(I)I"⟩ ∈ ez_T := ez_r0 (List.mem_of_getElem? (i := 18) rfl) rfl
theorem t_19 : Cond.selects "EditionEqual$Behaviour" ⟨"EditionEqual$Behaviour", "partByNextClass", "(I)I"⟩ ⟨"EditionEqual$Behaviour", "partByNextClass", "(I)I"⟩ ∈ ez_T := ez_r0 (List.mem_of_getElem? (i := 19) rfl) rfl
theorem t_20 : Cond.selects "EditionEqual" ⟨"EditionEqual", "searchOfBoth", "()LEditionEqual$PairSearch;"⟩ ⟨"EditionEqual", "searchOfBoth", "()LEditionEqual$PairSearch;"⟩ ∈ ez_T := ez_r0 (List.mem_of_getElem? (i := 20) rfl) rfl
theorem t_21 : Cond.selects "EditionEqual" ⟨"EditionEqual", "checkBothRight", "()V"⟩ ⟨"EditionEqual", "checkBothRight", "()V"⟩ ∈ ez_T := ez_r0 (List.mem_of_getElem? (i := 21) rfl) rfl
theorem t_22 : Cond.selects "EditionEqual$PairSearch" ⟨"EditionEqual$PairSearch", "meet", "(IIII)V"⟩ ⟨"EditionEqual$PairSearch", "meet", "(IIII)V"⟩ ∈ ez_T := ez_r0 (List.mem_of_getElem? (i := 22) rfl) rfl
theorem t_23 : Cond.selects "EditionEqual$PairSearch" ⟨"EditionEqual$PairSearch", "goOnFrom", "(II)V"⟩ ⟨"EditionEqual$PairSearch", "goOnFrom", "(II)V"⟩ ∈ ez_T := ez_r0 (List.mem_of_getElem? (i := 23) rfl) rfl
theorem t_24 : Cond.selects "EditionEqual$PairSearch" ⟨"EditionEqual$PairSearch", "keepShown", "(II)V"⟩ ⟨"EditionEqual$PairSearch", "keepShown", "(II)V"⟩ ∈ ez_T := ez_r0 (List.mem_of_getElem? (i := 24) rfl) rfl
theorem t_25 : Cond.selects "EditionEqual$Matching" ⟨"EditionEqual$Matching", "matchBoth", "(II)Z"⟩ ⟨"EditionEqual$Matching", "matchBoth", "(II)Z"⟩ ∈ ez_T := ez_r0 (List.mem_of_getElem? (i := 25) rfl) rfl
theorem t_26 : Cond.selects "EditionEqual$Matching" ⟨"EditionEqual$Matching", "areOfOneSort", "(II)Z"⟩ ⟨"EditionEqual$Matching", "areOfOneSort", "(II)Z"⟩ ∈ ez_T := ez_r0 (List.mem_of_getElem? (i := 26) rfl) rfl
theorem t_27 : Cond.selects "EditionEqual$Edition" ⟨"EditionEqual$Edition", "liveBlocks", "()I"⟩ ⟨"EditionEqual$Edition", "liveBlocks", "()I"⟩ ∈ ez_T := ez_r0 (List.mem_of_getElem? (i := 27) rfl) rfl
theorem t_28 : Cond.selects "EditionEqualModel" ⟨"EditionEqualModel", "delays", "(I)I"⟩ ⟨"EditionEqualModel", "delays", "(I)I"⟩ ∈ ez_T := ez_r0 (List.mem_of_getElem? (i := 28) rfl) rfl
theorem t_29 : Cond.selects "EditionEqualModel" ⟨"EditionEqualModel", "goes", "(ZZ)Z"⟩ ⟨"EditionEqualModel", "goes", "(ZZ)Z"⟩ ∈ ez_T := ez_r0 (List.mem_of_getElem? (i := 29) rfl) rfl
theorem t_30 : Cond.selects "EditionEqualModel" ⟨"EditionEqualModel", "isBlock", "(II)Z"⟩ ⟨"EditionEqualModel", "isBlock", "(II)Z"⟩ ∈ ez_T := ez_r0 (List.mem_of_getElem? (i := 30) rfl) rfl
theorem t_31 : Cond.selects "EditionEqualModel" ⟨"EditionEqualModel", "input", "(III)I"⟩ ⟨"EditionEqualModel", "input", "(III)I"⟩ ∈ ez_T := ez_r0 (List.mem_of_getElem? (i := 31) rfl) rfl
theorem t_32 : Cond.selects "EditionEqualModel" ⟨"EditionEqualModel", "isRow", "(I)Z"⟩ ⟨"EditionEqualModel", "isRow", "(I)Z"⟩ ∈ ez_T := ez_r0 (List.mem_of_getElem? (i := 32) rfl) rfl
theorem t_33 : Cond.selects "EditionEqualModel" ⟨"EditionEqualModel", "fault", "(I)I"⟩ ⟨"EditionEqualModel", "fault", "(I)I"⟩ ∈ ez_T := ez_r0 (List.mem_of_getElem? (i := 33) rfl) rfl
theorem t_34 : Cond.selects "EditionEqualModel" ⟨"EditionEqualModel", "isRound", "(II)Z"⟩ ⟨"EditionEqualModel", "isRound", "(II)Z"⟩ ∈ ez_T := ez_r0 (List.mem_of_getElem? (i := 34) rfl) rfl
theorem t_35 : Cond.selects "EditionEqualModel" ⟨"EditionEqualModel", "mark", "(II)Z"⟩ ⟨"EditionEqualModel", "mark", "(II)Z"⟩ ∈ ez_T := ez_r0 (List.mem_of_getElem? (i := 35) rfl) rfl
theorem t_36 : Cond.selects "EditionEqualModel" ⟨"EditionEqualModel", "isRight", "(I)Z"⟩ ⟨"EditionEqualModel", "isRight", "(I)Z"⟩ ∈ ez_T := ez_r0 (List.mem_of_getElem? (i := 36) rfl) rfl
theorem t_37 : Cond.selects "EditionEqualModel" ⟨"EditionEqualModel", "settle", "(III)V"⟩ ⟨"EditionEqualModel", "settle", "(III)V"⟩ ∈ ez_T := ez_r0 (List.mem_of_getElem? (i := 37) rfl) rfl
theorem t_38 : Cond.selects "EditionEqualModel" ⟨"EditionEqualModel", "reckon", "(II)I"⟩ ⟨"EditionEqualModel", "reckon", "(II)I"⟩ ∈ ez_T := ez_r0 (List.mem_of_getElem? (i := 38) rfl) rfl
theorem t_39 : Cond.selects "EditionEqualModel" ⟨"EditionEqualModel", "answer", "(III)I"⟩ ⟨"EditionEqualModel", "answer", "(III)I"⟩ ∈ ez_T := ez_r0 (List.mem_of_getElem? (i := 39) rfl) rfl
theorem t_40 : Cond.selects "EditionEqualModel" ⟨"EditionEqualModel", "explore", "(I)V"⟩ ⟨"EditionEqualModel", "explore", "(I)V"⟩ ∈ ez_T := ez_r0 (List.mem_of_getElem? (i := 40) rfl) rfl
theorem t_41 : Cond.selects "EditionEqualModel" ⟨"EditionEqualModel", "reachedCount", "(I)I"⟩ ⟨"EditionEqualModel", "reachedCount", "(I)I"⟩ ∈ ez_T := ez_r0 (List.mem_of_getElem? (i := 41) rfl) rfl
theorem t_42 : Cond.selects "EditionEqualModel" ⟨"EditionEqualModel", "tells", "(III)Z"⟩ ⟨"EditionEqualModel", "tells", "(III)Z"⟩ ∈ ez_T := ez_r0 (List.mem_of_getElem? (i := 42) rfl) rfl
theorem t_43 : Cond.selects "EditionEqualModel" ⟨"EditionEqualModel", "areRight", "()Z"⟩ ⟨"EditionEqualModel", "areRight", "()Z"⟩ ∈ ez_T := ez_r0 (List.mem_of_getElem? (i := 43) rfl) rfl
theorem t_44 : Cond.selects "EditionEqualModel" ⟨"EditionEqualModel", "goOver", "()V"⟩ ⟨"EditionEqualModel", "goOver", "()V"⟩ ∈ ez_T := ez_r0 (List.mem_of_getElem? (i := 44) rfl) rfl
theorem t_45 : Cond.selects "EditionEqualModel" ⟨"EditionEqualModel", "meet", "(III)V"⟩ ⟨"EditionEqualModel", "meet", "(III)V"⟩ ∈ ez_T := ez_r0 (List.mem_of_getElem? (i := 45) rfl) rfl
theorem t_46 : Cond.selects "EditionEqualModel" ⟨"EditionEqualModel", "shownCount", "()I"⟩ ⟨"EditionEqualModel", "shownCount", "()I"⟩ ∈ ez_T := ez_r0 (List.mem_of_getElem? (i := 46) rfl) rfl
theorem t_47 : Cond.selects "EditionEqualModel" ⟨"EditionEqualModel", "areSame", "()Z"⟩ ⟨"EditionEqualModel", "areSame", "()Z"⟩ ∈ ez_T := ez_r0 (List.mem_of_getElem? (i := 47) rfl) rfl
theorem t_48 : Cond.selects "EditionEqualModel" ⟨"EditionEqualModel", "areSingle", "()Z"⟩ ⟨"EditionEqualModel", "areSingle", "()Z"⟩ ∈ ez_T := ez_r0 (List.mem_of_getElem? (i := 48) rfl) rfl
theorem t_49 : Cond.initialized "EditionEqualLaw" ∈ ez_T := ez_r1 (List.mem_of_getElem? (i := 0) rfl) rfl
theorem t_50 : Cond.initialized "EditionEqual" ∈ ez_T := ez_r1 (List.mem_of_getElem? (i := 1) rfl) rfl
theorem t_51 : Cond.initialized "java/lang/Math" ∈ ez_T := ez_r1 (List.mem_of_getElem? (i := 2) rfl) rfl
theorem t_52 : Cond.initialized "EditionEqual$Edition" ∈ ez_T := ez_r1 (List.mem_of_getElem? (i := 3) rfl) rfl
theorem t_53 : Cond.initialized "java/util/Arrays" ∈ ez_T := ez_r1 (List.mem_of_getElem? (i := 4) rfl) rfl
theorem t_54 : Cond.initialized "EditionEqual$Behaviour" ∈ ez_T := ez_r1 (List.mem_of_getElem? (i := 5) rfl) rfl
theorem t_55 : Cond.initialized "EditionEqual$PairSearch" ∈ ez_T := ez_r1 (List.mem_of_getElem? (i := 6) rfl) rfl
theorem t_56 : Cond.initialized "EditionEqual$Matching" ∈ ez_T := ez_r1 (List.mem_of_getElem? (i := 7) rfl) rfl
theorem t_57 : Cond.initialized "EditionEqualModel" ∈ ez_T := ez_r1 (List.mem_of_getElem? (i := 8) rfl) rfl
theorem t_58 : Cond.initialized "java/lang/Throwable" ∈ ez_T := ez_r1 (List.mem_of_getElem? (i := 9) rfl) rfl
theorem t_59 : Cond.initialized "java/lang/Exception" ∈ ez_T := ez_r1 (List.mem_of_getElem? (i := 10) rfl) rfl
theorem t_60 : Cond.initialized "java/lang/RuntimeException" ∈ ez_T := ez_r1 (List.mem_of_getElem? (i := 11) rfl) rfl
theorem t_61 : Cond.initialized "java/lang/IllegalArgumentException" ∈ ez_T := ez_r1 (List.mem_of_getElem? (i := 12) rfl) rfl
theorem t_62 : Cond.initialized "java/lang/IllegalStateException" ∈ ez_T := ez_r1 (List.mem_of_getElem? (i := 13) rfl) rfl
theorem t_63 : Cond.initialized "java/lang/Integer" ∈ ez_T := ez_r1 (List.mem_of_getElem? (i := 14) rfl) rfl
theorem t_64 : Cond.initialized "java/lang/System" ∈ ez_T := ez_r1 (List.mem_of_getElem? (i := 15) rfl) rfl
theorem t_65 : Cond.classLink "EditionEqualLaw" 8 "EditionEqual" ∈ ez_T := ez_r1 (List.mem_of_getElem? (i := 16) rfl) rfl
theorem t_69 : Cond.code ⟨"EditionEqual", "<init>", "(I)V"⟩ prog_1_method_1_code 2 none ∈ ez_T := ez_r1 (List.mem_of_getElem? (i := 20) rfl) rfl
theorem t_73 : Cond.methodLink "EditionEqual" 9 ⟨"java/lang/Math", "min", "(II)I"⟩ ∈ ez_T := ez_r1 (List.mem_of_getElem? (i := 24) rfl) rfl
theorem t_74 : Cond.static ⟨"java/lang/Math", "min", "(II)I"⟩ ∈ ez_T := ez_r1 (List.mem_of_getElem? (i := 25) rfl) rfl
theorem t_75 : Cond.code ⟨"java/lang/Math", "min", "(II)I"⟩ prog_12_method_69_code 2 (some .int) ∈ ez_T := ez_r1 (List.mem_of_getElem? (i := 26) rfl) rfl
theorem t_76 : Cond.methodLink "EditionEqual" 15 ⟨"java/lang/Math", "max", "(II)I"⟩ ∈ ez_T := ez_r1 (List.mem_of_getElem? (i := 27) rfl) rfl
theorem t_77 : Cond.static ⟨"java/lang/Math", "max", "(II)I"⟩ ∈ ez_T := ez_r1 (List.mem_of_getElem? (i := 28) rfl) rfl
theorem t_78 : Cond.code ⟨"java/lang/Math", "max", "(II)I"⟩ prog_12_method_65_code 2 (some .int) ∈ ez_T := ez_r1 (List.mem_of_getElem? (i := 29) rfl) rfl
theorem t_79 : Cond.classLink "EditionEqual" 25 "EditionEqual$Edition" ∈ ez_T := ez_r1 (List.mem_of_getElem? (i := 30) rfl) rfl
theorem t_81 : Cond.methodLink "EditionEqual" 27 ⟨"EditionEqual$Edition", "<init>", "()V"⟩ ∈ ez_T := ez_r1 (List.mem_of_getElem? (i := 32) rfl) rfl
theorem t_82 : Cond.instanceMethod ⟨"EditionEqual$Edition", "<init>", "()V"⟩ ∈ ez_T := ez_r1 (List.mem_of_getElem? (i := 33) rfl) rfl
theorem t_83 : Cond.code ⟨"EditionEqual$Edition", "<init>", "()V"⟩ prog_3_method_1_code 1 none ∈ ez_T := ez_r1 (List.mem_of_getElem? (i := 34) rfl) rfl
theorem t_85 : Cond.methodLink "EditionEqual$Edition" 43 ⟨"java/util/Arrays", "fill", "([II)V"⟩ ∈ ez_T := ez_r1 (List.mem_of_getElem? (i := 36) rfl) rfl
theorem t_86 : Cond.static ⟨"java/util/Arrays", "fill", "([II)V"⟩ ∈ ez_T := ez_r1 (List.mem_of_getElem? (i := 37) rfl) rfl
theorem t_87 : Cond.code ⟨"java/util/Arrays", "fill", "([II)V"⟩ prog_17_method_103_code 4 none ∈ ez_T := ez_r1 (List.mem_of_getElem? (i := 38) rfl) rfl
theorem t_88 : Cond.fieldLink "EditionEqual$Edition" 9 "EditionEqual$Edition" "kinds" "[I" ∈ ez_T := ez_r1 (List.mem_of_getElem? (i := 39) rfl) rfl
theorem t_89 : Cond.fieldLink "EditionEqual$Edition" 15 "EditionEqual$Edition" "numbers" "[I" ∈ ez_T := ez_r1 (List.mem_of_getElem? (i := 40) rfl) rfl
theorem t_90 : Cond.fieldLink "EditionEqual$Edition" 18 "EditionEqual$Edition" "neededInputs" "[I" ∈ ez_T := ez_r1 (List.mem_of_getElem? (i := 41) rfl) rfl
theorem t_91 : Cond.fieldLink "EditionEqual$Edition" 21 "EditionEqual$Edition" "wires" "[I" ∈ ez_T := ez_r1 (List.mem_of_getElem? (i := 42) rfl) rfl
theorem t_92 : Cond.fieldLink "EditionEqual$Edition" 24 "EditionEqual$Edition" "neededBlocks" "[I" ∈ ez_T := ez_r1 (List.mem_of_getElem? (i := 43) rfl) rfl
theorem t_93 : Cond.fieldLink "EditionEqual$Edition" 27 "EditionEqual$Edition" "outputs" "[I" ∈ ez_T := ez_r1 (List.mem_of_getElem? (i := 44) rfl) rfl
theorem t_94 : Cond.fieldLink "EditionEqual$Edition" 30 "EditionEqual$Edition" "delays" "[I" ∈ ez_T := ez_r1 (List.mem_of_getElem? (i := 45) rfl) rfl
theorem t_95 : Cond.fieldLink "EditionEqual$Edition" 33 "EditionEqual$Edition" "ahead" "[I" ∈ ez_T := ez_r1 (List.mem_of_getElem? (i := 46) rfl) rfl
theorem t_96 : Cond.fieldLink "EditionEqual$Edition" 36 "EditionEqual$Edition" "blockCount" "I" ∈ ez_T := ez_r1 (List.mem_of_getElem? (i := 47) rfl) rfl
theorem t_97 : Cond.fieldLink "EditionEqual$Edition" 40 "EditionEqual$Edition" "delayCount" "I" ∈ ez_T := ez_r1 (List.mem_of_getElem? (i := 48) rfl) rfl
theorem t_98 : Cond.laysFinal "EditionEqual$Edition" "EditionEqual$Edition" "kinds" "[I" ∈ ez_T := ez_r1 (List.mem_of_getElem? (i := 49) rfl) rfl
theorem t_100 : Cond.laysFinal "EditionEqual$Edition" "EditionEqual$Edition" "numbers" "[I" ∈ ez_T := ez_r1 (List.mem_of_getElem? (i := 51) rfl) rfl
theorem t_102 : Cond.laysFinal "EditionEqual$Edition" "EditionEqual$Edition" "neededInputs" "[I" ∈ ez_T := ez_r1 (List.mem_of_getElem? (i := 53) rfl) rfl
theorem t_104 : Cond.laysFinal "EditionEqual$Edition" "EditionEqual$Edition" "wires" "[I" ∈ ez_T := ez_r1 (List.mem_of_getElem? (i := 55) rfl) rfl
theorem t_106 : Cond.laysFinal "EditionEqual$Edition" "EditionEqual$Edition" "neededBlocks" "[I" ∈ ez_T := ez_r1 (List.mem_of_getElem? (i := 57) rfl) rfl
theorem t_108 : Cond.laysFinal "EditionEqual$Edition" "EditionEqual$Edition" "outputs" "[I" ∈ ez_T := ez_r1 (List.mem_of_getElem? (i := 59) rfl) rfl
theorem t_110 : Cond.laysFinal "EditionEqual$Edition" "EditionEqual$Edition" "delays" "[I" ∈ ez_T := ez_r1 (List.mem_of_getElem? (i := 61) rfl) rfl
theorem t_112 : Cond.laysFinal "EditionEqual$Edition" "EditionEqual$Edition" "ahead" "[I" ∈ ez_T := ez_r1 (List.mem_of_getElem? (i := 63) rfl) rfl
theorem t_114 : Cond.lays "EditionEqual$Edition" "EditionEqual$Edition" "blockCount" "I" ∈ ez_T := ez_r1 (List.mem_of_getElem? (i := 65) rfl) rfl
theorem t_116 : Cond.lays "EditionEqual$Edition" "EditionEqual$Edition" "delayCount" "I" ∈ ez_T := ez_r1 (List.mem_of_getElem? (i := 67) rfl) rfl
theorem t_120 : Cond.classLink "EditionEqual" 35 "EditionEqual$Behaviour" ∈ ez_T := ez_r1 (List.mem_of_getElem? (i := 71) rfl) rfl
theorem t_122 : Cond.methodLink "EditionEqual" 37 ⟨"EditionEqual$Behaviour", "<init>", "(LEditionEqual$Edition;)V"⟩ ∈ ez_T := ez_r1 (List.mem_of_getElem? (i := 73) rfl) rfl
theorem t_123 : Cond.instanceMethod ⟨"EditionEqual$Behaviour", "<init>", "(LEditionEqual$Edition;)V"⟩ ∈ ez_T := ez_r1 (List.mem_of_getElem? (i := 74) rfl) rfl
theorem t_124 : Cond.code ⟨"EditionEqual$Behaviour", "<init>", "(LEditionEqual$Edition;)V"⟩ prog_2_method_1_code 2 none ∈ ez_T := ez_r1 (List.mem_of_getElem? (i := 75) rfl) rfl
theorem t_126 : Cond.fieldLink "EditionEqual$Behaviour" 50 "EditionEqual$Behaviour" "edition" "LEditionEqual$Edition;" ∈ ez_T := ez_r1 (List.mem_of_getElem? (i := 77) rfl) rfl
theorem t_127 : Cond.fieldLink "EditionEqual$Behaviour" 9 "EditionEqual$Behaviour" "order" "[I" ∈ ez_T := ez_r1 (List.mem_of_getElem? (i := 78) rfl) rfl
theorem t_128 : Cond.fieldLink "EditionEqual$Behaviour" 15 "EditionEqual$Behaviour" "columns" "[I" ∈ ez_T := ez_r1 (List.mem_of_getElem? (i := 79) rfl) rfl
theorem t_129 : Cond.fieldLink "EditionEqual$Behaviour" 18 "EditionEqual$Behaviour" "outs" "[I" ∈ ez_T := ez_r1 (List.mem_of_getElem? (i := 80) rfl) rfl
theorem t_130 : Cond.fieldLink "EditionEqual$Behaviour" 21 "EditionEqual$Behaviour" "nextStates" "[I" ∈ ez_T := ez_r1 (List.mem_of_getElem? (i := 81) rfl) rfl
theorem t_131 : Cond.fieldLink "EditionEqual$Behaviour" 24 "EditionEqual$Behaviour" "queue" "[I" ∈ ez_T := ez_r1 (List.mem_of_getElem? (i := 82) rfl) rfl
theorem t_132 : Cond.fieldLink "EditionEqual$Behaviour" 27 "EditionEqual$Behaviour" "classes" "[I" ∈ ez_T := ez_r1 (List.mem_of_getElem? (i := 83) rfl) rfl
theorem t_133 : Cond.fieldLink "EditionEqual$Behaviour" 30 "EditionEqual$Behaviour" "keys" "[I" ∈ ez_T := ez_r1 (List.mem_of_getElem? (i := 84) rfl) rfl
theorem t_134 : Cond.fieldLink "EditionEqual$Behaviour" 33 "EditionEqual$Behaviour" "newClasses" "[I" ∈ ez_T := ez_r1 (List.mem_of_getElem? (i := 85) rfl) rfl
theorem t_135 : Cond.fieldLink "EditionEqual$Behaviour" 36 "EditionEqual$Behaviour" "orderedCount" "I" ∈ ez_T := ez_r1 (List.mem_of_getElem? (i := 86) rfl) rfl
theorem t_136 : Cond.fieldLink "EditionEqual$Behaviour" 40 "EditionEqual$Behaviour" "stateCount" "I" ∈ ez_T := ez_r1 (List.mem_of_getElem? (i := 87) rfl) rfl
theorem t_137 : Cond.fieldLink "EditionEqual$Behaviour" 43 "EditionEqual$Behaviour" "reachedStates" "I" ∈ ez_T := ez_r1 (List.mem_of_getElem? (i := 88) rfl) rfl
theorem t_138 : Cond.fieldLink "EditionEqual$Behaviour" 46 "EditionEqual$Behaviour" "known" "Z" ∈ ez_T := ez_r1 (List.mem_of_getElem? (i := 89) rfl) rfl
theorem t_139 : Cond.laysFinal "EditionEqual$Behaviour" "EditionEqual$Behaviour" "edition" "LEditionEqual$Edition;" ∈ ez_T := ez_r1 (List.mem_of_getElem? (i := 90) rfl) rfl
theorem t_141 : Cond.laysFinal "EditionEqual$Behaviour" "EditionEqual$Behaviour" "order" "[I" ∈ ez_T := ez_r1 (List.mem_of_getElem? (i := 92) rfl) rfl
theorem t_143 : Cond.laysFinal "EditionEqual$Behaviour" "EditionEqual$Behaviour" "columns" "[I" ∈ ez_T := ez_r1 (List.mem_of_getElem? (i := 94) rfl) rfl
theorem t_145 : Cond.laysFinal "EditionEqual$Behaviour" "EditionEqual$Behaviour" "outs" "[I" ∈ ez_T := ez_r1 (List.mem_of_getElem? (i := 96) rfl) rfl
theorem t_147 : Cond.laysFinal "EditionEqual$Behaviour" "EditionEqual$Behaviour" "nextStates" "[I" ∈ ez_T := ez_r1 (List.mem_of_getElem? (i := 98) rfl) rfl
theorem t_149 : Cond.laysFinal "EditionEqual$Behaviour" "EditionEqual$Behaviour" "queue" "[I" ∈ ez_T := ez_r1 (List.mem_of_getElem? (i := 100) rfl) rfl
theorem t_151 : Cond.laysFinal "EditionEqual$Behaviour" "EditionEqual$Behaviour" "classes" "[I" ∈ ez_T := ez_r1 (List.mem_of_getElem? (i := 102) rfl) rfl
theorem t_153 : Cond.laysFinal "EditionEqual$Behaviour" "EditionEqual$Behaviour" "keys" "[I" ∈ ez_T := ez_r1 (List.mem_of_getElem? (i := 104) rfl) rfl
theorem t_155 : Cond.laysFinal "EditionEqual$Behaviour" "EditionEqual$Behaviour" "newClasses" "[I" ∈ ez_T := ez_r1 (List.mem_of_getElem? (i := 106) rfl) rfl
theorem t_157 : Cond.lays "EditionEqual$Behaviour" "EditionEqual$Behaviour" "orderedCount" "I" ∈ ez_T := ez_r1 (List.mem_of_getElem? (i := 108) rfl) rfl
theorem t_159 : Cond.lays "EditionEqual$Behaviour" "EditionEqual$Behaviour" "stateCount" "I" ∈ ez_T := ez_r1 (List.mem_of_getElem? (i := 110) rfl) rfl
theorem t_161 : Cond.lays "EditionEqual$Behaviour" "EditionEqual$Behaviour" "reachedStates" "I" ∈ ez_T := ez_r1 (List.mem_of_getElem? (i := 112) rfl) rfl
theorem t_163 : Cond.lays "EditionEqual$Behaviour" "EditionEqual$Behaviour" "known" "Z" ∈ ez_T := ez_r1 (List.mem_of_getElem? (i := 114) rfl) rfl
theorem t_166 : Cond.classLink "EditionEqual" 47 "EditionEqual$PairSearch" ∈ ez_T := ez_r1 (List.mem_of_getElem? (i := 117) rfl) rfl
theorem t_168 : Cond.methodLink "EditionEqual" 49 ⟨"EditionEqual$PairSearch", "<init>", "(LEditionEqual$Behaviour;LEditionEqual$Behaviour;)V"⟩ ∈ ez_T := ez_r1 (List.mem_of_getElem? (i := 119) rfl) rfl
theorem t_169 : Cond.instanceMethod ⟨"EditionEqual$PairSearch", "<init>", "(LEditionEqual$Behaviour;LEditionEqual$Behaviour;)V"⟩ ∈ ez_T := ez_r1 (List.mem_of_getElem? (i := 120) rfl) rfl
theorem t_170 : Cond.code ⟨"EditionEqual$PairSearch", "<init>", "(LEditionEqual$Behaviour;LEditionEqual$Behaviour;)V"⟩ prog_5_method_1_code 3 none ∈ ez_T := ez_r1 (List.mem_of_getElem? (i := 121) rfl) rfl
theorem t_172 : Cond.fieldLink "EditionEqual$PairSearch" 47 "EditionEqual$PairSearch" "first" "LEditionEqual$Behaviour;" ∈ ez_T := ez_r1 (List.mem_of_getElem? (i := 123) rfl) rfl
theorem t_173 : Cond.fieldLink "EditionEqual$PairSearch" 51 "EditionEqual$PairSearch" "second" "LEditionEqual$Behaviour;" ∈ ez_T := ez_r1 (List.mem_of_getElem? (i := 124) rfl) rfl
theorem t_174 : Cond.fieldLink "EditionEqual$PairSearch" 9 "EditionEqual$PairSearch" "met" "[I" ∈ ez_T := ez_r1 (List.mem_of_getElem? (i := 125) rfl) rfl
theorem t_175 : Cond.fieldLink "EditionEqual$PairSearch" 15 "EditionEqual$PairSearch" "queue" "[I" ∈ ez_T := ez_r1 (List.mem_of_getElem? (i := 126) rfl) rfl
theorem t_176 : Cond.fieldLink "EditionEqual$PairSearch" 18 "EditionEqual$PairSearch" "cameFrom" "[I" ∈ ez_T := ez_r1 (List.mem_of_getElem? (i := 127) rfl) rfl
theorem t_177 : Cond.fieldLink "EditionEqual$PairSearch" 21 "EditionEqual$PairSearch" "cameBy" "[I" ∈ ez_T := ez_r1 (List.mem_of_getElem? (i := 128) rfl) rfl
theorem t_178 : Cond.fieldLink "EditionEqual$PairSearch" 24 "EditionEqual$PairSearch" "pairCount" "I" ∈ ez_T := ez_r1 (List.mem_of_getElem? (i := 129) rfl) rfl
theorem t_179 : Cond.fieldLink "EditionEqual$PairSearch" 28 "EditionEqual$PairSearch" "shownCount" "I" ∈ ez_T := ez_r1 (List.mem_of_getElem? (i := 130) rfl) rfl
theorem t_180 : Cond.fieldLink "EditionEqual$PairSearch" 31 "EditionEqual$PairSearch" "shownFrom" "I" ∈ ez_T := ez_r1 (List.mem_of_getElem? (i := 131) rfl) rfl
theorem t_181 : Cond.fieldLink "EditionEqual$PairSearch" 34 "EditionEqual$PairSearch" "shownLast" "I" ∈ ez_T := ez_r1 (List.mem_of_getElem? (i := 132) rfl) rfl
theorem t_182 : Cond.fieldLink "EditionEqual$PairSearch" 37 "EditionEqual$PairSearch" "firstOuts" "I" ∈ ez_T := ez_r1 (List.mem_of_getElem? (i := 133) rfl) rfl
theorem t_183 : Cond.fieldLink "EditionEqual$PairSearch" 40 "EditionEqual$PairSearch" "secondOuts" "I" ∈ ez_T := ez_r1 (List.mem_of_getElem? (i := 134) rfl) rfl
theorem t_184 : Cond.fieldLink "EditionEqual$PairSearch" 43 "EditionEqual$PairSearch" "known" "Z" ∈ ez_T := ez_r1 (List.mem_of_getElem? (i := 135) rfl) rfl
theorem t_185 : Cond.laysFinal "EditionEqual$PairSearch" "EditionEqual$PairSearch" "first" "LEditionEqual$Behaviour;" ∈ ez_T := ez_r1 (List.mem_of_getElem? (i := 136) rfl) rfl
theorem t_187 : Cond.laysFinal "EditionEqual$PairSearch" "EditionEqual$PairSearch" "second" "LEditionEqual$Behaviour;" ∈ ez_T := ez_r1 (List.mem_of_getElem? (i := 138) rfl) rfl
theorem t_189 : Cond.laysFinal "EditionEqual$PairSearch" "EditionEqual$PairSearch" "met" "[I" ∈ ez_T := ez_r1 (List.mem_of_getElem? (i := 140) rfl) rfl
theorem t_191 : Cond.laysFinal "EditionEqual$PairSearch" "EditionEqual$PairSearch" "queue" "[I" ∈ ez_T := ez_r1 (List.mem_of_getElem? (i := 142) rfl) rfl
theorem t_193 : Cond.laysFinal "EditionEqual$PairSearch" "EditionEqual$PairSearch" "cameFrom" "[I" ∈ ez_T := ez_r1 (List.mem_of_getElem? (i := 144) rfl) rfl
theorem t_195 : Cond.laysFinal "EditionEqual$PairSearch" "EditionEqual$PairSearch" "cameBy" "[I" ∈ ez_T := ez_r1 (List.mem_of_getElem? (i := 146) rfl) rfl
theorem t_197 : Cond.lays "EditionEqual$PairSearch" "EditionEqual$PairSearch" "pairCount" "I" ∈ ez_T := ez_r1 (List.mem_of_getElem? (i := 148) rfl) rfl
theorem t_199 : Cond.lays "EditionEqual$PairSearch" "EditionEqual$PairSearch" "shownCount" "I" ∈ ez_T := ez_r1 (List.mem_of_getElem? (i := 150) rfl) rfl
theorem t_201 : Cond.lays "EditionEqual$PairSearch" "EditionEqual$PairSearch" "shownFrom" "I" ∈ ez_T := ez_r1 (List.mem_of_getElem? (i := 152) rfl) rfl
theorem t_203 : Cond.lays "EditionEqual$PairSearch" "EditionEqual$PairSearch" "shownLast" "I" ∈ ez_T := ez_r1 (List.mem_of_getElem? (i := 154) rfl) rfl
theorem t_205 : Cond.lays "EditionEqual$PairSearch" "EditionEqual$PairSearch" "firstOuts" "I" ∈ ez_T := ez_r1 (List.mem_of_getElem? (i := 156) rfl) rfl
theorem t_207 : Cond.lays "EditionEqual$PairSearch" "EditionEqual$PairSearch" "secondOuts" "I" ∈ ez_T := ez_r1 (List.mem_of_getElem? (i := 158) rfl) rfl
theorem t_209 : Cond.lays "EditionEqual$PairSearch" "EditionEqual$PairSearch" "known" "Z" ∈ ez_T := ez_r1 (List.mem_of_getElem? (i := 160) rfl) rfl
theorem t_212 : Cond.classLink "EditionEqual" 56 "EditionEqual$Matching" ∈ ez_T := ez_r1 (List.mem_of_getElem? (i := 163) rfl) rfl
theorem t_214 : Cond.methodLink "EditionEqual" 58 ⟨"EditionEqual$Matching", "<init>", "(LEditionEqual$Edition;LEditionEqual$Edition;)V"⟩ ∈ ez_T := ez_r1 (List.mem_of_getElem? (i := 165) rfl) rfl
theorem t_215 : Cond.instanceMethod ⟨"EditionEqual$Matching", "<init>", "(LEditionEqual$Edition;LEditionEqual$Edition;)V"⟩ ∈ ez_T := ez_r1 (List.mem_of_getElem? (i := 166) rfl) rfl
theorem t_216 : Cond.code ⟨"EditionEqual$Matching", "<init>", "(LEditionEqual$Edition;LEditionEqual$Edition;)V"⟩ prog_4_method_1_code 3 none ∈ ez_T := ez_r1 (List.mem_of_getElem? (i := 167) rfl) rfl
theorem t_218 : Cond.fieldLink "EditionEqual$Matching" 25 "EditionEqual$Matching" "first" "LEditionEqual$Edition;" ∈ ez_T := ez_r1 (List.mem_of_getElem? (i := 169) rfl) rfl
theorem t_219 : Cond.fieldLink "EditionEqual$Matching" 29 "EditionEqual$Matching" "second" "LEditionEqual$Edition;" ∈ ez_T := ez_r1 (List.mem_of_getElem? (i := 170) rfl) rfl
theorem t_220 : Cond.fieldLink "EditionEqual$Matching" 9 "EditionEqual$Matching" "partners" "[I" ∈ ez_T := ez_r1 (List.mem_of_getElem? (i := 171) rfl) rfl
theorem t_221 : Cond.fieldLink "EditionEqual$Matching" 15 "EditionEqual$Matching" "partnersBack" "[I" ∈ ez_T := ez_r1 (List.mem_of_getElem? (i := 172) rfl) rfl
theorem t_222 : Cond.fieldLink "EditionEqual$Matching" 18 "EditionEqual$Matching" "queue" "[I" ∈ ez_T := ez_r1 (List.mem_of_getElem? (i := 173) rfl) rfl
theorem t_223 : Cond.fieldLink "EditionEqual$Matching" 21 "EditionEqual$Matching" "matchCount" "I" ∈ ez_T := ez_r1 (List.mem_of_getElem? (i := 174) rfl) rfl
theorem t_224 : Cond.laysFinal "EditionEqual$Matching" "EditionEqual$Matching" "first" "LEditionEqual$Edition;" ∈ ez_T := ez_r1 (List.mem_of_getElem? (i := 175) rfl) rfl
theorem t_226 : Cond.laysFinal "EditionEqual$Matching" "EditionEqual$Matching" "second" "LEditionEqual$Edition;" ∈ ez_T := ez_r1 (List.mem_of_getElem? (i := 177) rfl) rfl
theorem t_228 : Cond.laysFinal "EditionEqual$Matching" "EditionEqual$Matching" "partners" "[I" ∈ ez_T := ez_r1 (List.mem_of_getElem? (i := 179) rfl) rfl
theorem t_230 : Cond.laysFinal "EditionEqual$Matching" "EditionEqual$Matching" "partnersBack" "[I" ∈ ez_T := ez_r1 (List.mem_of_getElem? (i := 181) rfl) rfl
theorem t_232 : Cond.laysFinal "EditionEqual$Matching" "EditionEqual$Matching" "queue" "[I" ∈ ez_T := ez_r1 (List.mem_of_getElem? (i := 183) rfl) rfl
theorem t_234 : Cond.lays "EditionEqual$Matching" "EditionEqual$Matching" "matchCount" "I" ∈ ez_T := ez_r1 (List.mem_of_getElem? (i := 185) rfl) rfl
theorem t_237 : Cond.fieldLink "EditionEqual" 18 "EditionEqual" "pointCount" "I" ∈ ez_T := ez_r1 (List.mem_of_getElem? (i := 188) rfl) rfl
theorem t_238 : Cond.fieldLink "EditionEqual" 22 "EditionEqual" "rowCount" "I" ∈ ez_T := ez_r1 (List.mem_of_getElem? (i := 189) rfl) rfl
theorem t_239 : Cond.fieldLink "EditionEqual" 28 "EditionEqual" "firstEdition" "LEditionEqual$Edition;" ∈ ez_T := ez_r1 (List.mem_of_getElem? (i := 190) rfl) rfl
theorem t_240 : Cond.fieldLink "EditionEqual" 32 "EditionEqual" "secondEdition" "LEditionEqual$Edition;" ∈ ez_T := ez_r1 (List.mem_of_getElem? (i := 191) rfl) rfl
theorem t_241 : Cond.fieldLink "EditionEqual" 40 "EditionEqual" "firstBehaviour" "LEditionEqual$Behaviour;" ∈ ez_T := ez_r1 (List.mem_of_getElem? (i := 192) rfl) rfl
theorem t_242 : Cond.fieldLink "EditionEqual" 44 "EditionEqual" "secondBehaviour" "LEditionEqual$Behaviour;" ∈ ez_T := ez_r1 (List.mem_of_getElem? (i := 193) rfl) rfl
theorem t_243 : Cond.fieldLink "EditionEqual" 52 "EditionEqual" "search" "LEditionEqual$PairSearch;" ∈ ez_T := ez_r1 (List.mem_of_getElem? (i := 194) rfl) rfl
theorem t_244 : Cond.fieldLink "EditionEqual" 61 "EditionEqual" "matching" "LEditionEqual$Matching;" ∈ ez_T := ez_r1 (List.mem_of_getElem? (i := 195) rfl) rfl
theorem t_245 : Cond.fieldLink "EditionEqual" 65 "EditionEqual" "barredRows" "I" ∈ ez_T := ez_r1 (List.mem_of_getElem? (i := 196) rfl) rfl
theorem t_246 : Cond.laysFinal "EditionEqual" "EditionEqual" "pointCount" "I" ∈ ez_T := ez_r1 (List.mem_of_getElem? (i := 197) rfl) rfl
theorem t_248 : Cond.laysFinal "EditionEqual" "EditionEqual" "rowCount" "I" ∈ ez_T := ez_r1 (List.mem_of_getElem? (i := 199) rfl) rfl
theorem t_250 : Cond.laysFinal "EditionEqual" "EditionEqual" "firstEdition" "LEditionEqual$Edition;" ∈ ez_T := ez_r1 (List.mem_of_getElem? (i := 201) rfl) rfl
theorem t_252 : Cond.laysFinal "EditionEqual" "EditionEqual" "secondEdition" "LEditionEqual$Edition;" ∈ ez_T := ez_r1 (List.mem_of_getElem? (i := 203) rfl) rfl
theorem t_254 : Cond.laysFinal "EditionEqual" "EditionEqual" "firstBehaviour" "LEditionEqual$Behaviour;" ∈ ez_T := ez_r1 (List.mem_of_getElem? (i := 205) rfl) rfl
theorem t_256 : Cond.laysFinal "EditionEqual" "EditionEqual" "secondBehaviour" "LEditionEqual$Behaviour;" ∈ ez_T := ez_r1 (List.mem_of_getElem? (i := 207) rfl) rfl
theorem t_258 : Cond.laysFinal "EditionEqual" "EditionEqual" "search" "LEditionEqual$PairSearch;" ∈ ez_T := ez_r1 (List.mem_of_getElem? (i := 209) rfl) rfl
theorem t_260 : Cond.laysFinal "EditionEqual" "EditionEqual" "matching" "LEditionEqual$Matching;" ∈ ez_T := ez_r1 (List.mem_of_getElem? (i := 211) rfl) rfl
theorem t_262 : Cond.lays "EditionEqual" "EditionEqual" "barredRows" "I" ∈ ez_T := ez_r1 (List.mem_of_getElem? (i := 213) rfl) rfl
theorem t_267 : Cond.code ⟨"EditionEqualLaw", "cell", "([II)I"⟩ method_2_code 2 (some .int) ∈ ez_T := ez_r1 (List.mem_of_getElem? (i := 218) rfl) rfl
theorem t_270 : Cond.codeWith ⟨"EditionEqualLaw", "block", "(LEditionEqual;III[J)I"⟩ method_3_code 6 (some .int) [(0, 12, 15, 13), (0, 12, 19, 15)] ∈ ez_T := ez_r1 (List.mem_of_getElem? (i := 221) rfl) rfl
theorem t_271 : Cond.classLink "EditionEqualLaw" 13 "java/lang/IllegalArgumentException" ∈ ez_T := ez_r1 (List.mem_of_getElem? (i := 222) rfl) rfl
theorem t_272 : Cond.classLink "EditionEqualLaw" 15 "java/lang/IllegalStateException" ∈ ez_T := ez_r1 (List.mem_of_getElem? (i := 223) rfl) rfl
theorem t_273 : Cond.methodLink "EditionEqualLaw" 7 ⟨"EditionEqual", "block", "(III)I"⟩ ∈ ez_T := ez_r1 (List.mem_of_getElem? (i := 224) rfl) rfl
theorem t_274 : Cond.instanceMethod ⟨"EditionEqual", "block", "(III)I"⟩ ∈ ez_T := ez_r1 (List.mem_of_getElem? (i := 225) rfl) rfl
theorem t_275 : Cond.selects "EditionEqual" ⟨"EditionEqual", "block", "(III)I"⟩ ⟨"EditionEqual", "block", "(III)I"⟩ ∈ ez_T := ez_r1 (List.mem_of_getElem? (i := 226) rfl) rfl
theorem t_276 : Cond.code ⟨"EditionEqual", "block", "(III)I"⟩ prog_1_method_2_code 5 (some .int) ∈ ez_T := ez_r1 (List.mem_of_getElem? (i := 227) rfl) rfl
theorem t_277 : Cond.methodLink "EditionEqual" 68 ⟨"EditionEqual", "editionOf", "(I)LEditionEqual$Edition;"⟩ ∈ ez_T := ez_r1 (List.mem_of_getElem? (i := 228) rfl) rfl
theorem t_279 : Cond.instanceMethod ⟨"EditionEqual", "editionOf", "(I)LEditionEqual$Edition;"⟩ ∈ ez_T := ez_r1 (List.mem_of_getElem? (i := 230) rfl) rfl
theorem t_280 : Cond.code ⟨"EditionEqual", "editionOf", "(I)LEditionEqual$Edition;"⟩ prog_1_method_20_code 2 (some (.object "EditionEqual$Edition")) ∈ ez_T := ez_r1 (List.mem_of_getElem? (i := 231) rfl) rfl
theorem t_281 : Cond.methodLink "EditionEqual" 172 ⟨"EditionEqual", "checkEdition", "(I)V"⟩ ∈ ez_T := ez_r1 (List.mem_of_getElem? (i := 232) rfl) rfl
theorem t_282 : Cond.static ⟨"EditionEqual", "checkEdition", "(I)V"⟩ ∈ ez_T := ez_r1 (List.mem_of_getElem? (i := 233) rfl) rfl
theorem t_283 : Cond.code ⟨"EditionEqual", "checkEdition", "(I)V"⟩ prog_1_method_28_code 1 none ∈ ez_T := ez_r1 (List.mem_of_getElem? (i := 234) rfl) rfl
theorem t_284 : Cond.methodLink "EditionEqual" 72 ⟨"EditionEqual", "isWithin", "(II)Z"⟩ ∈ ez_T := ez_r1 (List.mem_of_getElem? (i := 235) rfl) rfl
theorem t_285 : Cond.static ⟨"EditionEqual", "isWithin", "(II)Z"⟩ ∈ ez_T := ez_r1 (List.mem_of_getElem? (i := 236) rfl) rfl
theorem t_286 : Cond.code ⟨"EditionEqual", "isWithin", "(II)Z"⟩ prog_1_method_30_code 2 (some .boolean) ∈ ez_T := ez_r1 (List.mem_of_getElem? (i := 237) rfl) rfl
theorem t_287 : Cond.classLink "EditionEqual" 79 "java/lang/IllegalArgumentException" ∈ ez_T := ez_r1 (List.mem_of_getElem? (i := 238) rfl) rfl
theorem t_354 : Cond.methodLink "EditionEqual" 76 ⟨"EditionEqual", "isNumberOfKind", "(II)Z"⟩ ∈ ez_T := ez_r2 (List.mem_of_getElem? (i := 65) rfl) rfl
theorem t_356 : Cond.instanceMethod ⟨"EditionEqual", "isNumberOfKind", "(II)Z"⟩ ∈ ez_T := ez_r2 (List.mem_of_getElem? (i := 67) rfl) rfl
theorem t_357 : Cond.code ⟨"EditionEqual", "isNumberOfKind", "(II)Z"⟩ prog_1_method_25_code 3 (some .boolean) ∈ ez_T := ez_r2 (List.mem_of_getElem? (i := 68) rfl) rfl
theorem t_359 : Cond.methodLink "EditionEqual" 86 ⟨"EditionEqual$Edition", "hasRoomFor", "(I)Z"⟩ ∈ ez_T := ez_r2 (List.mem_of_getElem? (i := 70) rfl) rfl
theorem t_360 : Cond.instanceMethod ⟨"EditionEqual$Edition", "hasRoomFor", "(I)Z"⟩ ∈ ez_T := ez_r2 (List.mem_of_getElem? (i := 71) rfl) rfl
theorem t_361 : Cond.selects "EditionEqual$Edition" ⟨"EditionEqual$Edition", "hasRoomFor", "(I)Z"⟩ ⟨"EditionEqual$Edition", "hasRoomFor", "(I)Z"⟩ ∈ ez_T := ez_r2 (List.mem_of_getElem? (i := 72) rfl) rfl
theorem t_362 : Cond.code ⟨"EditionEqual$Edition", "hasRoomFor", "(I)Z"⟩ prog_3_method_2_code 2 (some .boolean) ∈ ez_T := ez_r2 (List.mem_of_getElem? (i := 73) rfl) rfl
theorem t_363 : Cond.classLink "EditionEqual" 90 "java/lang/IllegalStateException" ∈ ez_T := ez_r2 (List.mem_of_getElem? (i := 74) rfl) rfl
theorem t_379 : Cond.methodLink "EditionEqual" 95 ⟨"EditionEqual", "forgetAnswers", "()V"⟩ ∈ ez_T := ez_r2 (List.mem_of_getElem? (i := 90) rfl) rfl
theorem t_381 : Cond.instanceMethod ⟨"EditionEqual", "forgetAnswers", "()V"⟩ ∈ ez_T := ez_r2 (List.mem_of_getElem? (i := 92) rfl) rfl
theorem t_382 : Cond.code ⟨"EditionEqual", "forgetAnswers", "()V"⟩ prog_1_method_23_code 1 none ∈ ez_T := ez_r2 (List.mem_of_getElem? (i := 93) rfl) rfl
theorem t_383 : Cond.methodLink "EditionEqual" 207 ⟨"EditionEqual$Behaviour", "forget", "()V"⟩ ∈ ez_T := ez_r2 (List.mem_of_getElem? (i := 94) rfl) rfl
theorem t_384 : Cond.instanceMethod ⟨"EditionEqual$Behaviour", "forget", "()V"⟩ ∈ ez_T := ez_r2 (List.mem_of_getElem? (i := 95) rfl) rfl
theorem t_385 : Cond.selects "EditionEqual$Behaviour" ⟨"EditionEqual$Behaviour", "forget", "()V"⟩ ⟨"EditionEqual$Behaviour", "forget", "()V"⟩ ∈ ez_T := ez_r2 (List.mem_of_getElem? (i := 96) rfl) rfl
theorem t_386 : Cond.code ⟨"EditionEqual$Behaviour", "forget", "()V"⟩ prog_2_method_2_code 1 none ∈ ez_T := ez_r2 (List.mem_of_getElem? (i := 97) rfl) rfl
theorem t_387 : Cond.methodLink "EditionEqual" 210 ⟨"EditionEqual$PairSearch", "forget", "()V"⟩ ∈ ez_T := ez_r2 (List.mem_of_getElem? (i := 98) rfl) rfl
theorem t_388 : Cond.instanceMethod ⟨"EditionEqual$PairSearch", "forget", "()V"⟩ ∈ ez_T := ez_r2 (List.mem_of_getElem? (i := 99) rfl) rfl
theorem t_389 : Cond.selects "EditionEqual$PairSearch" ⟨"EditionEqual$PairSearch", "forget", "()V"⟩ ⟨"EditionEqual$PairSearch", "forget", "()V"⟩ ∈ ez_T := ez_r2 (List.mem_of_getElem? (i := 100) rfl) rfl
theorem t_390 : Cond.code ⟨"EditionEqual$PairSearch", "forget", "()V"⟩ prog_5_method_2_code 1 none ∈ ez_T := ez_r2 (List.mem_of_getElem? (i := 101) rfl) rfl
theorem t_391 : Cond.methodLink "EditionEqual" 98 ⟨"EditionEqual$Edition", "addBlock", "(II)I"⟩ ∈ ez_T := ez_r2 (List.mem_of_getElem? (i := 102) rfl) rfl
theorem t_392 : Cond.instanceMethod ⟨"EditionEqual$Edition", "addBlock", "(II)I"⟩ ∈ ez_T := ez_r2 (List.mem_of_getElem? (i := 103) rfl) rfl
theorem t_393 : Cond.selects "EditionEqual$Edition" ⟨"EditionEqual$Edition", "addBlock", "(II)I"⟩ ⟨"EditionEqual$Edition", "addBlock", "(II)I"⟩ ∈ ez_T := ez_r2 (List.mem_of_getElem? (i := 104) rfl) rfl
theorem t_394 : Cond.code ⟨"EditionEqual$Edition", "addBlock", "(II)I"⟩ prog_3_method_3_code 4 (some .int) ∈ ez_T := ez_r2 (List.mem_of_getElem? (i := 105) rfl) rfl
theorem t_395 : Cond.methodLink "EditionEqual$Edition" 49 ⟨"EditionEqual$Edition", "hasRoomFor", "(I)Z"⟩ ∈ ez_T := ez_r2 (List.mem_of_getElem? (i := 106) rfl) rfl
theorem t_396 : Cond.methodLink "EditionEqual$Edition" 53 ⟨"EditionEqual$Edition", "countNeeded", "(I)I"⟩ ∈ ez_T := ez_r2 (List.mem_of_getElem? (i := 107) rfl) rfl
theorem t_397 : Cond.static ⟨"EditionEqual$Edition", "countNeeded", "(I)I"⟩ ∈ ez_T := ez_r2 (List.mem_of_getElem? (i := 108) rfl) rfl
theorem t_398 : Cond.code ⟨"EditionEqual$Edition", "countNeeded", "(I)I"⟩ prog_3_method_4_code 1 (some .int) ∈ ez_T := ez_r2 (List.mem_of_getElem? (i := 109) rfl) rfl
theorem t_401 : Cond.codeWith ⟨"EditionEqualLaw", "wire", "(LEditionEqual;IIII[J)I"⟩ method_4_code 7 (some .int) [(0, 14, 17, 13)] ∈ ez_T := ez_r2 (List.mem_of_getElem? (i := 112) rfl) rfl
theorem t_402 : Cond.methodLink "EditionEqualLaw" 17 ⟨"EditionEqual", "wire", "(IIII)I"⟩ ∈ ez_T := ez_r2 (List.mem_of_getElem? (i := 113) rfl) rfl
theorem t_403 : Cond.instanceMethod ⟨"EditionEqual", "wire", "(IIII)I"⟩ ∈ ez_T := ez_r2 (List.mem_of_getElem? (i := 114) rfl) rfl
theorem t_404 : Cond.selects "EditionEqual" ⟨"EditionEqual", "wire", "(IIII)I"⟩ ⟨"EditionEqual", "wire", "(IIII)I"⟩ ∈ ez_T := ez_r2 (List.mem_of_getElem? (i := 115) rfl) rfl
theorem t_405 : Cond.code ⟨"EditionEqual", "wire", "(IIII)I"⟩ prog_1_method_3_code 6 (some .int) ∈ ez_T := ez_r2 (List.mem_of_getElem? (i := 116) rfl) rfl
theorem t_406 : Cond.methodLink "EditionEqual" 101 ⟨"EditionEqual$Edition", "hasBlock", "(I)Z"⟩ ∈ ez_T := ez_r2 (List.mem_of_getElem? (i := 117) rfl) rfl
theorem t_407 : Cond.instanceMethod ⟨"EditionEqual$Edition", "hasBlock", "(I)Z"⟩ ∈ ez_T := ez_r2 (List.mem_of_getElem? (i := 118) rfl) rfl
theorem t_408 : Cond.selects "EditionEqual$Edition" ⟨"EditionEqual$Edition", "hasBlock", "(I)Z"⟩ ⟨"EditionEqual$Edition", "hasBlock", "(I)Z"⟩ ∈ ez_T := ez_r2 (List.mem_of_getElem? (i := 119) rfl) rfl
theorem t_409 : Cond.code ⟨"EditionEqual$Edition", "hasBlock", "(I)Z"⟩ prog_3_method_9_code 2 (some .boolean) ∈ ez_T := ez_r2 (List.mem_of_getElem? (i := 120) rfl) rfl
theorem t_410 : Cond.methodLink "EditionEqual" 104 ⟨"EditionEqual$Edition", "hasBlockOrNone", "(I)Z"⟩ ∈ ez_T := ez_r2 (List.mem_of_getElem? (i := 121) rfl) rfl
theorem t_411 : Cond.instanceMethod ⟨"EditionEqual$Edition", "hasBlockOrNone", "(I)Z"⟩ ∈ ez_T := ez_r2 (List.mem_of_getElem? (i := 122) rfl) rfl
theorem t_412 : Cond.selects "EditionEqual$Edition" ⟨"EditionEqual$Edition", "hasBlockOrNone", "(I)Z"⟩ ⟨"EditionEqual$Edition", "hasBlockOrNone", "(I)Z"⟩ ∈ ez_T := ez_r2 (List.mem_of_getElem? (i := 123) rfl) rfl
theorem t_413 : Cond.code ⟨"EditionEqual$Edition", "hasBlockOrNone", "(I)Z"⟩ prog_3_method_10_code 2 (some .boolean) ∈ ez_T := ez_r2 (List.mem_of_getElem? (i := 124) rfl) rfl
theorem t_414 : Cond.methodLink "EditionEqual$Edition" 57 ⟨"EditionEqual$Edition", "hasBlock", "(I)Z"⟩ ∈ ez_T := ez_r2 (List.mem_of_getElem? (i := 125) rfl) rfl
theorem t_416 : Cond.methodLink "EditionEqual" 109 ⟨"EditionEqual$Edition", "rewire", "(III)I"⟩ ∈ ez_T := ez_r2 (List.mem_of_getElem? (i := 127) rfl) rfl
theorem t_417 : Cond.instanceMethod ⟨"EditionEqual$Edition", "rewire", "(III)I"⟩ ∈ ez_T := ez_r2 (List.mem_of_getElem? (i := 128) rfl) rfl
theorem t_418 : Cond.selects "EditionEqual$Edition" ⟨"EditionEqual$Edition", "rewire", "(III)I"⟩ ⟨"EditionEqual$Edition", "rewire", "(III)I"⟩ ∈ ez_T := ez_r2 (List.mem_of_getElem? (i := 129) rfl) rfl
theorem t_419 : Cond.code ⟨"EditionEqual$Edition", "rewire", "(III)I"⟩ prog_3_method_5_code 5 (some .int) ∈ ez_T := ez_r2 (List.mem_of_getElem? (i := 130) rfl) rfl
theorem t_420 : Cond.methodLinkNest "EditionEqual$Edition" 60 ⟨"EditionEqual", "isWithin", "(II)Z"⟩ "EditionEqual" ∈ ez_T := ez_r2 (List.mem_of_getElem? (i := 131) rfl) rfl
theorem t_421 : Cond.methodLink "EditionEqual$Edition" 64 ⟨"EditionEqual$Edition", "neededAt", "(II)I"⟩ ∈ ez_T := ez_r2 (List.mem_of_getElem? (i := 132) rfl) rfl
theorem t_422 : Cond.instanceMethod ⟨"EditionEqual$Edition", "neededAt", "(II)I"⟩ ∈ ez_T := ez_r2 (List.mem_of_getElem? (i := 133) rfl) rfl
theorem t_423 : Cond.selects "EditionEqual$Edition" ⟨"EditionEqual$Edition", "neededAt", "(II)I"⟩ ⟨"EditionEqual$Edition", "neededAt", "(II)I"⟩ ∈ ez_T := ez_r2 (List.mem_of_getElem? (i := 134) rfl) rfl
theorem t_424 : Cond.code ⟨"EditionEqual$Edition", "neededAt", "(II)I"⟩ prog_3_method_15_code 4 (some .int) ∈ ez_T := ez_r2 (List.mem_of_getElem? (i := 135) rfl) rfl
theorem t_425 : Cond.methodLinkNest "EditionEqual$Edition" 68 ⟨"EditionEqual", "bitOf", "(I)I"⟩ "EditionEqual" ∈ ez_T := ez_r2 (List.mem_of_getElem? (i := 136) rfl) rfl
theorem t_426 : Cond.static ⟨"EditionEqual", "bitOf", "(I)I"⟩ ∈ ez_T := ez_r2 (List.mem_of_getElem? (i := 137) rfl) rfl
theorem t_427 : Cond.code ⟨"EditionEqual", "bitOf", "(I)I"⟩ prog_1_method_31_code 1 (some .int) ∈ ez_T := ez_r2 (List.mem_of_getElem? (i := 138) rfl) rfl
theorem t_430 : Cond.codeWith ⟨"EditionEqualLaw", "out", "(LEditionEqual;III[J)I"⟩ method_5_code 6 (some .int) [(0, 12, 15, 13)] ∈ ez_T := ez_r2 (List.mem_of_getElem? (i := 141) rfl) rfl
theorem t_431 : Cond.methodLink "EditionEqualLaw" 21 ⟨"EditionEqual", "out", "(III)I"⟩ ∈ ez_T := ez_r2 (List.mem_of_getElem? (i := 142) rfl) rfl
theorem t_432 : Cond.instanceMethod ⟨"EditionEqual", "out", "(III)I"⟩ ∈ ez_T := ez_r2 (List.mem_of_getElem? (i := 143) rfl) rfl
theorem t_433 : Cond.selects "EditionEqual" ⟨"EditionEqual", "out", "(III)I"⟩ ⟨"EditionEqual", "out", "(III)I"⟩ ∈ ez_T := ez_r2 (List.mem_of_getElem? (i := 144) rfl) rfl
theorem t_434 : Cond.code ⟨"EditionEqual", "out", "(III)I"⟩ prog_1_method_4_code 5 (some .int) ∈ ez_T := ez_r2 (List.mem_of_getElem? (i := 145) rfl) rfl
theorem t_436 : Cond.methodLink "EditionEqual" 115 ⟨"EditionEqual$Edition", "changeOutput", "(II)I"⟩ ∈ ez_T := ez_r2 (List.mem_of_getElem? (i := 147) rfl) rfl
theorem t_437 : Cond.instanceMethod ⟨"EditionEqual$Edition", "changeOutput", "(II)I"⟩ ∈ ez_T := ez_r2 (List.mem_of_getElem? (i := 148) rfl) rfl
theorem t_438 : Cond.selects "EditionEqual$Edition" ⟨"EditionEqual$Edition", "changeOutput", "(II)I"⟩ ⟨"EditionEqual$Edition", "changeOutput", "(II)I"⟩ ∈ ez_T := ez_r2 (List.mem_of_getElem? (i := 149) rfl) rfl
theorem t_439 : Cond.code ⟨"EditionEqual$Edition", "changeOutput", "(II)I"⟩ prog_3_method_6_code 4 (some .int) ∈ ez_T := ez_r2 (List.mem_of_getElem? (i := 150) rfl) rfl
theorem t_440 : Cond.methodLink "EditionEqual$Edition" 71 ⟨"EditionEqual$Edition", "outputAt", "(I)I"⟩ ∈ ez_T := ez_r2 (List.mem_of_getElem? (i := 151) rfl) rfl
theorem t_441 : Cond.instanceMethod ⟨"EditionEqual$Edition", "outputAt", "(I)I"⟩ ∈ ez_T := ez_r2 (List.mem_of_getElem? (i := 152) rfl) rfl
theorem t_442 : Cond.selects "EditionEqual$Edition" ⟨"EditionEqual$Edition", "outputAt", "(I)I"⟩ ⟨"EditionEqual$Edition", "outputAt", "(I)I"⟩ ∈ ez_T := ez_r2 (List.mem_of_getElem? (i := 153) rfl) rfl
theorem t_443 : Cond.code ⟨"EditionEqual$Edition", "outputAt", "(I)I"⟩ prog_3_method_13_code 2 (some .int) ∈ ez_T := ez_r2 (List.mem_of_getElem? (i := 154) rfl) rfl
theorem t_446 : Cond.codeWith ⟨"EditionEqualLaw", "bar", "(LEditionEqual;IZ[J)I"⟩ method_6_code 5 (some .int) [(0, 17, 20, 13)] ∈ ez_T := ez_r2 (List.mem_of_getElem? (i := 157) rfl) rfl
theorem t_447 : Cond.methodLink "EditionEqualLaw" 24 ⟨"EditionEqual", "bar", "(IZ)Z"⟩ ∈ ez_T := ez_r2 (List.mem_of_getElem? (i := 158) rfl) rfl
theorem t_448 : Cond.instanceMethod ⟨"EditionEqual", "bar", "(IZ)Z"⟩ ∈ ez_T := ez_r2 (List.mem_of_getElem? (i := 159) rfl) rfl
theorem t_449 : Cond.selects "EditionEqual" ⟨"EditionEqual", "bar", "(IZ)Z"⟩ ⟨"EditionEqual", "bar", "(IZ)Z"⟩ ∈ ez_T := ez_r2 (List.mem_of_getElem? (i := 160) rfl) rfl
theorem t_450 : Cond.code ⟨"EditionEqual", "bar", "(IZ)Z"⟩ prog_1_method_5_code 5 (some .boolean) ∈ ez_T := ez_r2 (List.mem_of_getElem? (i := 161) rfl) rfl
theorem t_451 : Cond.methodLink "EditionEqual" 118 ⟨"EditionEqual", "checkRow", "(I)V"⟩ ∈ ez_T := ez_r2 (List.mem_of_getElem? (i := 162) rfl) rfl
theorem t_453 : Cond.instanceMethod ⟨"EditionEqual", "checkRow", "(I)V"⟩ ∈ ez_T := ez_r2 (List.mem_of_getElem? (i := 164) rfl) rfl
theorem t_454 : Cond.code ⟨"EditionEqual", "checkRow", "(I)V"⟩ prog_1_method_26_code 2 none ∈ ez_T := ez_r2 (List.mem_of_getElem? (i := 165) rfl) rfl
theorem t_458 : Cond.codeWith ⟨"EditionEqualLaw", "wrong", "(LEditionEqual;I[J)I"⟩ method_7_code 4 (some .int) [(0, 9, 12, 13)] ∈ ez_T := ez_r2 (List.mem_of_getElem? (i := 169) rfl) rfl
theorem t_459 : Cond.methodLink "EditionEqualLaw" 28 ⟨"EditionEqual", "wrong", "(I)I"⟩ ∈ ez_T := ez_r2 (List.mem_of_getElem? (i := 170) rfl) rfl
theorem t_460 : Cond.instanceMethod ⟨"EditionEqual", "wrong", "(I)I"⟩ ∈ ez_T := ez_r2 (List.mem_of_getElem? (i := 171) rfl) rfl
theorem t_461 : Cond.selects "EditionEqual" ⟨"EditionEqual", "wrong", "(I)I"⟩ ⟨"EditionEqual", "wrong", "(I)I"⟩ ∈ ez_T := ez_r2 (List.mem_of_getElem? (i := 172) rfl) rfl
theorem t_462 : Cond.code ⟨"EditionEqual", "wrong", "(I)I"⟩ prog_1_method_6_code 2 (some .int) ∈ ez_T := ez_r2 (List.mem_of_getElem? (i := 173) rfl) rfl
theorem t_463 : Cond.methodLink "EditionEqual" 122 ⟨"EditionEqual$Edition", "firstFault", "()I"⟩ ∈ ez_T := ez_r2 (List.mem_of_getElem? (i := 174) rfl) rfl
theorem t_464 : Cond.instanceMethod ⟨"EditionEqual$Edition", "firstFault", "()I"⟩ ∈ ez_T := ez_r2 (List.mem_of_getElem? (i := 175) rfl) rfl
theorem t_465 : Cond.selects "EditionEqual$Edition" ⟨"EditionEqual$Edition", "firstFault", "()I"⟩ ⟨"EditionEqual$Edition", "firstFault", "()I"⟩ ∈ ez_T := ez_r2 (List.mem_of_getElem? (i := 176) rfl) rfl
theorem t_466 : Cond.code ⟨"EditionEqual$Edition", "firstFault", "()I"⟩ prog_3_method_17_code 2 (some .int) ∈ ez_T := ez_r2 (List.mem_of_getElem? (i := 177) rfl) rfl
theorem t_467 : Cond.methodLink "EditionEqual$Edition" 74 ⟨"EditionEqual$Edition", "firstUnwired", "()I"⟩ ∈ ez_T := ez_r2 (List.mem_of_getElem? (i := 178) rfl) rfl
theorem t_469 : Cond.instanceMethod ⟨"EditionEqual$Edition", "firstUnwired", "()I"⟩ ∈ ez_T := ez_r2 (List.mem_of_getElem? (i := 180) rfl) rfl
theorem t_470 : Cond.code ⟨"EditionEqual$Edition", "firstUnwired", "()I"⟩ prog_3_method_18_code 3 (some .int) ∈ ez_T := ez_r2 (List.mem_of_getElem? (i := 181) rfl) rfl
theorem t_471 : Cond.methodLink "EditionEqual$Edition" 78 ⟨"EditionEqual$Edition", "firstComingBack", "()I"⟩ ∈ ez_T := ez_r2 (List.mem_of_getElem? (i := 182) rfl) rfl
theorem t_473 : Cond.instanceMethod ⟨"EditionEqual$Edition", "firstComingBack", "()I"⟩ ∈ ez_T := ez_r2 (List.mem_of_getElem? (i := 184) rfl) rfl
theorem t_474 : Cond.code ⟨"EditionEqual$Edition", "firstComingBack", "()I"⟩ prog_3_method_19_code 3 (some .int) ∈ ez_T := ez_r2 (List.mem_of_getElem? (i := 185) rfl) rfl
theorem t_475 : Cond.methodLink "EditionEqual$Edition" 81 ⟨"EditionEqual$Edition", "neededInTick", "(I)I"⟩ ∈ ez_T := ez_r2 (List.mem_of_getElem? (i := 186) rfl) rfl
theorem t_476 : Cond.instanceMethod ⟨"EditionEqual$Edition", "neededInTick", "(I)I"⟩ ∈ ez_T := ez_r2 (List.mem_of_getElem? (i := 187) rfl) rfl
theorem t_477 : Cond.selects "EditionEqual$Edition" ⟨"EditionEqual$Edition", "neededInTick", "(I)I"⟩ ⟨"EditionEqual$Edition", "neededInTick", "(I)I"⟩ ∈ ez_T := ez_r2 (List.mem_of_getElem? (i := 188) rfl) rfl
theorem t_478 : Cond.code ⟨"EditionEqual$Edition", "neededInTick", "(I)I"⟩ prog_3_method_16_code 2 (some .int) ∈ ez_T := ez_r2 (List.mem_of_getElem? (i := 189) rfl) rfl
theorem t_479 : Cond.methodLinkNest "EditionEqual$Edition" 84 ⟨"EditionEqual", "holds", "(II)Z"⟩ "EditionEqual" ∈ ez_T := ez_r2 (List.mem_of_getElem? (i := 190) rfl) rfl
theorem t_480 : Cond.static ⟨"EditionEqual", "holds", "(II)Z"⟩ ∈ ez_T := ez_r2 (List.mem_of_getElem? (i := 191) rfl) rfl
theorem t_481 : Cond.code ⟨"EditionEqual", "holds", "(II)Z"⟩ prog_1_method_32_code 2 (some .boolean) ∈ ez_T := ez_r2 (List.mem_of_getElem? (i := 192) rfl) rfl
theorem t_484 : Cond.codeWith ⟨"EditionEqualLaw", "value", "(LEditionEqual;IIII[J)I"⟩ method_8_code 7 (some .int) [(0, 14, 17, 13), (0, 14, 21, 15)] ∈ ez_T := ez_r2 (List.mem_of_getElem? (i := 195) rfl) rfl
theorem t_485 : Cond.methodLink "EditionEqualLaw" 32 ⟨"EditionEqual", "value", "(IIII)I"⟩ ∈ ez_T := ez_r2 (List.mem_of_getElem? (i := 196) rfl) rfl
theorem t_486 : Cond.instanceMethod ⟨"EditionEqual", "value", "(IIII)I"⟩ ∈ ez_T := ez_r2 (List.mem_of_getElem? (i := 197) rfl) rfl
theorem t_487 : Cond.selects "EditionEqual" ⟨"EditionEqual", "value", "(IIII)I"⟩ ⟨"EditionEqual", "value", "(IIII)I"⟩ ∈ ez_T := ez_r2 (List.mem_of_getElem? (i := 198) rfl) rfl
theorem t_488 : Cond.code ⟨"EditionEqual", "value", "(IIII)I"⟩ prog_1_method_7_code 5 (some .int) ∈ ez_T := ez_r2 (List.mem_of_getElem? (i := 199) rfl) rfl
theorem t_489 : Cond.methodLink "EditionEqual" 126 ⟨"EditionEqual", "checkBlock", "(LEditionEqual$Edition;I)V"⟩ ∈ ez_T := ez_r2 (List.mem_of_getElem? (i := 200) rfl) rfl
theorem t_490 : Cond.static ⟨"EditionEqual", "checkBlock", "(LEditionEqual$Edition;I)V"⟩ ∈ ez_T := ez_r2 (List.mem_of_getElem? (i := 201) rfl) rfl
theorem t_491 : Cond.code ⟨"EditionEqual", "checkBlock", "(LEditionEqual$Edition;I)V"⟩ prog_1_method_29_code 2 none ∈ ez_T := ez_r2 (List.mem_of_getElem? (i := 202) rfl) rfl
theorem t_493 : Cond.methodLink "EditionEqual" 130 ⟨"EditionEqual", "behaviourOf", "(I)LEditionEqual$Behaviour;"⟩ ∈ ez_T := ez_r2 (List.mem_of_getElem? (i := 204) rfl) rfl
theorem t_495 : Cond.instanceMethod ⟨"EditionEqual", "behaviourOf", "(I)LEditionEqual$Behaviour;"⟩ ∈ ez_T := ez_r2 (List.mem_of_getElem? (i := 206) rfl) rfl
theorem t_496 : Cond.code ⟨"EditionEqual", "behaviourOf", "(I)LEditionEqual$Behaviour;"⟩ prog_1_method_21_code 3 (some (.object "EditionEqual$Behaviour")) ∈ ez_T := ez_r2 (List.mem_of_getElem? (i := 207) rfl) rfl
theorem t_498 : Cond.methodLink "EditionEqual" 152 ⟨"EditionEqual", "openRows", "()I"⟩ ∈ ez_T := ez_r2 (List.mem_of_getElem? (i := 209) rfl) rfl
theorem t_500 : Cond.instanceMethod ⟨"EditionEqual", "openRows", "()I"⟩ ∈ ez_T := ez_r2 (List.mem_of_getElem? (i := 211) rfl) rfl
theorem t_501 : Cond.code ⟨"EditionEqual", "openRows", "()I"⟩ prog_1_method_24_code 1 (some .int) ∈ ez_T := ez_r2 (List.mem_of_getElem? (i := 212) rfl) rfl
theorem t_502 : Cond.methodLink "EditionEqual" 201 ⟨"EditionEqual$Behaviour", "learn", "(II)V"⟩ ∈ ez_T := ez_r2 (List.mem_of_getElem? (i := 213) rfl) rfl
theorem t_503 : Cond.instanceMethod ⟨"EditionEqual$Behaviour", "learn", "(II)V"⟩ ∈ ez_T := ez_r2 (List.mem_of_getElem? (i := 214) rfl) rfl
theorem t_504 : Cond.selects "EditionEqual$Behaviour" ⟨"EditionEqual$Behaviour", "learn", "(II)V"⟩ ⟨"EditionEqual$Behaviour", "learn", "(II)V"⟩ ∈ ez_T := ez_r2 (List.mem_of_getElem? (i := 215) rfl) rfl
theorem t_505 : Cond.code ⟨"EditionEqual$Behaviour", "learn", "(II)V"⟩ prog_2_method_3_code 4 none ∈ ez_T := ez_r2 (List.mem_of_getElem? (i := 216) rfl) rfl
theorem t_506 : Cond.methodLink "EditionEqual$Behaviour" 54 ⟨"EditionEqual$Edition", "countDelays", "()I"⟩ ∈ ez_T := ez_r2 (List.mem_of_getElem? (i := 217) rfl) rfl
theorem t_507 : Cond.instanceMethod ⟨"EditionEqual$Edition", "countDelays", "()I"⟩ ∈ ez_T := ez_r2 (List.mem_of_getElem? (i := 218) rfl) rfl
theorem t_508 : Cond.selects "EditionEqual$Edition" ⟨"EditionEqual$Edition", "countDelays", "()I"⟩ ⟨"EditionEqual$Edition", "countDelays", "()I"⟩ ∈ ez_T := ez_r2 (List.mem_of_getElem? (i := 219) rfl) rfl
theorem t_509 : Cond.code ⟨"EditionEqual$Edition", "countDelays", "()I"⟩ prog_3_method_8_code 1 (some .int) ∈ ez_T := ez_r2 (List.mem_of_getElem? (i := 220) rfl) rfl
theorem t_510 : Cond.methodLink "EditionEqual$Behaviour" 60 ⟨"EditionEqual$Behaviour", "orderBlocks", "()V"⟩ ∈ ez_T := ez_r2 (List.mem_of_getElem? (i := 221) rfl) rfl
theorem t_512 : Cond.instanceMethod ⟨"EditionEqual$Behaviour", "orderBlocks", "()V"⟩ ∈ ez_T := ez_r2 (List.mem_of_getElem? (i := 223) rfl) rfl
theorem t_513 : Cond.code ⟨"EditionEqual$Behaviour", "orderBlocks", "()V"⟩ prog_2_method_10_code 5 none ∈ ez_T := ez_r2 (List.mem_of_getElem? (i := 224) rfl) rfl
theorem t_514 : Cond.methodLink "EditionEqual$Behaviour" 93 ⟨"EditionEqual$Edition", "countBlocks", "()I"⟩ ∈ ez_T := ez_r2 (List.mem_of_getElem? (i := 225) rfl) rfl
theorem t_515 : Cond.instanceMethod ⟨"EditionEqual$Edition", "countBlocks", "()I"⟩ ∈ ez_T := ez_r2 (List.mem_of_getElem? (i := 226) rfl) rfl
theorem t_516 : Cond.selects "EditionEqual$Edition" ⟨"EditionEqual$Edition", "countBlocks", "()I"⟩ ⟨"EditionEqual$Edition", "countBlocks", "()I"⟩ ∈ ez_T := ez_r2 (List.mem_of_getElem? (i := 227) rfl) rfl
theorem t_517 : Cond.code ⟨"EditionEqual$Edition", "countBlocks", "()I"⟩ prog_3_method_7_code 1 (some .int) ∈ ez_T := ez_r2 (List.mem_of_getElem? (i := 228) rfl) rfl
theorem t_518 : Cond.methodLink "EditionEqual$Behaviour" 96 ⟨"EditionEqual$Edition", "neededInTick", "(I)I"⟩ ∈ ez_T := ez_r2 (List.mem_of_getElem? (i := 229) rfl) rfl
theorem t_519 : Cond.methodLinkNest "EditionEqual$Behaviour" 90 ⟨"EditionEqual", "holds", "(II)Z"⟩ "EditionEqual" ∈ ez_T := ez_r2 (List.mem_of_getElem? (i := 230) rfl) rfl
theorem t_520 : Cond.methodLinkNest "EditionEqual$Behaviour" 99 ⟨"EditionEqual", "bitOf", "(I)I"⟩ "EditionEqual" ∈ ez_T := ez_r2 (List.mem_of_getElem? (i := 231) rfl) rfl
theorem t_521 : Cond.methodLink "EditionEqual$Behaviour" 63 ⟨"EditionEqual$Behaviour", "fillColumns", "(I)V"⟩ ∈ ez_T := ez_r2 (List.mem_of_getElem? (i := 232) rfl) rfl
theorem t_523 : Cond.instanceMethod ⟨"EditionEqual$Behaviour", "fillColumns", "(I)V"⟩ ∈ ez_T := ez_r2 (List.mem_of_getElem? (i := 234) rfl) rfl
theorem t_524 : Cond.code ⟨"EditionEqual$Behaviour", "fillColumns", "(I)V"⟩ prog_2_method_11_code 4 none ∈ ez_T := ez_r2 (List.mem_of_getElem? (i := 235) rfl) rfl
theorem t_525 : Cond.methodLink "EditionEqual$Behaviour" 102 ⟨"EditionEqual$Behaviour", "workOutColumn", "(II)I"⟩ ∈ ez_T := ez_r2 (List.mem_of_getElem? (i := 236) rfl) rfl
theorem t_527 : Cond.instanceMethod ⟨"EditionEqual$Behaviour", "workOutColumn", "(II)I"⟩ ∈ ez_T := ez_r2 (List.mem_of_getElem? (i := 238) rfl) rfl
theorem t_528 : Cond.code ⟨"EditionEqual$Behaviour", "workOutColumn", "(II)I"⟩ prog_2_method_12_code 6 (some .int) ∈ ez_T := ez_r2 (List.mem_of_getElem? (i := 239) rfl) rfl
theorem t_529 : Cond.methodLink "EditionEqual$Behaviour" 105 ⟨"EditionEqual$Edition", "numberOf", "(I)I"⟩ ∈ ez_T := ez_r3 (List.mem_of_getElem? (i := 0) rfl) rfl
theorem t_530 : Cond.instanceMethod ⟨"EditionEqual$Edition", "numberOf", "(I)I"⟩ ∈ ez_T := ez_r3 (List.mem_of_getElem? (i := 1) rfl) rfl
theorem t_531 : Cond.selects "EditionEqual$Edition" ⟨"EditionEqual$Edition", "numberOf", "(I)I"⟩ ⟨"EditionEqual$Edition", "numberOf", "(I)I"⟩ ∈ ez_T := ez_r3 (List.mem_of_getElem? (i := 2) rfl) rfl
theorem t_532 : Cond.code ⟨"EditionEqual$Edition", "numberOf", "(I)I"⟩ prog_3_method_12_code 2 (some .int) ∈ ez_T := ez_r3 (List.mem_of_getElem? (i := 3) rfl) rfl
theorem t_533 : Cond.methodLink "EditionEqual$Behaviour" 108 ⟨"EditionEqual$Edition", "neededAt", "(II)I"⟩ ∈ ez_T := ez_r3 (List.mem_of_getElem? (i := 4) rfl) rfl
theorem t_534 : Cond.methodLink "EditionEqual$Behaviour" 73 ⟨"EditionEqual$Behaviour", "columnAt", "(II)I"⟩ ∈ ez_T := ez_r3 (List.mem_of_getElem? (i := 5) rfl) rfl
theorem t_536 : Cond.instanceMethod ⟨"EditionEqual$Behaviour", "columnAt", "(II)I"⟩ ∈ ez_T := ez_r3 (List.mem_of_getElem? (i := 7) rfl) rfl
theorem t_537 : Cond.code ⟨"EditionEqual$Behaviour", "columnAt", "(II)I"⟩ prog_2_method_13_code 4 (some .int) ∈ ez_T := ez_r3 (List.mem_of_getElem? (i := 8) rfl) rfl
theorem t_538 : Cond.methodLinkNest "EditionEqual$Behaviour" 77 ⟨"EditionEqual", "isWithin", "(II)Z"⟩ "EditionEqual" ∈ ez_T := ez_r3 (List.mem_of_getElem? (i := 9) rfl) rfl
theorem t_539 : Cond.methodLink "EditionEqual$Behaviour" 111 ⟨"EditionEqual$Edition", "kindOf", "(I)I"⟩ ∈ ez_T := ez_r3 (List.mem_of_getElem? (i := 10) rfl) rfl
theorem t_540 : Cond.instanceMethod ⟨"EditionEqual$Edition", "kindOf", "(I)I"⟩ ∈ ez_T := ez_r3 (List.mem_of_getElem? (i := 11) rfl) rfl
theorem t_541 : Cond.selects "EditionEqual$Edition" ⟨"EditionEqual$Edition", "kindOf", "(I)I"⟩ ⟨"EditionEqual$Edition", "kindOf", "(I)I"⟩ ∈ ez_T := ez_r3 (List.mem_of_getElem? (i := 12) rfl) rfl
theorem t_542 : Cond.code ⟨"EditionEqual$Edition", "kindOf", "(I)I"⟩ prog_3_method_11_code 2 (some .int) ∈ ez_T := ez_r3 (List.mem_of_getElem? (i := 13) rfl) rfl
theorem t_545 : Cond.methodLink "EditionEqual$Behaviour" 67 ⟨"EditionEqual$Behaviour", "fillTicks", "(I)V"⟩ ∈ ez_T := ez_r3 (List.mem_of_getElem? (i := 16) rfl) rfl
theorem t_547 : Cond.instanceMethod ⟨"EditionEqual$Behaviour", "fillTicks", "(I)V"⟩ ∈ ez_T := ez_r3 (List.mem_of_getElem? (i := 18) rfl) rfl
theorem t_548 : Cond.code ⟨"EditionEqual$Behaviour", "fillTicks", "(I)V"⟩ prog_2_method_14_code 7 none ∈ ez_T := ez_r3 (List.mem_of_getElem? (i := 19) rfl) rfl
theorem t_549 : Cond.methodLink "EditionEqual$Behaviour" 117 ⟨"EditionEqual$Edition", "outputAt", "(I)I"⟩ ∈ ez_T := ez_r3 (List.mem_of_getElem? (i := 20) rfl) rfl
theorem t_550 : Cond.methodLink "EditionEqual$Behaviour" 120 ⟨"EditionEqual$Behaviour", "valueOf", "(III)I"⟩ ∈ ez_T := ez_r3 (List.mem_of_getElem? (i := 21) rfl) rfl
theorem t_551 : Cond.instanceMethod ⟨"EditionEqual$Behaviour", "valueOf", "(III)I"⟩ ∈ ez_T := ez_r3 (List.mem_of_getElem? (i := 22) rfl) rfl
theorem t_552 : Cond.selects "EditionEqual$Behaviour" ⟨"EditionEqual$Behaviour", "valueOf", "(III)I"⟩ ⟨"EditionEqual$Behaviour", "valueOf", "(III)I"⟩ ∈ ez_T := ez_r3 (List.mem_of_getElem? (i := 23) rfl) rfl
theorem t_553 : Cond.code ⟨"EditionEqual$Behaviour", "valueOf", "(III)I"⟩ prog_2_method_4_code 4 (some .int) ∈ ez_T := ez_r3 (List.mem_of_getElem? (i := 24) rfl) rfl
theorem t_554 : Cond.methodLink "EditionEqual$Behaviour" 124 ⟨"EditionEqual$Edition", "delayAt", "(I)I"⟩ ∈ ez_T := ez_r3 (List.mem_of_getElem? (i := 25) rfl) rfl
theorem t_555 : Cond.instanceMethod ⟨"EditionEqual$Edition", "delayAt", "(I)I"⟩ ∈ ez_T := ez_r3 (List.mem_of_getElem? (i := 26) rfl) rfl
theorem t_556 : Cond.selects "EditionEqual$Edition" ⟨"EditionEqual$Edition", "delayAt", "(I)I"⟩ ⟨"EditionEqual$Edition", "delayAt", "(I)I"⟩ ∈ ez_T := ez_r3 (List.mem_of_getElem? (i := 27) rfl) rfl
theorem t_557 : Cond.code ⟨"EditionEqual$Edition", "delayAt", "(I)I"⟩ prog_3_method_14_code 2 (some .int) ∈ ez_T := ez_r3 (List.mem_of_getElem? (i := 28) rfl) rfl
theorem t_558 : Cond.methodLink "EditionEqual$Behaviour" 70 ⟨"EditionEqual$Behaviour", "findReached", "(I)V"⟩ ∈ ez_T := ez_r3 (List.mem_of_getElem? (i := 29) rfl) rfl
theorem t_560 : Cond.instanceMethod ⟨"EditionEqual$Behaviour", "findReached", "(I)V"⟩ ∈ ez_T := ez_r3 (List.mem_of_getElem? (i := 31) rfl) rfl
theorem t_561 : Cond.code ⟨"EditionEqual$Behaviour", "findReached", "(I)V"⟩ prog_2_method_15_code 6 none ∈ ez_T := ez_r3 (List.mem_of_getElem? (i := 32) rfl) rfl
theorem t_562 : Cond.methodLink "EditionEqual$Behaviour" 127 ⟨"EditionEqual$Behaviour", "stateAfter", "(II)I"⟩ ∈ ez_T := ez_r3 (List.mem_of_getElem? (i := 33) rfl) rfl
theorem t_563 : Cond.instanceMethod ⟨"EditionEqual$Behaviour", "stateAfter", "(II)I"⟩ ∈ ez_T := ez_r3 (List.mem_of_getElem? (i := 34) rfl) rfl
theorem t_564 : Cond.selects "EditionEqual$Behaviour" ⟨"EditionEqual$Behaviour", "stateAfter", "(II)I"⟩ ⟨"EditionEqual$Behaviour", "stateAfter", "(II)I"⟩ ∈ ez_T := ez_r3 (List.mem_of_getElem? (i := 35) rfl) rfl
theorem t_565 : Cond.code ⟨"EditionEqual$Behaviour", "stateAfter", "(II)I"⟩ prog_2_method_6_code 3 (some .int) ∈ ez_T := ez_r3 (List.mem_of_getElem? (i := 36) rfl) rfl
theorem t_566 : Cond.methodLink "EditionEqual$Behaviour" 81 ⟨"EditionEqual$Behaviour", "placeOf", "(II)I"⟩ ∈ ez_T := ez_r3 (List.mem_of_getElem? (i := 37) rfl) rfl
theorem t_568 : Cond.instanceMethod ⟨"EditionEqual$Behaviour", "placeOf", "(II)I"⟩ ∈ ez_T := ez_r3 (List.mem_of_getElem? (i := 39) rfl) rfl
theorem t_569 : Cond.code ⟨"EditionEqual$Behaviour", "placeOf", "(II)I"⟩ prog_2_method_9_code 3 (some .int) ∈ ez_T := ez_r3 (List.mem_of_getElem? (i := 40) rfl) rfl
theorem t_570 : Cond.methodLink "EditionEqual" 134 ⟨"EditionEqual$Behaviour", "valueOf", "(III)I"⟩ ∈ ez_T := ez_r3 (List.mem_of_getElem? (i := 41) rfl) rfl
theorem t_573 : Cond.codeWith ⟨"EditionEqualLaw", "tick", "(LEditionEqual;III[J)I"⟩ method_9_code 6 (some .int) [(0, 12, 15, 13), (0, 12, 19, 15)] ∈ ez_T := ez_r3 (List.mem_of_getElem? (i := 44) rfl) rfl
theorem t_574 : Cond.methodLink "EditionEqualLaw" 35 ⟨"EditionEqual", "tick", "(III)I"⟩ ∈ ez_T := ez_r3 (List.mem_of_getElem? (i := 45) rfl) rfl
theorem t_575 : Cond.instanceMethod ⟨"EditionEqual", "tick", "(III)I"⟩ ∈ ez_T := ez_r3 (List.mem_of_getElem? (i := 46) rfl) rfl
theorem t_576 : Cond.selects "EditionEqual" ⟨"EditionEqual", "tick", "(III)I"⟩ ⟨"EditionEqual", "tick", "(III)I"⟩ ∈ ez_T := ez_r3 (List.mem_of_getElem? (i := 47) rfl) rfl
theorem t_577 : Cond.code ⟨"EditionEqual", "tick", "(III)I"⟩ prog_1_method_8_code 5 (some .int) ∈ ez_T := ez_r3 (List.mem_of_getElem? (i := 48) rfl) rfl
theorem t_578 : Cond.methodLink "EditionEqual" 137 ⟨"EditionEqual$Behaviour", "outsOf", "(II)I"⟩ ∈ ez_T := ez_r3 (List.mem_of_getElem? (i := 49) rfl) rfl
theorem t_579 : Cond.instanceMethod ⟨"EditionEqual$Behaviour", "outsOf", "(II)I"⟩ ∈ ez_T := ez_r3 (List.mem_of_getElem? (i := 50) rfl) rfl
theorem t_580 : Cond.selects "EditionEqual$Behaviour" ⟨"EditionEqual$Behaviour", "outsOf", "(II)I"⟩ ⟨"EditionEqual$Behaviour", "outsOf", "(II)I"⟩ ∈ ez_T := ez_r3 (List.mem_of_getElem? (i := 51) rfl) rfl
theorem t_581 : Cond.code ⟨"EditionEqual$Behaviour", "outsOf", "(II)I"⟩ prog_2_method_5_code 3 (some .int) ∈ ez_T := ez_r3 (List.mem_of_getElem? (i := 52) rfl) rfl
theorem t_582 : Cond.methodLink "EditionEqual" 140 ⟨"EditionEqual$Behaviour", "stateAfter", "(II)I"⟩ ∈ ez_T := ez_r3 (List.mem_of_getElem? (i := 53) rfl) rfl
theorem t_585 : Cond.codeWith ⟨"EditionEqualLaw", "reached", "(LEditionEqual;I[J)I"⟩ method_10_code 4 (some .int) [(0, 9, 12, 13), (0, 9, 15, 15)] ∈ ez_T := ez_r3 (List.mem_of_getElem? (i := 56) rfl) rfl
theorem t_586 : Cond.methodLink "EditionEqualLaw" 38 ⟨"EditionEqual", "reached", "(I)I"⟩ ∈ ez_T := ez_r3 (List.mem_of_getElem? (i := 57) rfl) rfl
theorem t_587 : Cond.instanceMethod ⟨"EditionEqual", "reached", "(I)I"⟩ ∈ ez_T := ez_r3 (List.mem_of_getElem? (i := 58) rfl) rfl
theorem t_588 : Cond.selects "EditionEqual" ⟨"EditionEqual", "reached", "(I)I"⟩ ⟨"EditionEqual", "reached", "(I)I"⟩ ∈ ez_T := ez_r3 (List.mem_of_getElem? (i := 59) rfl) rfl
theorem t_589 : Cond.code ⟨"EditionEqual", "reached", "(I)I"⟩ prog_1_method_9_code 2 (some .int) ∈ ez_T := ez_r3 (List.mem_of_getElem? (i := 60) rfl) rfl
theorem t_590 : Cond.methodLink "EditionEqual" 143 ⟨"EditionEqual$Behaviour", "countReached", "()I"⟩ ∈ ez_T := ez_r3 (List.mem_of_getElem? (i := 61) rfl) rfl
theorem t_591 : Cond.instanceMethod ⟨"EditionEqual$Behaviour", "countReached", "()I"⟩ ∈ ez_T := ez_r3 (List.mem_of_getElem? (i := 62) rfl) rfl
theorem t_592 : Cond.selects "EditionEqual$Behaviour" ⟨"EditionEqual$Behaviour", "countReached", "()I"⟩ ⟨"EditionEqual$Behaviour", "countReached", "()I"⟩ ∈ ez_T := ez_r3 (List.mem_of_getElem? (i := 63) rfl) rfl
theorem t_593 : Cond.code ⟨"EditionEqual$Behaviour", "countReached", "()I"⟩ prog_2_method_7_code 1 (some .int) ∈ ez_T := ez_r3 (List.mem_of_getElem? (i := 64) rfl) rfl
theorem t_594 : Cond.methodLink "EditionEqual$Behaviour" 84 ⟨"java/lang/Integer", "bitCount", "(I)I"⟩ ∈ ez_T := ez_r3 (List.mem_of_getElem? (i := 65) rfl) rfl
theorem t_595 : Cond.static ⟨"java/lang/Integer", "bitCount", "(I)I"⟩ ∈ ez_T := ez_r3 (List.mem_of_getElem? (i := 66) rfl) rfl
theorem t_596 : Cond.code ⟨"java/lang/Integer", "bitCount", "(I)I"⟩ prog_11_method_49_code 1 (some .int) ∈ ez_T := ez_r3 (List.mem_of_getElem? (i := 67) rfl) rfl
theorem t_602 : Cond.codeWith ⟨"EditionEqualLaw", "state", "(LEditionEqual;II[J)I"⟩ method_11_code 5 (some .int) [(0, 10, 13, 13), (0, 10, 17, 15)] ∈ ez_T := ez_r3 (List.mem_of_getElem? (i := 73) rfl) rfl
theorem t_603 : Cond.methodLink "EditionEqualLaw" 41 ⟨"EditionEqual", "state", "(II)I"⟩ ∈ ez_T := ez_r3 (List.mem_of_getElem? (i := 74) rfl) rfl
theorem t_604 : Cond.instanceMethod ⟨"EditionEqual", "state", "(II)I"⟩ ∈ ez_T := ez_r3 (List.mem_of_getElem? (i := 75) rfl) rfl
theorem t_605 : Cond.selects "EditionEqual" ⟨"EditionEqual", "state", "(II)I"⟩ ⟨"EditionEqual", "state", "(II)I"⟩ ∈ ez_T := ez_r3 (List.mem_of_getElem? (i := 76) rfl) rfl
theorem t_606 : Cond.code ⟨"EditionEqual", "state", "(II)I"⟩ prog_1_method_10_code 3 (some .int) ∈ ez_T := ez_r3 (List.mem_of_getElem? (i := 77) rfl) rfl
theorem t_608 : Cond.methodLink "EditionEqual" 148 ⟨"EditionEqual$Behaviour", "reachedAt", "(I)I"⟩ ∈ ez_T := ez_r3 (List.mem_of_getElem? (i := 79) rfl) rfl
theorem t_609 : Cond.instanceMethod ⟨"EditionEqual$Behaviour", "reachedAt", "(I)I"⟩ ∈ ez_T := ez_r3 (List.mem_of_getElem? (i := 80) rfl) rfl
theorem t_610 : Cond.selects "EditionEqual$Behaviour" ⟨"EditionEqual$Behaviour", "reachedAt", "(I)I"⟩ ⟨"EditionEqual$Behaviour", "reachedAt", "(I)I"⟩ ∈ ez_T := ez_r3 (List.mem_of_getElem? (i := 81) rfl) rfl
theorem t_611 : Cond.code ⟨"EditionEqual$Behaviour", "reachedAt", "(I)I"⟩ prog_2_method_8_code 4 (some .int) ∈ ez_T := ez_r3 (List.mem_of_getElem? (i := 82) rfl) rfl
theorem t_614 : Cond.codeWith ⟨"EditionEqualLaw", "least", "(LEditionEqual;I[J)I"⟩ method_12_code 4 (some .int) [(0, 9, 12, 13), (0, 9, 15, 15)] ∈ ez_T := ez_r3 (List.mem_of_getElem? (i := 85) rfl) rfl
theorem t_615 : Cond.methodLink "EditionEqualLaw" 45 ⟨"EditionEqual", "least", "(I)I"⟩ ∈ ez_T := ez_r3 (List.mem_of_getElem? (i := 86) rfl) rfl
theorem t_616 : Cond.instanceMethod ⟨"EditionEqual", "least", "(I)I"⟩ ∈ ez_T := ez_r3 (List.mem_of_getElem? (i := 87) rfl) rfl
theorem t_617 : Cond.selects "EditionEqual" ⟨"EditionEqual", "least", "(I)I"⟩ ⟨"EditionEqual", "least", "(I)I"⟩ ∈ ez_T := ez_r3 (List.mem_of_getElem? (i := 88) rfl) rfl
theorem t_618 : Cond.code ⟨"EditionEqual", "least", "(I)I"⟩ prog_1_method_11_code 2 (some .int) ∈ ez_T := ez_r3 (List.mem_of_getElem? (i := 89) rfl) rfl
theorem t_619 : Cond.methodLink "EditionEqual" 155 ⟨"EditionEqual$Behaviour", "countClasses", "(I)I"⟩ ∈ ez_T := ez_r3 (List.mem_of_getElem? (i := 90) rfl) rfl
theorem t_620 : Cond.instanceMethod ⟨"EditionEqual$Behaviour", "countClasses", "(I)I"⟩ ∈ ez_T := ez_r3 (List.mem_of_getElem? (i := 91) rfl) rfl
theorem t_621 : Cond.selects "EditionEqual$Behaviour" ⟨"EditionEqual$Behaviour", "countClasses", "(I)I"⟩ ⟨"EditionEqual$Behaviour", "countClasses", "(I)I"⟩ ∈ ez_T := ez_r3 (List.mem_of_getElem? (i := 92) rfl) rfl
theorem t_622 : Cond.code ⟨"EditionEqual$Behaviour", "countClasses", "(I)I"⟩ prog_2_method_16_code 7 (some .int) ∈ ez_T := ez_r3 (List.mem_of_getElem? (i := 93) rfl) rfl
theorem t_623 : Cond.methodLink "EditionEqual$Behaviour" 130 ⟨"java/util/Arrays", "fill", "([II)V"⟩ ∈ ez_T := ez_r3 (List.mem_of_getElem? (i := 94) rfl) rfl
theorem t_624 : Cond.methodLink "EditionEqual$Behaviour" 136 ⟨"EditionEqual$Behaviour", "partByOuts", "(I)I"⟩ ∈ ez_T := ez_r3 (List.mem_of_getElem? (i := 95) rfl) rfl
theorem t_626 : Cond.instanceMethod ⟨"EditionEqual$Behaviour", "partByOuts", "(I)I"⟩ ∈ ez_T := ez_r3 (List.mem_of_getElem? (i := 97) rfl) rfl
theorem t_627 : Cond.code ⟨"EditionEqual$Behaviour", "partByOuts", "(I)I"⟩ prog_2_method_17_code 3 (some .int) ∈ ez_T := ez_r3 (List.mem_of_getElem? (i := 98) rfl) rfl
theorem t_628 : Cond.methodLink "EditionEqual$Behaviour" 142 ⟨"EditionEqual$Behaviour", "outsOf", "(II)I"⟩ ∈ ez_T := ez_r3 (List.mem_of_getElem? (i := 99) rfl) rfl
theorem t_629 : Cond.methodLink "EditionEqual$Behaviour" 145 ⟨"EditionEqual$Behaviour", "partByKeys", "()I"⟩ ∈ ez_T := ez_r3 (List.mem_of_getElem? (i := 100) rfl) rfl
theorem t_631 : Cond.instanceMethod ⟨"EditionEqual$Behaviour", "partByKeys", "()I"⟩ ∈ ez_T := ez_r3 (List.mem_of_getElem? (i := 102) rfl) rfl
theorem t_632 : Cond.code ⟨"EditionEqual$Behaviour", "partByKeys", "()I"⟩ prog_2_method_19_code 4 (some .int) ∈ ez_T := ez_r3 (List.mem_of_getElem? (i := 103) rfl) rfl
theorem t_633 : Cond.methodLink "EditionEqual$Behaviour" 148 ⟨"EditionEqual$Behaviour", "firstLike", "(I)I"⟩ ∈ ez_T := ez_r3 (List.mem_of_getElem? (i := 104) rfl) rfl
theorem t_635 : Cond.instanceMethod ⟨"EditionEqual$Behaviour", "firstLike", "(I)I"⟩ ∈ ez_T := ez_r3 (List.mem_of_getElem? (i := 106) rfl) rfl
theorem t_636 : Cond.code ⟨"EditionEqual$Behaviour", "firstLike", "(I)I"⟩ prog_2_method_20_code 4 (some .int) ∈ ez_T := ez_r3 (List.mem_of_getElem? (i := 107) rfl) rfl
theorem t_640 : Cond.methodLink "EditionEqual$Behaviour" 139 ⟨"EditionEqual$Behaviour", "partByNextClass", "(I)I"⟩ ∈ ez_T := ez_r3 (List.mem_of_getElem? (i := 111) rfl) rfl
theorem t_642 : Cond.instanceMethod ⟨"EditionEqual$Behaviour", "partByNextClass", "(I)I"⟩ ∈ ez_T := ez_r3 (List.mem_of_getElem? (i := 113) rfl) rfl
theorem t_643 : Cond.code ⟨"EditionEqual$Behaviour", "partByNextClass", "(I)I"⟩ prog_2_method_18_code 4 (some .int) ∈ ez_T := ez_r3 (List.mem_of_getElem? (i := 114) rfl) rfl
theorem t_646 : Cond.codeWith ⟨"EditionEqualLaw", "compare", "(LEditionEqual;[J)I"⟩ method_13_code 3 (some .int) [(0, 8, 11, 15)] ∈ ez_T := ez_r3 (List.mem_of_getElem? (i := 117) rfl) rfl
theorem t_647 : Cond.methodLink "EditionEqualLaw" 48 ⟨"EditionEqual", "compare", "()I"⟩ ∈ ez_T := ez_r3 (List.mem_of_getElem? (i := 118) rfl) rfl
theorem t_648 : Cond.instanceMethod ⟨"EditionEqual", "compare", "()I"⟩ ∈ ez_T := ez_r3 (List.mem_of_getElem? (i := 119) rfl) rfl
theorem t_649 : Cond.selects "EditionEqual" ⟨"EditionEqual", "compare", "()I"⟩ ⟨"EditionEqual", "compare", "()I"⟩ ∈ ez_T := ez_r3 (List.mem_of_getElem? (i := 120) rfl) rfl
theorem t_650 : Cond.code ⟨"EditionEqual", "compare", "()I"⟩ prog_1_method_12_code 1 (some .int) ∈ ez_T := ez_r3 (List.mem_of_getElem? (i := 121) rfl) rfl
theorem t_651 : Cond.methodLink "EditionEqual" 158 ⟨"EditionEqual", "searchOfBoth", "()LEditionEqual$PairSearch;"⟩ ∈ ez_T := ez_r3 (List.mem_of_getElem? (i := 122) rfl) rfl
theorem t_653 : Cond.instanceMethod ⟨"EditionEqual", "searchOfBoth", "()LEditionEqual$PairSearch;"⟩ ∈ ez_T := ez_r3 (List.mem_of_getElem? (i := 124) rfl) rfl
theorem t_654 : Cond.code ⟨"EditionEqual", "searchOfBoth", "()LEditionEqual$PairSearch;"⟩ prog_1_method_22_code 1 (some (.object "EditionEqual$PairSearch")) ∈ ez_T := ez_r3 (List.mem_of_getElem? (i := 125) rfl) rfl
theorem t_655 : Cond.methodLink "EditionEqual" 181 ⟨"EditionEqual", "checkBothRight", "()V"⟩ ∈ ez_T := ez_r3 (List.mem_of_getElem? (i := 126) rfl) rfl
theorem t_657 : Cond.instanceMethod ⟨"EditionEqual", "checkBothRight", "()V"⟩ ∈ ez_T := ez_r3 (List.mem_of_getElem? (i := 128) rfl) rfl
theorem t_658 : Cond.code ⟨"EditionEqual", "checkBothRight", "()V"⟩ prog_1_method_27_code 1 none ∈ ez_T := ez_r3 (List.mem_of_getElem? (i := 129) rfl) rfl
theorem t_660 : Cond.methodLink "EditionEqual" 205 ⟨"EditionEqual$PairSearch", "learn", "(I)V"⟩ ∈ ez_T := ez_r3 (List.mem_of_getElem? (i := 131) rfl) rfl
theorem t_661 : Cond.instanceMethod ⟨"EditionEqual$PairSearch", "learn", "(I)V"⟩ ∈ ez_T := ez_r3 (List.mem_of_getElem? (i := 132) rfl) rfl
theorem t_662 : Cond.selects "EditionEqual$PairSearch" ⟨"EditionEqual$PairSearch", "learn", "(I)V"⟩ ⟨"EditionEqual$PairSearch", "learn", "(I)V"⟩ ∈ ez_T := ez_r3 (List.mem_of_getElem? (i := 133) rfl) rfl
theorem t_663 : Cond.code ⟨"EditionEqual$PairSearch", "learn", "(I)V"⟩ prog_5_method_3_code 3 none ∈ ez_T := ez_r3 (List.mem_of_getElem? (i := 134) rfl) rfl
theorem t_664 : Cond.methodLink "EditionEqual$PairSearch" 54 ⟨"java/util/Arrays", "fill", "([II)V"⟩ ∈ ez_T := ez_r3 (List.mem_of_getElem? (i := 135) rfl) rfl
theorem t_665 : Cond.methodLink "EditionEqual$PairSearch" 60 ⟨"EditionEqual$PairSearch", "meet", "(IIII)V"⟩ ∈ ez_T := ez_r3 (List.mem_of_getElem? (i := 136) rfl) rfl
theorem t_667 : Cond.instanceMethod ⟨"EditionEqual$PairSearch", "meet", "(IIII)V"⟩ ∈ ez_T := ez_r3 (List.mem_of_getElem? (i := 138) rfl) rfl
theorem t_668 : Cond.code ⟨"EditionEqual$PairSearch", "meet", "(IIII)V"⟩ prog_5_method_9_code 6 none ∈ ez_T := ez_r3 (List.mem_of_getElem? (i := 139) rfl) rfl
theorem t_669 : Cond.methodLinkNest "EditionEqual$PairSearch" 84 ⟨"EditionEqual", "isWithin", "(II)Z"⟩ "EditionEqual" ∈ ez_T := ez_r3 (List.mem_of_getElem? (i := 140) rfl) rfl
theorem t_670 : Cond.methodLinkNest "EditionEqual$PairSearch" 68 ⟨"EditionEqual", "holds", "(II)Z"⟩ "EditionEqual" ∈ ez_T := ez_r3 (List.mem_of_getElem? (i := 141) rfl) rfl
theorem t_671 : Cond.methodLinkNest "EditionEqual$PairSearch" 87 ⟨"EditionEqual", "bitOf", "(I)I"⟩ "EditionEqual" ∈ ez_T := ez_r3 (List.mem_of_getElem? (i := 142) rfl) rfl
theorem t_672 : Cond.methodLink "EditionEqual$PairSearch" 64 ⟨"EditionEqual$PairSearch", "goOnFrom", "(II)V"⟩ ∈ ez_T := ez_r3 (List.mem_of_getElem? (i := 143) rfl) rfl
theorem t_674 : Cond.instanceMethod ⟨"EditionEqual$PairSearch", "goOnFrom", "(II)V"⟩ ∈ ez_T := ez_r3 (List.mem_of_getElem? (i := 145) rfl) rfl
theorem t_675 : Cond.code ⟨"EditionEqual$PairSearch", "goOnFrom", "(II)V"⟩ prog_5_method_8_code 6 none ∈ ez_T := ez_r3 (List.mem_of_getElem? (i := 146) rfl) rfl
theorem t_676 : Cond.methodLink "EditionEqual$PairSearch" 72 ⟨"EditionEqual$Behaviour", "outsOf", "(II)I"⟩ ∈ ez_T := ez_r3 (List.mem_of_getElem? (i := 147) rfl) rfl
theorem t_677 : Cond.methodLink "EditionEqual$PairSearch" 78 ⟨"EditionEqual$PairSearch", "keepShown", "(II)V"⟩ ∈ ez_T := ez_r3 (List.mem_of_getElem? (i := 148) rfl) rfl
theorem t_679 : Cond.instanceMethod ⟨"EditionEqual$PairSearch", "keepShown", "(II)V"⟩ ∈ ez_T := ez_r3 (List.mem_of_getElem? (i := 150) rfl) rfl
theorem t_680 : Cond.code ⟨"EditionEqual$PairSearch", "keepShown", "(II)V"⟩ prog_5_method_10_code 4 none ∈ ez_T := ez_r3 (List.mem_of_getElem? (i := 151) rfl) rfl
theorem t_681 : Cond.methodLink "EditionEqual$PairSearch" 81 ⟨"EditionEqual$Behaviour", "stateAfter", "(II)I"⟩ ∈ ez_T := ez_r3 (List.mem_of_getElem? (i := 152) rfl) rfl
theorem t_682 : Cond.methodLink "EditionEqual" 162 ⟨"EditionEqual$PairSearch", "countShown", "()I"⟩ ∈ ez_T := ez_r3 (List.mem_of_getElem? (i := 153) rfl) rfl
theorem t_683 : Cond.instanceMethod ⟨"EditionEqual$PairSearch", "countShown", "()I"⟩ ∈ ez_T := ez_r3 (List.mem_of_getElem? (i := 154) rfl) rfl
theorem t_684 : Cond.selects "EditionEqual$PairSearch" ⟨"EditionEqual$PairSearch", "countShown", "()I"⟩ ⟨"EditionEqual$PairSearch", "countShown", "()I"⟩ ∈ ez_T := ez_r3 (List.mem_of_getElem? (i := 155) rfl) rfl
theorem t_685 : Cond.code ⟨"EditionEqual$PairSearch", "countShown", "()I"⟩ prog_5_method_5_code 1 (some .int) ∈ ez_T := ez_r3 (List.mem_of_getElem? (i := 156) rfl) rfl
theorem t_688 : Cond.codeWith ⟨"EditionEqualLaw", "shown", "(LEditionEqual;I[J)I"⟩ method_14_code 4 (some .int) [(0, 9, 12, 13), (0, 9, 15, 15)] ∈ ez_T := ez_r3 (List.mem_of_getElem? (i := 159) rfl) rfl
theorem t_689 : Cond.methodLink "EditionEqualLaw" 52 ⟨"EditionEqual", "shown", "(I)I"⟩ ∈ ez_T := ez_r3 (List.mem_of_getElem? (i := 160) rfl) rfl
theorem t_690 : Cond.instanceMethod ⟨"EditionEqual", "shown", "(I)I"⟩ ∈ ez_T := ez_r3 (List.mem_of_getElem? (i := 161) rfl) rfl
theorem t_691 : Cond.selects "EditionEqual" ⟨"EditionEqual", "shown", "(I)I"⟩ ⟨"EditionEqual", "shown", "(I)I"⟩ ∈ ez_T := ez_r3 (List.mem_of_getElem? (i := 162) rfl) rfl
theorem t_692 : Cond.code ⟨"EditionEqual", "shown", "(I)I"⟩ prog_1_method_13_code 3 (some .int) ∈ ez_T := ez_r3 (List.mem_of_getElem? (i := 163) rfl) rfl
theorem t_695 : Cond.methodLink "EditionEqual" 169 ⟨"EditionEqual$PairSearch", "shownRow", "(I)I"⟩ ∈ ez_T := ez_r3 (List.mem_of_getElem? (i := 166) rfl) rfl
theorem t_696 : Cond.instanceMethod ⟨"EditionEqual$PairSearch", "shownRow", "(I)I"⟩ ∈ ez_T := ez_r3 (List.mem_of_getElem? (i := 167) rfl) rfl
theorem t_697 : Cond.selects "EditionEqual$PairSearch" ⟨"EditionEqual$PairSearch", "shownRow", "(I)I"⟩ ⟨"EditionEqual$PairSearch", "shownRow", "(I)I"⟩ ∈ ez_T := ez_r3 (List.mem_of_getElem? (i := 168) rfl) rfl
theorem t_698 : Cond.code ⟨"EditionEqual$PairSearch", "shownRow", "(I)I"⟩ prog_5_method_6_code 4 (some .int) ∈ ez_T := ez_r3 (List.mem_of_getElem? (i := 169) rfl) rfl
theorem t_701 : Cond.codeWith ⟨"EditionEqualLaw", "last", "(LEditionEqual;I[J)I"⟩ method_15_code 4 (some .int) [(0, 9, 12, 13), (0, 9, 15, 15)] ∈ ez_T := ez_r3 (List.mem_of_getElem? (i := 172) rfl) rfl
theorem t_702 : Cond.methodLink "EditionEqualLaw" 55 ⟨"EditionEqual", "last", "(I)I"⟩ ∈ ez_T := ez_r3 (List.mem_of_getElem? (i := 173) rfl) rfl
theorem t_703 : Cond.instanceMethod ⟨"EditionEqual", "last", "(I)I"⟩ ∈ ez_T := ez_r3 (List.mem_of_getElem? (i := 174) rfl) rfl
theorem t_704 : Cond.selects "EditionEqual" ⟨"EditionEqual", "last", "(I)I"⟩ ⟨"EditionEqual", "last", "(I)I"⟩ ∈ ez_T := ez_r3 (List.mem_of_getElem? (i := 175) rfl) rfl
theorem t_705 : Cond.code ⟨"EditionEqual", "last", "(I)I"⟩ prog_1_method_14_code 2 (some .int) ∈ ez_T := ez_r3 (List.mem_of_getElem? (i := 176) rfl) rfl
theorem t_706 : Cond.methodLink "EditionEqual" 175 ⟨"EditionEqual$PairSearch", "lastOuts", "(I)I"⟩ ∈ ez_T := ez_r3 (List.mem_of_getElem? (i := 177) rfl) rfl
theorem t_707 : Cond.instanceMethod ⟨"EditionEqual$PairSearch", "lastOuts", "(I)I"⟩ ∈ ez_T := ez_r3 (List.mem_of_getElem? (i := 178) rfl) rfl
theorem t_708 : Cond.selects "EditionEqual$PairSearch" ⟨"EditionEqual$PairSearch", "lastOuts", "(I)I"⟩ ⟨"EditionEqual$PairSearch", "lastOuts", "(I)I"⟩ ∈ ez_T := ez_r3 (List.mem_of_getElem? (i := 179) rfl) rfl
theorem t_709 : Cond.code ⟨"EditionEqual$PairSearch", "lastOuts", "(I)I"⟩ prog_5_method_7_code 2 (some .int) ∈ ez_T := ez_r3 (List.mem_of_getElem? (i := 180) rfl) rfl
theorem t_712 : Cond.codeWith ⟨"EditionEqualLaw", "pairs", "(LEditionEqual;[J)I"⟩ method_16_code 3 (some .int) [(0, 8, 11, 15)] ∈ ez_T := ez_r3 (List.mem_of_getElem? (i := 183) rfl) rfl
theorem t_713 : Cond.methodLink "EditionEqualLaw" 58 ⟨"EditionEqual", "pairs", "()I"⟩ ∈ ez_T := ez_r3 (List.mem_of_getElem? (i := 184) rfl) rfl
theorem t_714 : Cond.instanceMethod ⟨"EditionEqual", "pairs", "()I"⟩ ∈ ez_T := ez_r3 (List.mem_of_getElem? (i := 185) rfl) rfl
theorem t_715 : Cond.selects "EditionEqual" ⟨"EditionEqual", "pairs", "()I"⟩ ⟨"EditionEqual", "pairs", "()I"⟩ ∈ ez_T := ez_r3 (List.mem_of_getElem? (i := 186) rfl) rfl
theorem t_716 : Cond.code ⟨"EditionEqual", "pairs", "()I"⟩ prog_1_method_15_code 1 (some .int) ∈ ez_T := ez_r3 (List.mem_of_getElem? (i := 187) rfl) rfl
theorem t_717 : Cond.methodLink "EditionEqual" 178 ⟨"EditionEqual$PairSearch", "countPairs", "()I"⟩ ∈ ez_T := ez_r3 (List.mem_of_getElem? (i := 188) rfl) rfl
theorem t_718 : Cond.instanceMethod ⟨"EditionEqual$PairSearch", "countPairs", "()I"⟩ ∈ ez_T := ez_r3 (List.mem_of_getElem? (i := 189) rfl) rfl
theorem t_719 : Cond.selects "EditionEqual$PairSearch" ⟨"EditionEqual$PairSearch", "countPairs", "()I"⟩ ⟨"EditionEqual$PairSearch", "countPairs", "()I"⟩ ∈ ez_T := ez_r3 (List.mem_of_getElem? (i := 190) rfl) rfl
theorem t_720 : Cond.code ⟨"EditionEqual$PairSearch", "countPairs", "()I"⟩ prog_5_method_4_code 1 (some .int) ∈ ez_T := ez_r3 (List.mem_of_getElem? (i := 191) rfl) rfl
theorem t_723 : Cond.codeWith ⟨"EditionEqualLaw", "same", "(LEditionEqual;[J)I"⟩ method_17_code 3 (some .int) [(0, 15, 18, 15)] ∈ ez_T := ez_r3 (List.mem_of_getElem? (i := 194) rfl) rfl
theorem t_724 : Cond.methodLink "EditionEqualLaw" 61 ⟨"EditionEqual", "same", "()Z"⟩ ∈ ez_T := ez_r3 (List.mem_of_getElem? (i := 195) rfl) rfl
theorem t_725 : Cond.instanceMethod ⟨"EditionEqual", "same", "()Z"⟩ ∈ ez_T := ez_r3 (List.mem_of_getElem? (i := 196) rfl) rfl
theorem t_726 : Cond.selects "EditionEqual" ⟨"EditionEqual", "same", "()Z"⟩ ⟨"EditionEqual", "same", "()Z"⟩ ∈ ez_T := ez_r3 (List.mem_of_getElem? (i := 197) rfl) rfl
theorem t_727 : Cond.code ⟨"EditionEqual", "same", "()Z"⟩ prog_1_method_16_code 1 (some .boolean) ∈ ez_T := ez_r3 (List.mem_of_getElem? (i := 198) rfl) rfl
theorem t_728 : Cond.methodLink "EditionEqual" 184 ⟨"EditionEqual$Matching", "matchAll", "()Z"⟩ ∈ ez_T := ez_r3 (List.mem_of_getElem? (i := 199) rfl) rfl
theorem t_729 : Cond.instanceMethod ⟨"EditionEqual$Matching", "matchAll", "()Z"⟩ ∈ ez_T := ez_r3 (List.mem_of_getElem? (i := 200) rfl) rfl
theorem t_730 : Cond.selects "EditionEqual$Matching" ⟨"EditionEqual$Matching", "matchAll", "()Z"⟩ ⟨"EditionEqual$Matching", "matchAll", "()Z"⟩ ∈ ez_T := ez_r3 (List.mem_of_getElem? (i := 201) rfl) rfl
theorem t_731 : Cond.code ⟨"EditionEqual$Matching", "matchAll", "()Z"⟩ prog_4_method_2_code 5 (some .boolean) ∈ ez_T := ez_r3 (List.mem_of_getElem? (i := 202) rfl) rfl
theorem t_732 : Cond.methodLink "EditionEqual$Matching" 32 ⟨"java/util/Arrays", "fill", "([II)V"⟩ ∈ ez_T := ez_r3 (List.mem_of_getElem? (i := 203) rfl) rfl
theorem t_733 : Cond.methodLink "EditionEqual$Matching" 38 ⟨"EditionEqual$Edition", "outputAt", "(I)I"⟩ ∈ ez_T := ez_r3 (List.mem_of_getElem? (i := 204) rfl) rfl
theorem t_734 : Cond.methodLink "EditionEqual$Matching" 44 ⟨"EditionEqual$Matching", "matchBoth", "(II)Z"⟩ ∈ ez_T := ez_r3 (List.mem_of_getElem? (i := 205) rfl) rfl
theorem t_736 : Cond.instanceMethod ⟨"EditionEqual$Matching", "matchBoth", "(II)Z"⟩ ∈ ez_T := ez_r3 (List.mem_of_getElem? (i := 207) rfl) rfl
theorem t_737 : Cond.code ⟨"EditionEqual$Matching", "matchBoth", "(II)Z"⟩ prog_4_method_4_code 4 (some .boolean) ∈ ez_T := ez_r3 (List.mem_of_getElem? (i := 208) rfl) rfl
theorem t_738 : Cond.methodLinkNest "EditionEqual$Matching" 55 ⟨"EditionEqual", "isWithin", "(II)Z"⟩ "EditionEqual" ∈ ez_T := ez_r3 (List.mem_of_getElem? (i := 209) rfl) rfl
theorem t_739 : Cond.methodLink "EditionEqual$Matching" 58 ⟨"EditionEqual$Matching", "areOfOneSort", "(II)Z"⟩ ∈ ez_T := ez_r3 (List.mem_of_getElem? (i := 210) rfl) rfl
theorem t_741 : Cond.instanceMethod ⟨"EditionEqual$Matching", "areOfOneSort", "(II)Z"⟩ ∈ ez_T := ez_r3 (List.mem_of_getElem? (i := 212) rfl) rfl
theorem t_742 : Cond.code ⟨"EditionEqual$Matching", "areOfOneSort", "(II)Z"⟩ prog_4_method_5_code 5 (some .boolean) ∈ ez_T := ez_r3 (List.mem_of_getElem? (i := 213) rfl) rfl
theorem t_743 : Cond.methodLink "EditionEqual$Matching" 61 ⟨"EditionEqual$Edition", "kindOf", "(I)I"⟩ ∈ ez_T := ez_r3 (List.mem_of_getElem? (i := 214) rfl) rfl
theorem t_744 : Cond.methodLink "EditionEqual$Matching" 64 ⟨"EditionEqual$Edition", "numberOf", "(I)I"⟩ ∈ ez_T := ez_r3 (List.mem_of_getElem? (i := 215) rfl) rfl
theorem t_745 : Cond.methodLink "EditionEqual$Matching" 48 ⟨"EditionEqual$Matching", "partnerOf", "(I)I"⟩ ∈ ez_T := ez_r3 (List.mem_of_getElem? (i := 216) rfl) rfl
theorem t_746 : Cond.instanceMethod ⟨"EditionEqual$Matching", "partnerOf", "(I)I"⟩ ∈ ez_T := ez_r3 (List.mem_of_getElem? (i := 217) rfl) rfl
theorem t_747 : Cond.selects "EditionEqual$Matching" ⟨"EditionEqual$Matching", "partnerOf", "(I)I"⟩ ⟨"EditionEqual$Matching", "partnerOf", "(I)I"⟩ ∈ ez_T := ez_r3 (List.mem_of_getElem? (i := 218) rfl) rfl
theorem t_748 : Cond.code ⟨"EditionEqual$Matching", "partnerOf", "(I)I"⟩ prog_4_method_3_code 2 (some .int) ∈ ez_T := ez_r3 (List.mem_of_getElem? (i := 219) rfl) rfl
theorem t_749 : Cond.methodLink "EditionEqual$Matching" 51 ⟨"EditionEqual$Edition", "neededAt", "(II)I"⟩ ∈ ez_T := ez_r3 (List.mem_of_getElem? (i := 220) rfl) rfl
theorem t_752 : Cond.codeWith ⟨"EditionEqualLaw", "matched", "(LEditionEqual;I[J)I"⟩ method_18_code 4 (some .int) [(0, 9, 12, 13), (0, 9, 15, 15)] ∈ ez_T := ez_r3 (List.mem_of_getElem? (i := 223) rfl) rfl
theorem t_753 : Cond.methodLink "EditionEqualLaw" 65 ⟨"EditionEqual", "matched", "(I)I"⟩ ∈ ez_T := ez_r3 (List.mem_of_getElem? (i := 224) rfl) rfl
theorem t_754 : Cond.instanceMethod ⟨"EditionEqual", "matched", "(I)I"⟩ ∈ ez_T := ez_r3 (List.mem_of_getElem? (i := 225) rfl) rfl
theorem t_755 : Cond.selects "EditionEqual" ⟨"EditionEqual", "matched", "(I)I"⟩ ⟨"EditionEqual", "matched", "(I)I"⟩ ∈ ez_T := ez_r3 (List.mem_of_getElem? (i := 226) rfl) rfl
theorem t_756 : Cond.code ⟨"EditionEqual", "matched", "(I)I"⟩ prog_1_method_17_code 2 (some .int) ∈ ez_T := ez_r3 (List.mem_of_getElem? (i := 227) rfl) rfl
theorem t_757 : Cond.methodLink "EditionEqual" 188 ⟨"EditionEqual$Matching", "partnerOf", "(I)I"⟩ ∈ ez_T := ez_r3 (List.mem_of_getElem? (i := 228) rfl) rfl
theorem t_760 : Cond.codeWith ⟨"EditionEqualLaw", "idle", "(LEditionEqual;II[J)I"⟩ method_19_code 5 (some .int) [(0, 10, 13, 13)] ∈ ez_T := ez_r3 (List.mem_of_getElem? (i := 231) rfl) rfl
theorem t_761 : Cond.methodLink "EditionEqualLaw" 68 ⟨"EditionEqual", "idle", "(II)I"⟩ ∈ ez_T := ez_r3 (List.mem_of_getElem? (i := 232) rfl) rfl
theorem t_762 : Cond.instanceMethod ⟨"EditionEqual", "idle", "(II)I"⟩ ∈ ez_T := ez_r3 (List.mem_of_getElem? (i := 233) rfl) rfl
theorem t_763 : Cond.selects "EditionEqual" ⟨"EditionEqual", "idle", "(II)I"⟩ ⟨"EditionEqual", "idle", "(II)I"⟩ ∈ ez_T := ez_r3 (List.mem_of_getElem? (i := 234) rfl) rfl
theorem t_764 : Cond.code ⟨"EditionEqual", "idle", "(II)I"⟩ prog_1_method_18_code 4 (some .int) ∈ ez_T := ez_r3 (List.mem_of_getElem? (i := 235) rfl) rfl
theorem t_766 : Cond.methodLink "EditionEqual" 193 ⟨"EditionEqual$Edition", "idleAt", "(I)I"⟩ ∈ ez_T := ez_r3 (List.mem_of_getElem? (i := 237) rfl) rfl
theorem t_767 : Cond.instanceMethod ⟨"EditionEqual$Edition", "idleAt", "(I)I"⟩ ∈ ez_T := ez_r3 (List.mem_of_getElem? (i := 238) rfl) rfl
theorem t_768 : Cond.selects "EditionEqual$Edition" ⟨"EditionEqual$Edition", "idleAt", "(I)I"⟩ ⟨"EditionEqual$Edition", "idleAt", "(I)I"⟩ ∈ ez_T := ez_r3 (List.mem_of_getElem? (i := 239) rfl) rfl
theorem t_769 : Cond.code ⟨"EditionEqual$Edition", "idleAt", "(I)I"⟩ prog_3_method_20_code 5 (some .int) ∈ ez_T := ez_r4 (List.mem_of_getElem? (i := 0) rfl) rfl
theorem t_770 : Cond.methodLink "EditionEqual$Edition" 87 ⟨"EditionEqual$Edition", "liveBlocks", "()I"⟩ ∈ ez_T := ez_r4 (List.mem_of_getElem? (i := 1) rfl) rfl
theorem t_772 : Cond.instanceMethod ⟨"EditionEqual$Edition", "liveBlocks", "()I"⟩ ∈ ez_T := ez_r4 (List.mem_of_getElem? (i := 3) rfl) rfl
theorem t_773 : Cond.code ⟨"EditionEqual$Edition", "liveBlocks", "()I"⟩ prog_3_method_21_code 6 (some .int) ∈ ez_T := ez_r4 (List.mem_of_getElem? (i := 4) rfl) rfl
theorem t_776 : Cond.codeWith ⟨"EditionEqualLaw", "blocks", "(LEditionEqual;I[J)I"⟩ method_20_code 4 (some .int) [(0, 9, 12, 13)] ∈ ez_T := ez_r4 (List.mem_of_getElem? (i := 7) rfl) rfl
theorem t_777 : Cond.methodLink "EditionEqualLaw" 71 ⟨"EditionEqual", "blocks", "(I)I"⟩ ∈ ez_T := ez_r4 (List.mem_of_getElem? (i := 8) rfl) rfl
theorem t_778 : Cond.instanceMethod ⟨"EditionEqual", "blocks", "(I)I"⟩ ∈ ez_T := ez_r4 (List.mem_of_getElem? (i := 9) rfl) rfl
theorem t_779 : Cond.selects "EditionEqual" ⟨"EditionEqual", "blocks", "(I)I"⟩ ⟨"EditionEqual", "blocks", "(I)I"⟩ ∈ ez_T := ez_r4 (List.mem_of_getElem? (i := 10) rfl) rfl
theorem t_780 : Cond.code ⟨"EditionEqual", "blocks", "(I)I"⟩ prog_1_method_19_code 2 (some .int) ∈ ez_T := ez_r4 (List.mem_of_getElem? (i := 11) rfl) rfl
theorem t_781 : Cond.methodLink "EditionEqual" 196 ⟨"EditionEqual$Edition", "countBlocks", "()I"⟩ ∈ ez_T := ez_r4 (List.mem_of_getElem? (i := 12) rfl) rfl
theorem t_782 : Cond.classLink "EditionEqualLaw" 83 "EditionEqualModel" ∈ ez_T := ez_r4 (List.mem_of_getElem? (i := 13) rfl) rfl
theorem t_786 : Cond.code ⟨"EditionEqualModel", "<init>", "(I)V"⟩ prog_7_method_1_code 3 none ∈ ez_T := ez_r4 (List.mem_of_getElem? (i := 17) rfl) rfl
theorem t_788 : Cond.fieldLink "EditionEqualModel" 66 "EditionEqualModel" "thrown" "I" ∈ ez_T := ez_r4 (List.mem_of_getElem? (i := 19) rfl) rfl
theorem t_789 : Cond.fieldLink "EditionEqualModel" 62 "EditionEqualModel" "points" "I" ∈ ez_T := ez_r4 (List.mem_of_getElem? (i := 20) rfl) rfl
theorem t_790 : Cond.fieldLink "EditionEqualModel" 7 "EditionEqualModel" "barred" "[Z" ∈ ez_T := ez_r4 (List.mem_of_getElem? (i := 21) rfl) rfl
theorem t_791 : Cond.fieldLink "EditionEqualModel" 13 "EditionEqualModel" "counts" "[I" ∈ ez_T := ez_r4 (List.mem_of_getElem? (i := 22) rfl) rfl
theorem t_792 : Cond.fieldLink "EditionEqualModel" 17 "EditionEqualModel" "kinds" "[I" ∈ ez_T := ez_r4 (List.mem_of_getElem? (i := 23) rfl) rfl
theorem t_793 : Cond.fieldLink "EditionEqualModel" 20 "EditionEqualModel" "numbers" "[I" ∈ ez_T := ez_r4 (List.mem_of_getElem? (i := 24) rfl) rfl
theorem t_794 : Cond.fieldLink "EditionEqualModel" 23 "EditionEqualModel" "firsts" "[I" ∈ ez_T := ez_r4 (List.mem_of_getElem? (i := 25) rfl) rfl
theorem t_795 : Cond.fieldLink "EditionEqualModel" 26 "EditionEqualModel" "seconds" "[I" ∈ ez_T := ez_r4 (List.mem_of_getElem? (i := 26) rfl) rfl
theorem t_796 : Cond.fieldLink "EditionEqualModel" 29 "EditionEqualModel" "outs" "[I" ∈ ez_T := ez_r4 (List.mem_of_getElem? (i := 27) rfl) rfl
theorem t_797 : Cond.fieldLink "EditionEqualModel" 32 "EditionEqualModel" "come" "[Z" ∈ ez_T := ez_r4 (List.mem_of_getElem? (i := 28) rfl) rfl
theorem t_798 : Cond.fieldLink "EditionEqualModel" 35 "EditionEqualModel" "values" "[I" ∈ ez_T := ez_r4 (List.mem_of_getElem? (i := 29) rfl) rfl
theorem t_799 : Cond.fieldLink "EditionEqualModel" 38 "EditionEqualModel" "table" "[I" ∈ ez_T := ez_r4 (List.mem_of_getElem? (i := 30) rfl) rfl
theorem t_800 : Cond.fieldLink "EditionEqualModel" 41 "EditionEqualModel" "reached" "[Z" ∈ ez_T := ez_r4 (List.mem_of_getElem? (i := 31) rfl) rfl
theorem t_801 : Cond.fieldLink "EditionEqualModel" 44 "EditionEqualModel" "apart" "[Z" ∈ ez_T := ez_r4 (List.mem_of_getElem? (i := 32) rfl) rfl
theorem t_802 : Cond.fieldLink "EditionEqualModel" 129 "EditionEqualModel" "pairCount" "I" ∈ ez_T := ez_r4 (List.mem_of_getElem? (i := 33) rfl) rfl
theorem t_803 : Cond.fieldLink "EditionEqualModel" 47 "EditionEqualModel" "pairs" "[I" ∈ ez_T := ez_r4 (List.mem_of_getElem? (i := 34) rfl) rfl
theorem t_804 : Cond.fieldLink "EditionEqualModel" 50 "EditionEqualModel" "cameFrom" "[I" ∈ ez_T := ez_r4 (List.mem_of_getElem? (i := 35) rfl) rfl
theorem t_805 : Cond.fieldLink "EditionEqualModel" 53 "EditionEqualModel" "cameBy" "[I" ∈ ez_T := ez_r4 (List.mem_of_getElem? (i := 36) rfl) rfl
theorem t_806 : Cond.fieldLink "EditionEqualModel" 56 "EditionEqualModel" "seen" "[Z" ∈ ez_T := ez_r4 (List.mem_of_getElem? (i := 37) rfl) rfl
theorem t_807 : Cond.fieldLink "EditionEqualModel" 132 "EditionEqualModel" "differsAt" "I" ∈ ez_T := ez_r4 (List.mem_of_getElem? (i := 38) rfl) rfl
theorem t_808 : Cond.fieldLink "EditionEqualModel" 138 "EditionEqualModel" "differsBy" "I" ∈ ez_T := ez_r4 (List.mem_of_getElem? (i := 39) rfl) rfl
theorem t_809 : Cond.fieldLink "EditionEqualModel" 59 "EditionEqualModel" "match" "[Z" ∈ ez_T := ez_r4 (List.mem_of_getElem? (i := 40) rfl) rfl
theorem t_810 : Cond.lays "EditionEqualModel" "EditionEqualModel" "thrown" "I" ∈ ez_T := ez_r4 (List.mem_of_getElem? (i := 41) rfl) rfl
theorem t_812 : Cond.laysFinal "EditionEqualModel" "EditionEqualModel" "points" "I" ∈ ez_T := ez_r4 (List.mem_of_getElem? (i := 43) rfl) rfl
theorem t_814 : Cond.laysFinal "EditionEqualModel" "EditionEqualModel" "barred" "[Z" ∈ ez_T := ez_r4 (List.mem_of_getElem? (i := 45) rfl) rfl
theorem t_816 : Cond.laysFinal "EditionEqualModel" "EditionEqualModel" "counts" "[I" ∈ ez_T := ez_r4 (List.mem_of_getElem? (i := 47) rfl) rfl
theorem t_818 : Cond.laysFinal "EditionEqualModel" "EditionEqualModel" "kinds" "[I" ∈ ez_T := ez_r4 (List.mem_of_getElem? (i := 49) rfl) rfl
theorem t_820 : Cond.laysFinal "EditionEqualModel" "EditionEqualModel" "numbers" "[I" ∈ ez_T := ez_r4 (List.mem_of_getElem? (i := 51) rfl) rfl
theorem t_822 : Cond.laysFinal "EditionEqualModel" "EditionEqualModel" "firsts" "[I" ∈ ez_T := ez_r4 (List.mem_of_getElem? (i := 53) rfl) rfl
theorem t_824 : Cond.laysFinal "EditionEqualModel" "EditionEqualModel" "seconds" "[I" ∈ ez_T := ez_r4 (List.mem_of_getElem? (i := 55) rfl) rfl
theorem t_826 : Cond.laysFinal "EditionEqualModel" "EditionEqualModel" "outs" "[I" ∈ ez_T := ez_r4 (List.mem_of_getElem? (i := 57) rfl) rfl
theorem t_828 : Cond.laysFinal "EditionEqualModel" "EditionEqualModel" "come" "[Z" ∈ ez_T := ez_r4 (List.mem_of_getElem? (i := 59) rfl) rfl
theorem t_830 : Cond.laysFinal "EditionEqualModel" "EditionEqualModel" "values" "[I" ∈ ez_T := ez_r4 (List.mem_of_getElem? (i := 61) rfl) rfl
theorem t_832 : Cond.laysFinal "EditionEqualModel" "EditionEqualModel" "table" "[I" ∈ ez_T := ez_r4 (List.mem_of_getElem? (i := 63) rfl) rfl
theorem t_834 : Cond.laysFinal "EditionEqualModel" "EditionEqualModel" "reached" "[Z" ∈ ez_T := ez_r4 (List.mem_of_getElem? (i := 65) rfl) rfl
theorem t_836 : Cond.laysFinal "EditionEqualModel" "EditionEqualModel" "apart" "[Z" ∈ ez_T := ez_r4 (List.mem_of_getElem? (i := 67) rfl) rfl
theorem t_838 : Cond.lays "EditionEqualModel" "EditionEqualModel" "pairCount" "I" ∈ ez_T := ez_r4 (List.mem_of_getElem? (i := 69) rfl) rfl
theorem t_840 : Cond.laysFinal "EditionEqualModel" "EditionEqualModel" "pairs" "[I" ∈ ez_T := ez_r4 (List.mem_of_getElem? (i := 71) rfl) rfl
theorem t_842 : Cond.laysFinal "EditionEqualModel" "EditionEqualModel" "cameFrom" "[I" ∈ ez_T := ez_r4 (List.mem_of_getElem? (i := 73) rfl) rfl
theorem t_844 : Cond.laysFinal "EditionEqualModel" "EditionEqualModel" "cameBy" "[I" ∈ ez_T := ez_r4 (List.mem_of_getElem? (i := 75) rfl) rfl
theorem t_846 : Cond.laysFinal "EditionEqualModel" "EditionEqualModel" "seen" "[Z" ∈ ez_T := ez_r4 (List.mem_of_getElem? (i := 77) rfl) rfl
theorem t_848 : Cond.lays "EditionEqualModel" "EditionEqualModel" "differsAt" "I" ∈ ez_T := ez_r4 (List.mem_of_getElem? (i := 79) rfl) rfl
theorem t_850 : Cond.lays "EditionEqualModel" "EditionEqualModel" "differsBy" "I" ∈ ez_T := ez_r4 (List.mem_of_getElem? (i := 81) rfl) rfl
theorem t_852 : Cond.laysFinal "EditionEqualModel" "EditionEqualModel" "match" "[Z" ∈ ez_T := ez_r4 (List.mem_of_getElem? (i := 83) rfl) rfl
theorem t_859 : Cond.code ⟨"EditionEqualModel", "thrown", "()I"⟩ prog_7_method_2_code 1 (some .int) ∈ ez_T := ez_r4 (List.mem_of_getElem? (i := 90) rfl) rfl
theorem t_863 : Cond.code ⟨"EditionEqualModel", "block", "(III)I"⟩ prog_7_method_10_code 6 (some .int) ∈ ez_T := ez_r4 (List.mem_of_getElem? (i := 94) rfl) rfl
theorem t_864 : Cond.methodLink "EditionEqualModel" 69 ⟨"EditionEqualModel", "in", "(III)Z"⟩ ∈ ez_T := ez_r4 (List.mem_of_getElem? (i := 95) rfl) rfl
theorem t_865 : Cond.static ⟨"EditionEqualModel", "in", "(III)Z"⟩ ∈ ez_T := ez_r4 (List.mem_of_getElem? (i := 96) rfl) rfl
theorem t_866 : Cond.code ⟨"EditionEqualModel", "in", "(III)Z"⟩ prog_7_method_3_code 3 (some .boolean) ∈ ez_T := ez_r4 (List.mem_of_getElem? (i := 97) rfl) rfl
theorem t_867 : Cond.methodLink "EditionEqualModel" 73 ⟨"EditionEqualModel", "delays", "(I)I"⟩ ∈ ez_T := ez_r4 (List.mem_of_getElem? (i := 98) rfl) rfl
theorem t_869 : Cond.instanceMethod ⟨"EditionEqualModel", "delays", "(I)I"⟩ ∈ ez_T := ez_r4 (List.mem_of_getElem? (i := 100) rfl) rfl
theorem t_870 : Cond.code ⟨"EditionEqualModel", "delays", "(I)I"⟩ prog_7_method_9_code 4 (some .int) ∈ ez_T := ez_r4 (List.mem_of_getElem? (i := 101) rfl) rfl
theorem t_871 : Cond.methodLink "EditionEqualModel" 77 ⟨"EditionEqualModel", "goes", "(ZZ)Z"⟩ ∈ ez_T := ez_r4 (List.mem_of_getElem? (i := 102) rfl) rfl
theorem t_873 : Cond.instanceMethod ⟨"EditionEqualModel", "goes", "(ZZ)Z"⟩ ∈ ez_T := ez_r4 (List.mem_of_getElem? (i := 104) rfl) rfl
theorem t_874 : Cond.code ⟨"EditionEqualModel", "goes", "(ZZ)Z"⟩ prog_7_method_4_code 3 (some .boolean) ∈ ez_T := ez_r4 (List.mem_of_getElem? (i := 105) rfl) rfl
theorem t_878 : Cond.code ⟨"EditionEqualModel", "wire", "(IIII)I"⟩ prog_7_method_11_code 7 (some .int) ∈ ez_T := ez_r4 (List.mem_of_getElem? (i := 109) rfl) rfl
theorem t_879 : Cond.methodLink "EditionEqualModel" 81 ⟨"EditionEqualModel", "isBlock", "(II)Z"⟩ ∈ ez_T := ez_r4 (List.mem_of_getElem? (i := 110) rfl) rfl
theorem t_881 : Cond.instanceMethod ⟨"EditionEqualModel", "isBlock", "(II)Z"⟩ ∈ ez_T := ez_r4 (List.mem_of_getElem? (i := 112) rfl) rfl
theorem t_882 : Cond.code ⟨"EditionEqualModel", "isBlock", "(II)Z"⟩ prog_7_method_5_code 3 (some .boolean) ∈ ez_T := ez_r4 (List.mem_of_getElem? (i := 113) rfl) rfl
theorem t_883 : Cond.methodLink "EditionEqualModel" 85 ⟨"EditionEqualModel", "input", "(III)I"⟩ ∈ ez_T := ez_r4 (List.mem_of_getElem? (i := 114) rfl) rfl
theorem t_885 : Cond.instanceMethod ⟨"EditionEqualModel", "input", "(III)I"⟩ ∈ ez_T := ez_r4 (List.mem_of_getElem? (i := 116) rfl) rfl
theorem t_886 : Cond.code ⟨"EditionEqualModel", "input", "(III)I"⟩ prog_7_method_8_code 4 (some .int) ∈ ez_T := ez_r4 (List.mem_of_getElem? (i := 117) rfl) rfl
theorem t_890 : Cond.code ⟨"EditionEqualModel", "out", "(III)I"⟩ prog_7_method_12_code 5 (some .int) ∈ ez_T := ez_r4 (List.mem_of_getElem? (i := 121) rfl) rfl
theorem t_894 : Cond.code ⟨"EditionEqualModel", "bar", "(IZ)Z"⟩ prog_7_method_13_code 4 (some .boolean) ∈ ez_T := ez_r4 (List.mem_of_getElem? (i := 125) rfl) rfl
theorem t_895 : Cond.methodLink "EditionEqualModel" 89 ⟨"EditionEqualModel", "isRow", "(I)Z"⟩ ∈ ez_T := ez_r4 (List.mem_of_getElem? (i := 126) rfl) rfl
theorem t_897 : Cond.instanceMethod ⟨"EditionEqualModel", "isRow", "(I)Z"⟩ ∈ ez_T := ez_r4 (List.mem_of_getElem? (i := 128) rfl) rfl
theorem t_898 : Cond.code ⟨"EditionEqualModel", "isRow", "(I)Z"⟩ prog_7_method_6_code 2 (some .boolean) ∈ ez_T := ez_r4 (List.mem_of_getElem? (i := 129) rfl) rfl
theorem t_902 : Cond.code ⟨"EditionEqualModel", "wrong", "(I)I"⟩ prog_7_method_17_code 2 (some .int) ∈ ez_T := ez_r4 (List.mem_of_getElem? (i := 133) rfl) rfl
theorem t_903 : Cond.methodLink "EditionEqualModel" 102 ⟨"EditionEqualModel", "fault", "(I)I"⟩ ∈ ez_T := ez_r4 (List.mem_of_getElem? (i := 134) rfl) rfl
theorem t_905 : Cond.instanceMethod ⟨"EditionEqualModel", "fault", "(I)I"⟩ ∈ ez_T := ez_r4 (List.mem_of_getElem? (i := 136) rfl) rfl
theorem t_906 : Cond.code ⟨"EditionEqualModel", "fault", "(I)I"⟩ prog_7_method_16_code 4 (some .int) ∈ ez_T := ez_r4 (List.mem_of_getElem? (i := 137) rfl) rfl
theorem t_907 : Cond.methodLink "EditionEqualModel" 96 ⟨"EditionEqualModel", "needs", "(I)I"⟩ ∈ ez_T := ez_r4 (List.mem_of_getElem? (i := 138) rfl) rfl
theorem t_908 : Cond.static ⟨"EditionEqualModel", "needs", "(I)I"⟩ ∈ ez_T := ez_r4 (List.mem_of_getElem? (i := 139) rfl) rfl
theorem t_909 : Cond.code ⟨"EditionEqualModel", "needs", "(I)I"⟩ prog_7_method_7_code 1 (some .int) ∈ ez_T := ez_r4 (List.mem_of_getElem? (i := 140) rfl) rfl
theorem t_910 : Cond.methodLink "EditionEqualModel" 99 ⟨"EditionEqualModel", "isRound", "(II)Z"⟩ ∈ ez_T := ez_r4 (List.mem_of_getElem? (i := 141) rfl) rfl
theorem t_912 : Cond.instanceMethod ⟨"EditionEqualModel", "isRound", "(II)Z"⟩ ∈ ez_T := ez_r4 (List.mem_of_getElem? (i := 143) rfl) rfl
theorem t_913 : Cond.code ⟨"EditionEqualModel", "isRound", "(II)Z"⟩ prog_7_method_14_code 5 (some .boolean) ∈ ez_T := ez_r4 (List.mem_of_getElem? (i := 144) rfl) rfl
theorem t_914 : Cond.methodLink "EditionEqualModel" 93 ⟨"EditionEqualModel", "mark", "(II)Z"⟩ ∈ ez_T := ez_r4 (List.mem_of_getElem? (i := 145) rfl) rfl
theorem t_916 : Cond.instanceMethod ⟨"EditionEqualModel", "mark", "(II)Z"⟩ ∈ ez_T := ez_r4 (List.mem_of_getElem? (i := 147) rfl) rfl
theorem t_917 : Cond.code ⟨"EditionEqualModel", "mark", "(II)Z"⟩ prog_7_method_15_code 7 (some .boolean) ∈ ez_T := ez_r4 (List.mem_of_getElem? (i := 148) rfl) rfl
theorem t_921 : Cond.code ⟨"EditionEqualModel", "value", "(IIII)I"⟩ prog_7_method_23_code 5 (some .int) ∈ ez_T := ez_r4 (List.mem_of_getElem? (i := 152) rfl) rfl
theorem t_922 : Cond.methodLink "EditionEqualModel" 105 ⟨"EditionEqualModel", "isRight", "(I)Z"⟩ ∈ ez_T := ez_r4 (List.mem_of_getElem? (i := 153) rfl) rfl
theorem t_924 : Cond.instanceMethod ⟨"EditionEqualModel", "isRight", "(I)Z"⟩ ∈ ez_T := ez_r4 (List.mem_of_getElem? (i := 155) rfl) rfl
theorem t_925 : Cond.code ⟨"EditionEqualModel", "isRight", "(I)Z"⟩ prog_7_method_18_code 2 (some .boolean) ∈ ez_T := ez_r4 (List.mem_of_getElem? (i := 156) rfl) rfl
theorem t_926 : Cond.methodLink "EditionEqualModel" 112 ⟨"EditionEqualModel", "settle", "(III)V"⟩ ∈ ez_T := ez_r4 (List.mem_of_getElem? (i := 157) rfl) rfl
theorem t_928 : Cond.instanceMethod ⟨"EditionEqualModel", "settle", "(III)V"⟩ ∈ ez_T := ez_r4 (List.mem_of_getElem? (i := 159) rfl) rfl
theorem t_929 : Cond.code ⟨"EditionEqualModel", "settle", "(III)V"⟩ prog_7_method_20_code 7 none ∈ ez_T := ez_r4 (List.mem_of_getElem? (i := 160) rfl) rfl
theorem t_930 : Cond.methodLink "EditionEqualModel" 108 ⟨"EditionEqualModel", "reckon", "(II)I"⟩ ∈ ez_T := ez_r4 (List.mem_of_getElem? (i := 161) rfl) rfl
theorem t_932 : Cond.instanceMethod ⟨"EditionEqualModel", "reckon", "(II)I"⟩ ∈ ez_T := ez_r4 (List.mem_of_getElem? (i := 163) rfl) rfl
theorem t_933 : Cond.code ⟨"EditionEqualModel", "reckon", "(II)I"⟩ prog_7_method_21_code 6 (some .int) ∈ ez_T := ez_r4 (List.mem_of_getElem? (i := 164) rfl) rfl
theorem t_937 : Cond.code ⟨"EditionEqualModel", "tick", "(III)I"⟩ prog_7_method_24_code 4 (some .int) ∈ ez_T := ez_r4 (List.mem_of_getElem? (i := 168) rfl) rfl
theorem t_938 : Cond.methodLink "EditionEqualModel" 116 ⟨"EditionEqualModel", "answer", "(III)I"⟩ ∈ ez_T := ez_r4 (List.mem_of_getElem? (i := 169) rfl) rfl
theorem t_940 : Cond.instanceMethod ⟨"EditionEqualModel", "answer", "(III)I"⟩ ∈ ez_T := ez_r4 (List.mem_of_getElem? (i := 171) rfl) rfl
theorem t_941 : Cond.code ⟨"EditionEqualModel", "answer", "(III)I"⟩ prog_7_method_22_code 7 (some .int) ∈ ez_T := ez_r4 (List.mem_of_getElem? (i := 172) rfl) rfl
theorem t_945 : Cond.code ⟨"EditionEqualModel", "reached", "(I)I"⟩ prog_7_method_27_code 2 (some .int) ∈ ez_T := ez_r4 (List.mem_of_getElem? (i := 176) rfl) rfl
theorem t_946 : Cond.methodLink "EditionEqualModel" 119 ⟨"EditionEqualModel", "explore", "(I)V"⟩ ∈ ez_T := ez_r4 (List.mem_of_getElem? (i := 177) rfl) rfl
theorem t_948 : Cond.instanceMethod ⟨"EditionEqualModel", "explore", "(I)V"⟩ ∈ ez_T := ez_r4 (List.mem_of_getElem? (i := 179) rfl) rfl
theorem t_949 : Cond.code ⟨"EditionEqualModel", "explore", "(I)V"⟩ prog_7_method_25_code 7 none ∈ ez_T := ez_r4 (List.mem_of_getElem? (i := 180) rfl) rfl
theorem t_950 : Cond.methodLink "EditionEqualModel" 123 ⟨"EditionEqualModel", "reachedCount", "(I)I"⟩ ∈ ez_T := ez_r4 (List.mem_of_getElem? (i := 181) rfl) rfl
theorem t_952 : Cond.instanceMethod ⟨"EditionEqualModel", "reachedCount", "(I)I"⟩ ∈ ez_T := ez_r4 (List.mem_of_getElem? (i := 183) rfl) rfl
theorem t_953 : Cond.code ⟨"EditionEqualModel", "reachedCount", "(I)I"⟩ prog_7_method_26_code 4 (some .int) ∈ ez_T := ez_r4 (List.mem_of_getElem? (i := 184) rfl) rfl
theorem t_957 : Cond.code ⟨"EditionEqualModel", "state", "(II)I"⟩ prog_7_method_28_code 5 (some .int) ∈ ez_T := ez_r4 (List.mem_of_getElem? (i := 188) rfl) rfl
theorem t_961 : Cond.code ⟨"EditionEqualModel", "least", "(I)I"⟩ prog_7_method_30_code 8 (some .int) ∈ ez_T := ez_r4 (List.mem_of_getElem? (i := 192) rfl) rfl
theorem t_962 : Cond.methodLink "EditionEqualModel" 126 ⟨"EditionEqualModel", "tells", "(III)Z"⟩ ∈ ez_T := ez_r4 (List.mem_of_getElem? (i := 193) rfl) rfl
theorem t_964 : Cond.instanceMethod ⟨"EditionEqualModel", "tells", "(III)Z"⟩ ∈ ez_T := ez_r4 (List.mem_of_getElem? (i := 195) rfl) rfl
theorem t_965 : Cond.code ⟨"EditionEqualModel", "tells", "(III)Z"⟩ prog_7_method_29_code 8 (some .boolean) ∈ ez_T := ez_r4 (List.mem_of_getElem? (i := 196) rfl) rfl
theorem t_969 : Cond.code ⟨"EditionEqualModel", "compare", "()I"⟩ prog_7_method_34_code 1 (some .int) ∈ ez_T := ez_r4 (List.mem_of_getElem? (i := 200) rfl) rfl
theorem t_970 : Cond.methodLink "EditionEqualModel" 141 ⟨"EditionEqualModel", "areRight", "()Z"⟩ ∈ ez_T := ez_r4 (List.mem_of_getElem? (i := 201) rfl) rfl
theorem t_972 : Cond.instanceMethod ⟨"EditionEqualModel", "areRight", "()Z"⟩ ∈ ez_T := ez_r4 (List.mem_of_getElem? (i := 203) rfl) rfl
theorem t_973 : Cond.code ⟨"EditionEqualModel", "areRight", "()Z"⟩ prog_7_method_19_code 1 (some .boolean) ∈ ez_T := ez_r4 (List.mem_of_getElem? (i := 204) rfl) rfl
theorem t_974 : Cond.methodLink "EditionEqualModel" 145 ⟨"EditionEqualModel", "goOver", "()V"⟩ ∈ ez_T := ez_r4 (List.mem_of_getElem? (i := 205) rfl) rfl
theorem t_976 : Cond.instanceMethod ⟨"EditionEqualModel", "goOver", "()V"⟩ ∈ ez_T := ez_r4 (List.mem_of_getElem? (i := 207) rfl) rfl
theorem t_977 : Cond.code ⟨"EditionEqualModel", "goOver", "()V"⟩ prog_7_method_32_code 5 none ∈ ez_T := ez_r4 (List.mem_of_getElem? (i := 208) rfl) rfl
theorem t_978 : Cond.methodLink "EditionEqualModel" 135 ⟨"EditionEqualModel", "meet", "(III)V"⟩ ∈ ez_T := ez_r4 (List.mem_of_getElem? (i := 209) rfl) rfl
theorem t_980 : Cond.instanceMethod ⟨"EditionEqualModel", "meet", "(III)V"⟩ ∈ ez_T := ez_r4 (List.mem_of_getElem? (i := 211) rfl) rfl
theorem t_981 : Cond.code ⟨"EditionEqualModel", "meet", "(III)V"⟩ prog_7_method_31_code 4 none ∈ ez_T := ez_r4 (List.mem_of_getElem? (i := 212) rfl) rfl
theorem t_982 : Cond.methodLink "EditionEqualModel" 148 ⟨"EditionEqualModel", "shownCount", "()I"⟩ ∈ ez_T := ez_r4 (List.mem_of_getElem? (i := 213) rfl) rfl
theorem t_984 : Cond.instanceMethod ⟨"EditionEqualModel", "shownCount", "()I"⟩ ∈ ez_T := ez_r4 (List.mem_of_getElem? (i := 215) rfl) rfl
theorem t_985 : Cond.code ⟨"EditionEqualModel", "shownCount", "()I"⟩ prog_7_method_33_code 3 (some .int) ∈ ez_T := ez_r4 (List.mem_of_getElem? (i := 216) rfl) rfl
theorem t_989 : Cond.code ⟨"EditionEqualModel", "shown", "(I)I"⟩ prog_7_method_35_code 6 (some .int) ∈ ez_T := ez_r4 (List.mem_of_getElem? (i := 220) rfl) rfl
theorem t_993 : Cond.code ⟨"EditionEqualModel", "last", "(I)I"⟩ prog_7_method_36_code 3 (some .int) ∈ ez_T := ez_r4 (List.mem_of_getElem? (i := 224) rfl) rfl
theorem t_997 : Cond.code ⟨"EditionEqualModel", "pairs", "()I"⟩ prog_7_method_37_code 1 (some .int) ∈ ez_T := ez_r4 (List.mem_of_getElem? (i := 228) rfl) rfl
theorem t_1001 : Cond.code ⟨"EditionEqualModel", "same", "()Z"⟩ prog_7_method_40_code 1 (some .boolean) ∈ ez_T := ez_r4 (List.mem_of_getElem? (i := 232) rfl) rfl
theorem t_1002 : Cond.methodLink "EditionEqualModel" 155 ⟨"EditionEqualModel", "areSame", "()Z"⟩ ∈ ez_T := ez_r4 (List.mem_of_getElem? (i := 233) rfl) rfl
theorem t_1004 : Cond.instanceMethod ⟨"EditionEqualModel", "areSame", "()Z"⟩ ∈ ez_T := ez_r4 (List.mem_of_getElem? (i := 235) rfl) rfl
theorem t_1005 : Cond.code ⟨"EditionEqualModel", "areSame", "()Z"⟩ prog_7_method_38_code 8 (some .boolean) ∈ ez_T := ez_r4 (List.mem_of_getElem? (i := 236) rfl) rfl
theorem t_1006 : Cond.methodLink "EditionEqualModel" 152 ⟨"EditionEqualModel", "areSingle", "()Z"⟩ ∈ ez_T := ez_r4 (List.mem_of_getElem? (i := 237) rfl) rfl
theorem t_1008 : Cond.instanceMethod ⟨"EditionEqualModel", "areSingle", "()Z"⟩ ∈ ez_T := ez_r4 (List.mem_of_getElem? (i := 239) rfl) rfl
theorem t_1009 : Cond.code ⟨"EditionEqualModel", "areSingle", "()Z"⟩ prog_7_method_39_code 6 (some .boolean) ∈ ez_T := ez_r5 (List.mem_of_getElem? (i := 0) rfl) rfl
theorem t_1013 : Cond.code ⟨"EditionEqualModel", "matched", "(I)I"⟩ prog_7_method_41_code 4 (some .int) ∈ ez_T := ez_r5 (List.mem_of_getElem? (i := 4) rfl) rfl
theorem t_1017 : Cond.code ⟨"EditionEqualModel", "idle", "(II)I"⟩ prog_7_method_42_code 7 (some .int) ∈ ez_T := ez_r5 (List.mem_of_getElem? (i := 8) rfl) rfl
theorem t_1021 : Cond.code ⟨"EditionEqualModel", "blocks", "(I)I"⟩ prog_7_method_43_code 2 (some .int) ∈ ez_T := ez_r5 (List.mem_of_getElem? (i := 12) rfl) rfl
end
section
/-! ===== links, fields ===== -/
theorem ok_EE_init : ez_ok X_EE_init 1 := ⟨by decide +kernel, t_69, t_50, by decide +kernel, by decide +kernel⟩
theorem ok_EE_block : ez_ok X_EE_block 3 := ⟨by decide +kernel, t_276, t_50, by decide +kernel, by decide +kernel⟩
theorem ok_EE_wire : ez_ok X_EE_wire 4 := ⟨by decide +kernel, t_405, t_50, by decide +kernel, by decide +kernel⟩
theorem ok_EE_out : ez_ok X_EE_out 3 := ⟨by decide +kernel, t_434, t_50, by decide +kernel, by decide +kernel⟩
theorem ok_EE_bar : ez_ok X_EE_bar 2 := ⟨by decide +kernel, t_450, t_50, by decide +kernel, by decide +kernel⟩
theorem ok_EE_wrong : ez_ok X_EE_wrong 1 := ⟨by decide +kernel, t_462, t_50, by decide +kernel, by decide +kernel⟩
theorem ok_EE_value : ez_ok X_EE_value 4 := ⟨by decide +kernel, t_488, t_50, by decide +kernel, by decide +kernel⟩
theorem ok_EE_tick : ez_ok X_EE_tick 3 := ⟨by decide +kernel, t_577, t_50, by decide +kernel, by decide +kernel⟩
theorem ok_EE_reached : ez_ok X_EE_reached 1 := ⟨by decide +kernel, t_589, t_50, by decide +kernel, by decide +kernel⟩
theorem ok_EE_state : ez_ok X_EE_state 2 := ⟨by decide +kernel, t_606, t_50, by decide +kernel, by decide +kernel⟩
theorem ok_EE_least : ez_ok X_EE_least 1 := ⟨by decide +kernel, t_618, t_50, by decide +kernel, by decide +kernel⟩
theorem ok_EE_compare : ez_ok X_EE_compare 0 := ⟨by decide +kernel, t_650, t_50, by decide +kernel, by decide +kernel⟩
theorem ok_EE_shown : ez_ok X_EE_shown 1 := ⟨by decide +kernel, t_692, t_50, by decide +kernel, by decide +kernel⟩
theorem ok_EE_last : ez_ok X_EE_last 1 := ⟨by decide +kernel, t_705, t_50, by decide +kernel, by decide +kernel⟩
theorem ok_EE_pairs : ez_ok X_EE_pairs 0 := ⟨by decide +kernel, t_716, t_50, by decide +kernel, by decide +kernel⟩
theorem ok_EE_same : ez_ok X_EE_same 0 := ⟨by decide +kernel, t_727, t_50, by decide +kernel, by decide +kernel⟩
theorem ok_EE_matched : ez_ok X_EE_matched 1 := ⟨by decide +kernel, t_756, t_50, by decide +kernel, by decide +kernel⟩
theorem ok_EE_idle : ez_ok X_EE_idle 2 := ⟨by decide +kernel, t_764, t_50, by decide +kernel, by decide +kernel⟩
theorem ok_EE_blocks : ez_ok X_EE_blocks 1 := ⟨by decide +kernel, t_780, t_50, by decide +kernel, by decide +kernel⟩
theorem ok_EE_editionOf : ez_ok X_EE_editionOf 1 := ⟨by decide +kernel, t_280, t_50, by decide +kernel, by decide +kernel⟩
theorem ok_EE_behaviourOf : ez_ok X_EE_behaviourOf 1 := ⟨by decide +kernel, t_496, t_50, by decide +kernel, by decide +kernel⟩
theorem ok_EE_searchOfBoth : ez_ok X_EE_searchOfBoth 0 := ⟨by decide +kernel, t_654, t_50, by decide +kernel, by decide +kernel⟩
theorem ok_EE_forgetAnswers : ez_ok X_EE_forgetAnswers 0 := ⟨by decide +kernel, t_382, t_50, by decide +kernel, by decide +kernel⟩
theorem ok_EE_openRows : ez_ok X_EE_openRows 0 := ⟨by decide +kernel, t_501, t_50, by decide +kernel, by decide +kernel⟩
theorem ok_EE_isNumberOfKind : ez_ok X_EE_isNumberOfKind 2 := ⟨by decide +kernel, t_357, t_50, by decide +kernel, by decide +kernel⟩
theorem ok_EE_checkRow : ez_ok X_EE_checkRow 1 := ⟨by decide +kernel, t_454, t_50, by decide +kernel, by decide +kernel⟩
theorem ok_EE_checkBothRight : ez_ok X_EE_checkBothRight 0 := ⟨by decide +kernel, t_658, t_50, by decide +kernel, by decide +kernel⟩
theorem ok_EE_checkEdition : ez_ok X_EE_checkEdition 1 := ⟨by decide +kernel, t_283, t_50, by decide +kernel, by decide +kernel⟩
theorem ok_EE_checkBlock : ez_ok X_EE_checkBlock 2 := ⟨by decide +kernel, t_491, t_50, by decide +kernel, by decide +kernel⟩
theorem ok_EE_isWithin : ez_ok X_EE_isWithin 2 := ⟨by decide +kernel, t_286, t_50, by decide +kernel, by decide +kernel⟩
theorem ok_EE_bitOf : ez_ok X_EE_bitOf 1 := ⟨by decide +kernel, t_427, t_50, by decide +kernel, by decide +kernel⟩
theorem ok_EE_holds : ez_ok X_EE_holds 2 := ⟨by decide +kernel, t_481, t_50, by decide +kernel, by decide +kernel⟩
theorem ok_MD_init : ez_ok X_MD_init 1 := ⟨by decide +kernel, t_786, t_57, by decide +kernel, by decide +kernel⟩
theorem ok_MD_thrown : ez_ok X_MD_thrown 0 := ⟨by decide +kernel, t_859, t_57, by decide +kernel, by decide +kernel⟩
theorem ok_MD_in : ez_ok X_MD_in 3 := ⟨by decide +kernel, t_866, t_57, by decide +kernel, by decide +kernel⟩
theorem ok_MD_goes : ez_ok X_MD_goes 2 := ⟨by decide +kernel, t_874, t_57, by decide +kernel, by decide +kernel⟩
theorem ok_MD_isBlock : ez_ok X_MD_isBlock 2 := ⟨by decide +kernel, t_882, t_57, by decide +kernel, by decide +kernel⟩
theorem ok_MD_isRow : ez_ok X_MD_isRow 1 := ⟨by decide +kernel, t_898, t_57, by decide +kernel, by decide +kernel⟩
theorem ok_MD_needs : ez_ok X_MD_needs 1 := ⟨by decide +kernel, t_909, t_57, by decide +kernel, by decide +kernel⟩
theorem ok_MD_input : ez_ok X_MD_input 3 := ⟨by decide +kernel, t_886, t_57, by decide +kernel, by decide +kernel⟩
theorem ok_MD_delays : ez_ok X_MD_delays 1 := ⟨by decide +kernel, t_870, t_57, by decide +kernel, by decide +kernel⟩
theorem ok_MD_block : ez_ok X_MD_block 3 := ⟨by decide +kernel, t_863, t_57, by decide +kernel, by decide +kernel⟩
theorem ok_MD_wire : ez_ok X_MD_wire 4 := ⟨by decide +kernel, t_878, t_57, by decide +kernel, by decide +kernel⟩
theorem ok_MD_out : ez_ok X_MD_out 3 := ⟨by decide +kernel, t_890, t_57, by decide +kernel, by decide +kernel⟩
theorem ok_MD_bar : ez_ok X_MD_bar 2 := ⟨by decide +kernel, t_894, t_57, by decide +kernel, by decide +kernel⟩
theorem ok_MD_isRound : ez_ok X_MD_isRound 2 := ⟨by decide +kernel, t_913, t_57, by decide +kernel, by decide +kernel⟩
theorem ok_MD_mark : ez_ok X_MD_mark 2 := ⟨by decide +kernel, t_917, t_57, by decide +kernel, by decide +kernel⟩
theorem ok_MD_fault : ez_ok X_MD_fault 1 := ⟨by decide +kernel, t_906, t_57, by decide +kernel, by decide +kernel⟩
theorem ok_MD_wrong : ez_ok X_MD_wrong 1 := ⟨by decide +kernel, t_902, t_57, by decide +kernel, by decide +kernel⟩
theorem ok_MD_isRight : ez_ok X_MD_isRight 1 := ⟨by decide +kernel, t_925, t_57, by decide +kernel, by decide +kernel⟩
theorem ok_MD_areRight : ez_ok X_MD_areRight 0 := ⟨by decide +kernel, t_973, t_57, by decide +kernel, by decide +kernel⟩
theorem ok_MD_settle : ez_ok X_MD_settle 3 := ⟨by decide +kernel, t_929, t_57, by decide +kernel, by decide +kernel⟩
theorem ok_MD_reckon : ez_ok X_MD_reckon 2 := ⟨by decide +kernel, t_933, t_57, by decide +kernel, by decide +kernel⟩
theorem ok_MD_answer : ez_ok X_MD_answer 3 := ⟨by decide +kernel, t_941, t_57, by decide +kernel, by decide +kernel⟩
theorem ok_MD_value : ez_ok X_MD_value 4 := ⟨by decide +kernel, t_921, t_57, by decide +kernel, by decide +kernel⟩
theorem ok_MD_tick : ez_ok X_MD_tick 3 := ⟨by decide +kernel, t_937, t_57, by decide +kernel, by decide +kernel⟩
theorem ok_MD_explore : ez_ok X_MD_explore 1 := ⟨by decide +kernel, t_949, t_57, by decide +kernel, by decide +kernel⟩
theorem ok_MD_reachedCount : ez_ok X_MD_reachedCount 1 := ⟨by decide +kernel, t_953, t_57, by decide +kernel, by decide +kernel⟩
theorem ok_MD_reached : ez_ok X_MD_reached 1 := ⟨by decide +kernel, t_945, t_57, by decide +kernel, by decide +kernel⟩
theorem ok_MD_state : ez_ok X_MD_state 2 := ⟨by decide +kernel, t_957, t_57, by decide +kernel, by decide +kernel⟩
theorem ok_MD_tells : ez_ok X_MD_tells 3 := ⟨by decide +kernel, t_965, t_57, by decide +kernel, by decide +kernel⟩
theorem ok_MD_least : ez_ok X_MD_least 1 := ⟨by decide +kernel, t_961, t_57, by decide +kernel, by decide +kernel⟩
theorem ok_MD_meet : ez_ok X_MD_meet 3 := ⟨by decide +kernel, t_981, t_57, by decide +kernel, by decide +kernel⟩
theorem ok_MD_goOver : ez_ok X_MD_goOver 0 := ⟨by decide +kernel, t_977, t_57, by decide +kernel, by decide +kernel⟩
theorem ok_MD_shownCount : ez_ok X_MD_shownCount 0 := ⟨by decide +kernel, t_985, t_57, by decide +kernel, by decide +kernel⟩
theorem ok_MD_compare : ez_ok X_MD_compare 0 := ⟨by decide +kernel, t_969, t_57, by decide +kernel, by decide +kernel⟩
theorem ok_MD_shown : ez_ok X_MD_shown 1 := ⟨by decide +kernel, t_989, t_57, by decide +kernel, by decide +kernel⟩
theorem ok_MD_last : ez_ok X_MD_last 1 := ⟨by decide +kernel, t_993, t_57, by decide +kernel, by decide +kernel⟩
theorem ok_MD_pairs : ez_ok X_MD_pairs 0 := ⟨by decide +kernel, t_997, t_57, by decide +kernel, by decide +kernel⟩
theorem ok_MD_areSame : ez_ok X_MD_areSame 0 := ⟨by decide +kernel, t_1005, t_57, by decide +kernel, by decide +kernel⟩
theorem ok_MD_areSingle : ez_ok X_MD_areSingle 0 := ⟨by decide +kernel, t_1009, t_57, by decide +kernel, by decide +kernel⟩
theorem ok_MD_same : ez_ok X_MD_same 0 := ⟨by decide +kernel, t_1001, t_57, by decide +kernel, by decide +kernel⟩
theorem ok_MD_matched : ez_ok X_MD_matched 1 := ⟨by decide +kernel, t_1013, t_57, by decide +kernel, by decide +kernel⟩
theorem ok_MD_idle : ez_ok X_MD_idle 2 := ⟨by decide +kernel, t_1017, t_57, by decide +kernel, by decide +kernel⟩
theorem ok_MD_blocks : ez_ok X_MD_blocks 1 := ⟨by decide +kernel, t_1021, t_57, by decide +kernel, by decide +kernel⟩
theorem ok_BH_init : ez_ok X_BH_init 1 := ⟨by decide +kernel, t_124, t_54, by decide +kernel, by decide +kernel⟩
theorem ok_BH_forget : ez_ok X_BH_forget 0 := ⟨by decide +kernel, t_386, t_54, by decide +kernel, by decide +kernel⟩
theorem ok_BH_learn : ez_ok X_BH_learn 2 := ⟨by decide +kernel, t_505, t_54, by decide +kernel, by decide +kernel⟩
theorem ok_BH_valueOf : ez_ok X_BH_valueOf 3 := ⟨by decide +kernel, t_553, t_54, by decide +kernel, by decide +kernel⟩
theorem ok_BH_outsOf : ez_ok X_BH_outsOf 2 := ⟨by decide +kernel, t_581, t_54, by decide +kernel, by decide +kernel⟩
theorem ok_BH_stateAfter : ez_ok X_BH_stateAfter 2 := ⟨by decide +kernel, t_565, t_54, by decide +kernel, by decide +kernel⟩
theorem ok_BH_countReached : ez_ok X_BH_countReached 0 := ⟨by decide +kernel, t_593, t_54, by decide +kernel, by decide +kernel⟩
theorem ok_BH_reachedAt : ez_ok X_BH_reachedAt 1 := ⟨by decide +kernel, t_611, t_54, by decide +kernel, by decide +kernel⟩
theorem ok_BH_placeOf : ez_ok X_BH_placeOf 2 := ⟨by decide +kernel, t_569, t_54, by decide +kernel, by decide +kernel⟩
theorem ok_BH_orderBlocks : ez_ok X_BH_orderBlocks 0 := ⟨by decide +kernel, t_513, t_54, by decide +kernel, by decide +kernel⟩
theorem ok_BH_fillColumns : ez_ok X_BH_fillColumns 1 := ⟨by decide +kernel, t_524, t_54, by decide +kernel, by decide +kernel⟩
theorem ok_BH_workOutColumn : ez_ok X_BH_workOutColumn 2 := ⟨by decide +kernel, t_528, t_54, by decide +kernel, by decide +kernel⟩
theorem ok_BH_columnAt : ez_ok X_BH_columnAt 2 := ⟨by decide +kernel, t_537, t_54, by decide +kernel, by decide +kernel⟩
theorem ok_BH_fillTicks : ez_ok X_BH_fillTicks 1 := ⟨by decide +kernel, t_548, t_54, by decide +kernel, by decide +kernel⟩
theorem ok_BH_findReached : ez_ok X_BH_findReached 1 := ⟨by decide +kernel, t_561, t_54, by decide +kernel, by decide +kernel⟩
theorem ok_BH_countClasses : ez_ok X_BH_countClasses 1 := ⟨by decide +kernel, t_622, t_54, by decide +kernel, by decide +kernel⟩
theorem ok_BH_partByOuts : ez_ok X_BH_partByOuts 1 := ⟨by decide +kernel, t_627, t_54, by decide +kernel, by decide +kernel⟩
theorem ok_BH_partByNextClass : ez_ok X_BH_partByNextClass 1 := ⟨by decide +kernel, t_643, t_54, by decide +kernel, by decide +kernel⟩
theorem ok_BH_partByKeys : ez_ok X_BH_partByKeys 0 := ⟨by decide +kernel, t_632, t_54, by decide +kernel, by decide +kernel⟩
theorem ok_BH_firstLike : ez_ok X_BH_firstLike 1 := ⟨by decide +kernel, t_636, t_54, by decide +kernel, by decide +kernel⟩
theorem ok_ED_init : ez_ok X_ED_init 0 := ⟨by decide +kernel, t_83, t_52, by decide +kernel, by decide +kernel⟩
theorem ok_ED_hasRoomFor : ez_ok X_ED_hasRoomFor 1 := ⟨by decide +kernel, t_362, t_52, by decide +kernel, by decide +kernel⟩
theorem ok_ED_addBlock : ez_ok X_ED_addBlock 2 := ⟨by decide +kernel, t_394, t_52, by decide +kernel, by decide +kernel⟩
theorem ok_ED_countNeeded : ez_ok X_ED_countNeeded 1 := ⟨by decide +kernel, t_398, t_52, by decide +kernel, by decide +kernel⟩
theorem ok_ED_rewire : ez_ok X_ED_rewire 3 := ⟨by decide +kernel, t_419, t_52, by decide +kernel, by decide +kernel⟩
theorem ok_ED_changeOutput : ez_ok X_ED_changeOutput 2 := ⟨by decide +kernel, t_439, t_52, by decide +kernel, by decide +kernel⟩
theorem ok_ED_countBlocks : ez_ok X_ED_countBlocks 0 := ⟨by decide +kernel, t_517, t_52, by decide +kernel, by decide +kernel⟩
theorem ok_ED_countDelays : ez_ok X_ED_countDelays 0 := ⟨by decide +kernel, t_509, t_52, by decide +kernel, by decide +kernel⟩
theorem ok_ED_hasBlock : ez_ok X_ED_hasBlock 1 := ⟨by decide +kernel, t_409, t_52, by decide +kernel, by decide +kernel⟩
theorem ok_ED_hasBlockOrNone : ez_ok X_ED_hasBlockOrNone 1 := ⟨by decide +kernel, t_413, t_52, by decide +kernel, by decide +kernel⟩
theorem ok_ED_kindOf : ez_ok X_ED_kindOf 1 := ⟨by decide +kernel, t_542, t_52, by decide +kernel, by decide +kernel⟩
theorem ok_ED_numberOf : ez_ok X_ED_numberOf 1 := ⟨by decide +kernel, t_532, t_52, by decide +kernel, by decide +kernel⟩
theorem ok_ED_outputAt : ez_ok X_ED_outputAt 1 := ⟨by decide +kernel, t_443, t_52, by decide +kernel, by decide +kernel⟩
theorem ok_ED_delayAt : ez_ok X_ED_delayAt 1 := ⟨by decide +kernel, t_557, t_52, by decide +kernel, by decide +kernel⟩
theorem ok_ED_neededAt : ez_ok X_ED_neededAt 2 := ⟨by decide +kernel, t_424, t_52, by decide +kernel, by decide +kernel⟩
theorem ok_ED_neededInTick : ez_ok X_ED_neededInTick 1 := ⟨by decide +kernel, t_478, t_52, by decide +kernel, by decide +kernel⟩
theorem ok_ED_firstFault : ez_ok X_ED_firstFault 0 := ⟨by decide +kernel, t_466, t_52, by decide +kernel, by decide +kernel⟩
theorem ok_ED_firstUnwired : ez_ok X_ED_firstUnwired 0 := ⟨by decide +kernel, t_470, t_52, by decide +kernel, by decide +kernel⟩
theorem ok_ED_firstComingBack : ez_ok X_ED_firstComingBack 0 := ⟨by decide +kernel, t_474, t_52, by decide +kernel, by decide +kernel⟩
theorem ok_ED_idleAt : ez_ok X_ED_idleAt 1 := ⟨by decide +kernel, t_769, t_52, by decide +kernel, by decide +kernel⟩
theorem ok_ED_liveBlocks : ez_ok X_ED_liveBlocks 0 := ⟨by decide +kernel, t_773, t_52, by decide +kernel, by decide +kernel⟩
theorem ok_MT_init : ez_ok X_MT_init 2 := ⟨by decide +kernel, t_216, t_56, by decide +kernel, by decide +kernel⟩
theorem ok_MT_matchAll : ez_ok X_MT_matchAll 0 := ⟨by decide +kernel, t_731, t_56, by decide +kernel, by decide +kernel⟩
theorem ok_MT_partnerOf : ez_ok X_MT_partnerOf 1 := ⟨by decide +kernel, t_748, t_56, by decide +kernel, by decide +kernel⟩
theorem ok_MT_matchBoth : ez_ok X_MT_matchBoth 2 := ⟨by decide +kernel, t_737, t_56, by decide +kernel, by decide +kernel⟩
theorem ok_MT_areOfOneSort : ez_ok X_MT_areOfOneSort 2 := ⟨by decide +kernel, t_742, t_56, by decide +kernel, by decide +kernel⟩
theorem ok_PS_init : ez_ok X_PS_init 2 := ⟨by decide +kernel, t_170, t_55, by decide +kernel, by decide +kernel⟩
theorem ok_PS_forget : ez_ok X_PS_forget 0 := ⟨by decide +kernel, t_390, t_55, by decide +kernel, by decide +kernel⟩
theorem ok_PS_learn : ez_ok X_PS_learn 1 := ⟨by decide +kernel, t_663, t_55, by decide +kernel, by decide +kernel⟩
theorem ok_PS_countPairs : ez_ok X_PS_countPairs 0 := ⟨by decide +kernel, t_720, t_55, by decide +kernel, by decide +kernel⟩
theorem ok_PS_countShown : ez_ok X_PS_countShown 0 := ⟨by decide +kernel, t_685, t_55, by decide +kernel, by decide +kernel⟩
theorem ok_PS_shownRow : ez_ok X_PS_shownRow 1 := ⟨by decide +kernel, t_698, t_55, by decide +kernel, by decide +kernel⟩
theorem ok_PS_lastOuts : ez_ok X_PS_lastOuts 1 := ⟨by decide +kernel, t_709, t_55, by decide +kernel, by decide +kernel⟩
theorem ok_PS_goOnFrom : ez_ok X_PS_goOnFrom 2 := ⟨by decide +kernel, t_675, t_55, by decide +kernel, by decide +kernel⟩
theorem ok_PS_meet : ez_ok X_PS_meet 4 := ⟨by decide +kernel, t_668, t_55, by decide +kernel, by decide +kernel⟩
theorem ok_PS_keepShown : ez_ok X_PS_keepShown 2 := ⟨by decide +kernel, t_680, t_55, by decide +kernel, by decide +kernel⟩
theorem ok_LW_cell : ez_ok X_LW_cell 2 := ⟨by decide +kernel, t_267, t_49, by decide +kernel, by decide +kernel⟩
theorem ok_LW_block : ez_ok X_LW_block 5 := ⟨by decide +kernel, t_270, t_49, by decide +kernel, by decide +kernel⟩
theorem ok_LW_wire : ez_ok X_LW_wire 6 := ⟨by decide +kernel, t_401, t_49, by decide +kernel, by decide +kernel⟩
theorem ok_LW_out : ez_ok X_LW_out 5 := ⟨by decide +kernel, t_430, t_49, by decide +kernel, by decide +kernel⟩
theorem ok_LW_bar : ez_ok X_LW_bar 4 := ⟨by decide +kernel, t_446, t_49, by decide +kernel, by decide +kernel⟩
theorem ok_LW_wrong : ez_ok X_LW_wrong 3 := ⟨by decide +kernel, t_458, t_49, by decide +kernel, by decide +kernel⟩
theorem ok_LW_value : ez_ok X_LW_value 6 := ⟨by decide +kernel, t_484, t_49, by decide +kernel, by decide +kernel⟩
theorem ok_LW_tick : ez_ok X_LW_tick 5 := ⟨by decide +kernel, t_573, t_49, by decide +kernel, by decide +kernel⟩
theorem ok_LW_reached : ez_ok X_LW_reached 3 := ⟨by decide +kernel, t_585, t_49, by decide +kernel, by decide +kernel⟩
theorem ok_LW_state : ez_ok X_LW_state 4 := ⟨by decide +kernel, t_602, t_49, by decide +kernel, by decide +kernel⟩
theorem ok_LW_least : ez_ok X_LW_least 3 := ⟨by decide +kernel, t_614, t_49, by decide +kernel, by decide +kernel⟩
theorem ok_LW_compare : ez_ok X_LW_compare 2 := ⟨by decide +kernel, t_646, t_49, by decide +kernel, by decide +kernel⟩
theorem ok_LW_shown : ez_ok X_LW_shown 3 := ⟨by decide +kernel, t_688, t_49, by decide +kernel, by decide +kernel⟩
theorem ok_LW_last : ez_ok X_LW_last 3 := ⟨by decide +kernel, t_701, t_49, by decide +kernel, by decide +kernel⟩
theorem ok_LW_pairs : ez_ok X_LW_pairs 2 := ⟨by decide +kernel, t_712, t_49, by decide +kernel, by decide +kernel⟩
theorem ok_LW_same : ez_ok X_LW_same 2 := ⟨by decide +kernel, t_723, t_49, by decide +kernel, by decide +kernel⟩
theorem ok_LW_matched : ez_ok X_LW_matched 3 := ⟨by decide +kernel, t_752, t_49, by decide +kernel, by decide +kernel⟩
theorem ok_LW_idle : ez_ok X_LW_idle 4 := ⟨by decide +kernel, t_760, t_49, by decide +kernel, by decide +kernel⟩
theorem ok_LW_blocks : ez_ok X_LW_blocks 3 := ⟨by decide +kernel, t_776, t_49, by decide +kernel, by decide +kernel⟩
theorem ok_JI_bitCount : ez_ok X_JI_bitCount 1 := ⟨by decide +kernel, t_596, t_63, by decide +kernel, by decide +kernel⟩
theorem ok_JA_fill : ez_ok X_JA_fill 2 := ⟨by decide +kernel, t_87, t_53, by decide +kernel, by decide +kernel⟩
theorem in_EE : ∀ w ∈ u_ws "EditionEqual" T_EE 9, w ∈ ez_T := List.forall_mem_cons.mpr ⟨t_246, List.forall_mem_cons.mpr ⟨t_248, List.forall_mem_cons.mpr ⟨t_250, List.forall_mem_cons.mpr ⟨t_252, List.forall_mem_cons.mpr ⟨t_254, List.forall_mem_cons.mpr ⟨t_256, List.forall_mem_cons.mpr ⟨t_258, List.forall_mem_cons.mpr ⟨t_260, List.forall_mem_cons.mpr ⟨t_262, fun _ h => absurd h List.not_mem_nil⟩⟩⟩⟩⟩⟩⟩⟩⟩
theorem y_EE_pointCount : ez_fty 0 0 true (.int) := ⟨_, _, _, ty_EE, rfl, tp_EE, nm_EE, rfl, by decide +kernel, rfl⟩
theorem y_EE_rowCount : ez_fty 0 1 true (.int) := ⟨_, _, _, ty_EE, rfl, tp_EE, nm_EE, rfl, by decide +kernel, rfl⟩
theorem y_EE_firstEdition : ez_fty 0 2 true (.object "EditionEqual$Edition") := ⟨_, _, _, ty_EE, rfl, tp_EE, nm_EE, rfl, by decide +kernel, rfl⟩
theorem y_EE_secondEdition : ez_fty 0 3 true (.object "EditionEqual$Edition") := ⟨_, _, _, ty_EE, rfl, tp_EE, nm_EE, rfl, by decide +kernel, rfl⟩
theorem y_EE_firstBehaviour : ez_fty 0 4 true (.object "EditionEqual$Behaviour") := ⟨_, _, _, ty_EE, rfl, tp_EE, nm_EE, rfl, by decide +kernel, rfl⟩
theorem y_EE_secondBehaviour : ez_fty 0 5 true (.object "EditionEqual$Behaviour") := ⟨_, _, _, ty_EE, rfl, tp_EE, nm_EE, rfl, by decide +kernel, rfl⟩
theorem y_EE_search : ez_fty 0 6 true (.object "EditionEqual$PairSearch") := ⟨_, _, _, ty_EE, rfl, tp_EE, nm_EE, rfl, by decide +kernel, rfl⟩
theorem y_EE_matching : ez_fty 0 7 true (.object "EditionEqual$Matching") := ⟨_, _, _, ty_EE, rfl, tp_EE, nm_EE, rfl, by decide +kernel, rfl⟩
theorem y_EE_barredRows : ez_fty 0 8 false (.int) := ⟨_, _, _, ty_EE, rfl, tp_EE, nm_EE, rfl, by decide +kernel, rfl⟩
theorem in_ED : ∀ w ∈ u_ws "EditionEqual$Edition" T_ED 10, w ∈ ez_T := List.forall_mem_cons.mpr ⟨t_98, List.forall_mem_cons.mpr ⟨t_100, List.forall_mem_cons.mpr ⟨t_102, List.forall_mem_cons.mpr ⟨t_104, List.forall_mem_cons.mpr ⟨t_106, List.forall_mem_cons.mpr ⟨t_108, List.forall_mem_cons.mpr ⟨t_110, List.forall_mem_cons.mpr ⟨t_112, List.forall_mem_cons.mpr ⟨t_114, List.forall_mem_cons.mpr ⟨t_116, fun _ h => absurd h List.not_mem_nil⟩⟩⟩⟩⟩⟩⟩⟩⟩⟩
theorem y_ED_kinds : ez_fty 1 0 true (.array .int) := ⟨_, _, _, ty_ED, rfl, tp_ED, nm_ED, rfl, by decide +kernel, rfl⟩
theorem y_ED_numbers : ez_fty 1 1 true (.array .int) := ⟨_, _, _, ty_ED, rfl, tp_ED, nm_ED, rfl, by decide +kernel, rfl⟩
theorem y_ED_neededInputs : ez_fty 1 2 true (.array .int) := ⟨_, _, _, ty_ED, rfl, tp_ED, nm_ED, rfl, by decide +kernel, rfl⟩
theorem y_ED_wires : ez_fty 1 3 true (.array .int) := ⟨_, _, _, ty_ED, rfl, tp_ED, nm_ED, rfl, by decide +kernel, rfl⟩
theorem y_ED_neededBlocks : ez_fty 1 4 true (.array .int) := ⟨_, _, _, ty_ED, rfl, tp_ED, nm_ED, rfl, by decide +kernel, rfl⟩
theorem y_ED_outputs : ez_fty 1 5 true (.array .int) := ⟨_, _, _, ty_ED, rfl, tp_ED, nm_ED, rfl, by decide +kernel, rfl⟩
theorem y_ED_delays : ez_fty 1 6 true (.array .int) := ⟨_, _, _, ty_ED, rfl, tp_ED, nm_ED, rfl, by decide +kernel, rfl⟩
theorem y_ED_ahead : ez_fty 1 7 true (.array .int) := ⟨_, _, _, ty_ED, rfl, tp_ED, nm_ED, rfl, by decide +kernel, rfl⟩
theorem y_ED_blockCount : ez_fty 1 8 false (.int) := ⟨_, _, _, ty_ED, rfl, tp_ED, nm_ED, rfl, by decide +kernel, rfl⟩
theorem y_ED_delayCount : ez_fty 1 9 false (.int) := ⟨_, _, _, ty_ED, rfl, tp_ED, nm_ED, rfl, by decide +kernel, rfl⟩
theorem in_BH : ∀ w ∈ u_ws "EditionEqual$Behaviour" T_BH 13, w ∈ ez_T := List.forall_mem_cons.mpr ⟨t_139, List.forall_mem_cons.mpr ⟨t_141, List.forall_mem_cons.mpr ⟨t_143, List.forall_mem_cons.mpr ⟨t_145, List.forall_mem_cons.mpr ⟨t_147, List.forall_mem_cons.mpr ⟨t_149, List.forall_mem_cons.mpr ⟨t_151, List.forall_mem_cons.mpr ⟨t_153, List.forall_mem_cons.mpr ⟨t_155, List.forall_mem_cons.mpr ⟨t_157, List.forall_mem_cons.mpr ⟨t_159, List.forall_mem_cons.mpr ⟨t_161, List.forall_mem_cons.mpr ⟨t_163, fun _ h => absurd h List.not_mem_nil⟩⟩⟩⟩⟩⟩⟩⟩⟩⟩⟩⟩⟩
theorem y_BH_edition : ez_fty 2 0 true (.object "EditionEqual$Edition") := ⟨_, _, _, ty_BH, rfl, tp_BH, nm_BH, rfl, by decide +kernel, rfl⟩
theorem y_BH_order : ez_fty 2 1 true (.array .int) := ⟨_, _, _, ty_BH, rfl, tp_BH, nm_BH, rfl, by decide +kernel, rfl⟩
theorem y_BH_columns : ez_fty 2 2 true (.array .int) := ⟨_, _, _, ty_BH, rfl, tp_BH, nm_BH, rfl, by decide +kernel, rfl⟩
theorem y_BH_outs : ez_fty 2 3 true (.array .int) := ⟨_, _, _, ty_BH, rfl, tp_BH, nm_BH, rfl, by decide +kernel, rfl⟩
theorem y_BH_nextStates : ez_fty 2 4 true (.array .int) := ⟨_, _, _, ty_BH, rfl, tp_BH, nm_BH, rfl, by decide +kernel, rfl⟩
theorem y_BH_queue : ez_fty 2 5 true (.array .int) := ⟨_, _, _, ty_BH, rfl, tp_BH, nm_BH, rfl, by decide +kernel, rfl⟩
theorem y_BH_classes : ez_fty 2 6 true (.array .int) := ⟨_, _, _, ty_BH, rfl, tp_BH, nm_BH, rfl, by decide +kernel, rfl⟩
theorem y_BH_keys : ez_fty 2 7 true (.array .int) := ⟨_, _, _, ty_BH, rfl, tp_BH, nm_BH, rfl, by decide +kernel, rfl⟩
theorem y_BH_newClasses : ez_fty 2 8 true (.array .int) := ⟨_, _, _, ty_BH, rfl, tp_BH, nm_BH, rfl, by decide +kernel, rfl⟩
theorem y_BH_orderedCount : ez_fty 2 9 false (.int) := ⟨_, _, _, ty_BH, rfl, tp_BH, nm_BH, rfl, by decide +kernel, rfl⟩
theorem y_BH_stateCount : ez_fty 2 10 false (.int) := ⟨_, _, _, ty_BH, rfl, tp_BH, nm_BH, rfl, by decide +kernel, rfl⟩
theorem y_BH_reachedStates : ez_fty 2 11 false (.int) := ⟨_, _, _, ty_BH, rfl, tp_BH, nm_BH, rfl, by decide +kernel, rfl⟩
theorem y_BH_known : ez_fty 2 12 false (.boolean) := ⟨_, _, _, ty_BH, rfl, tp_BH, nm_BH, rfl, by decide +kernel, rfl⟩
theorem in_PS : ∀ w ∈ u_ws "EditionEqual$PairSearch" T_PS 13, w ∈ ez_T := List.forall_mem_cons.mpr ⟨t_185, List.forall_mem_cons.mpr ⟨t_187, List.forall_mem_cons.mpr ⟨t_189, List.forall_mem_cons.mpr ⟨t_191, List.forall_mem_cons.mpr ⟨t_193, List.forall_mem_cons.mpr ⟨t_195, List.forall_mem_cons.mpr ⟨t_197, List.forall_mem_cons.mpr ⟨t_199, List.forall_mem_cons.mpr ⟨t_201, List.forall_mem_cons.mpr ⟨t_203, List.forall_mem_cons.mpr ⟨t_205, List.forall_mem_cons.mpr ⟨t_207, List.forall_mem_cons.mpr ⟨t_209, fun _ h => absurd h List.not_mem_nil⟩⟩⟩⟩⟩⟩⟩⟩⟩⟩⟩⟩⟩
theorem y_PS_first : ez_fty 3 0 true (.object "EditionEqual$Behaviour") := ⟨_, _, _, ty_PS, rfl, tp_PS, nm_PS, rfl, by decide +kernel, rfl⟩
theorem y_PS_second : ez_fty 3 1 true (.object "EditionEqual$Behaviour") := ⟨_, _, _, ty_PS, rfl, tp_PS, nm_PS, rfl, by decide +kernel, rfl⟩
theorem y_PS_met : ez_fty 3 2 true (.array .int) := ⟨_, _, _, ty_PS, rfl, tp_PS, nm_PS, rfl, by decide +kernel, rfl⟩
theorem y_PS_queue : ez_fty 3 3 true (.array .int) := ⟨_, _, _, ty_PS, rfl, tp_PS, nm_PS, rfl, by decide +kernel, rfl⟩
theorem y_PS_cameFrom : ez_fty 3 4 true (.array .int) := ⟨_, _, _, ty_PS, rfl, tp_PS, nm_PS, rfl, by decide +kernel, rfl⟩
theorem y_PS_cameBy : ez_fty 3 5 true (.array .int) := ⟨_, _, _, ty_PS, rfl, tp_PS, nm_PS, rfl, by decide +kernel, rfl⟩
theorem y_PS_pairCount : ez_fty 3 6 false (.int) := ⟨_, _, _, ty_PS, rfl, tp_PS, nm_PS, rfl, by decide +kernel, rfl⟩
theorem y_PS_shownCount : ez_fty 3 7 false (.int) := ⟨_, _, _, ty_PS, rfl, tp_PS, nm_PS, rfl, by decide +kernel, rfl⟩
theorem y_PS_shownFrom : ez_fty 3 8 false (.int) := ⟨_, _, _, ty_PS, rfl, tp_PS, nm_PS, rfl, by decide +kernel, rfl⟩
theorem y_PS_shownLast : ez_fty 3 9 false (.int) := ⟨_, _, _, ty_PS, rfl, tp_PS, nm_PS, rfl, by decide +kernel, rfl⟩
theorem y_PS_firstOuts : ez_fty 3 10 false (.int) := ⟨_, _, _, ty_PS, rfl, tp_PS, nm_PS, rfl, by decide +kernel, rfl⟩
theorem y_PS_secondOuts : ez_fty 3 11 false (.int) := ⟨_, _, _, ty_PS, rfl, tp_PS, nm_PS, rfl, by decide +kernel, rfl⟩
theorem y_PS_known : ez_fty 3 12 false (.boolean) := ⟨_, _, _, ty_PS, rfl, tp_PS, nm_PS, rfl, by decide +kernel, rfl⟩
theorem in_MT : ∀ w ∈ u_ws "EditionEqual$Matching" T_MT 6, w ∈ ez_T := List.forall_mem_cons.mpr ⟨t_224, List.forall_mem_cons.mpr ⟨t_226, List.forall_mem_cons.mpr ⟨t_228, List.forall_mem_cons.mpr ⟨t_230, List.forall_mem_cons.mpr ⟨t_232, List.forall_mem_cons.mpr ⟨t_234, fun _ h => absurd h List.not_mem_nil⟩⟩⟩⟩⟩⟩
theorem y_MT_first : ez_fty 4 0 true (.object "EditionEqual$Edition") := ⟨_, _, _, ty_MT, rfl, tp_MT, nm_MT, rfl, by decide +kernel, rfl⟩
theorem y_MT_second : ez_fty 4 1 true (.object "EditionEqual$Edition") := ⟨_, _, _, ty_MT, rfl, tp_MT, nm_MT, rfl, by decide +kernel, rfl⟩
theorem y_MT_partners : ez_fty 4 2 true (.array .int) := ⟨_, _, _, ty_MT, rfl, tp_MT, nm_MT, rfl, by decide +kernel, rfl⟩
theorem y_MT_partnersBack : ez_fty 4 3 true (.array .int) := ⟨_, _, _, ty_MT, rfl, tp_MT, nm_MT, rfl, by decide +kernel, rfl⟩
theorem y_MT_queue : ez_fty 4 4 true (.array .int) := ⟨_, _, _, ty_MT, rfl, tp_MT, nm_MT, rfl, by decide +kernel, rfl⟩
theorem y_MT_matchCount : ez_fty 4 5 false (.int) := ⟨_, _, _, ty_MT, rfl, tp_MT, nm_MT, rfl, by decide +kernel, rfl⟩
theorem in_MD : ∀ w ∈ u_ws "EditionEqualModel" T_MD 22, w ∈ ez_T := List.forall_mem_cons.mpr ⟨t_810, List.forall_mem_cons.mpr ⟨t_812, List.forall_mem_cons.mpr ⟨t_814, List.forall_mem_cons.mpr ⟨t_816, List.forall_mem_cons.mpr ⟨t_818, List.forall_mem_cons.mpr ⟨t_820, List.forall_mem_cons.mpr ⟨t_822, List.forall_mem_cons.mpr ⟨t_824, List.forall_mem_cons.mpr ⟨t_826, List.forall_mem_cons.mpr ⟨t_828, List.forall_mem_cons.mpr ⟨t_830, List.forall_mem_cons.mpr ⟨t_832, List.forall_mem_cons.mpr ⟨t_834, List.forall_mem_cons.mpr ⟨t_836, List.forall_mem_cons.mpr ⟨t_838, List.forall_mem_cons.mpr ⟨t_840, List.forall_mem_cons.mpr ⟨t_842, List.forall_mem_cons.mpr ⟨t_844, List.forall_mem_cons.mpr ⟨t_846, List.forall_mem_cons.mpr ⟨t_848, List.forall_mem_cons.mpr ⟨t_850, List.forall_mem_cons.mpr ⟨t_852, fun _ h => absurd h List.not_mem_nil⟩⟩⟩⟩⟩⟩⟩⟩⟩⟩⟩⟩⟩⟩⟩⟩⟩⟩⟩⟩⟩⟩
theorem y_MD_thrown : ez_fty 5 0 false (.int) := ⟨_, _, _, ty_MD, rfl, tp_MD, nm_MD, rfl, by decide +kernel, rfl⟩
theorem y_MD_points : ez_fty 5 1 true (.int) := ⟨_, _, _, ty_MD, rfl, tp_MD, nm_MD, rfl, by decide +kernel, rfl⟩
theorem y_MD_barred : ez_fty 5 2 true (.array .boolean) := ⟨_, _, _, ty_MD, rfl, tp_MD, nm_MD, rfl, by decide +kernel, rfl⟩
theorem y_MD_counts : ez_fty 5 3 true (.array .int) := ⟨_, _, _, ty_MD, rfl, tp_MD, nm_MD, rfl, by decide +kernel, rfl⟩
theorem y_MD_kinds : ez_fty 5 4 true (.array .int) := ⟨_, _, _, ty_MD, rfl, tp_MD, nm_MD, rfl, by decide +kernel, rfl⟩
theorem y_MD_numbers : ez_fty 5 5 true (.array .int) := ⟨_, _, _, ty_MD, rfl, tp_MD, nm_MD, rfl, by decide +kernel, rfl⟩
theorem y_MD_firsts : ez_fty 5 6 true (.array .int) := ⟨_, _, _, ty_MD, rfl, tp_MD, nm_MD, rfl, by decide +kernel, rfl⟩
theorem y_MD_seconds : ez_fty 5 7 true (.array .int) := ⟨_, _, _, ty_MD, rfl, tp_MD, nm_MD, rfl, by decide +kernel, rfl⟩
theorem y_MD_outs : ez_fty 5 8 true (.array .int) := ⟨_, _, _, ty_MD, rfl, tp_MD, nm_MD, rfl, by decide +kernel, rfl⟩
theorem y_MD_come : ez_fty 5 9 true (.array .boolean) := ⟨_, _, _, ty_MD, rfl, tp_MD, nm_MD, rfl, by decide +kernel, rfl⟩
theorem y_MD_values : ez_fty 5 10 true (.array .int) := ⟨_, _, _, ty_MD, rfl, tp_MD, nm_MD, rfl, by decide +kernel, rfl⟩
theorem y_MD_table : ez_fty 5 11 true (.array .int) := ⟨_, _, _, ty_MD, rfl, tp_MD, nm_MD, rfl, by decide +kernel, rfl⟩
theorem y_MD_reached : ez_fty 5 12 true (.array .boolean) := ⟨_, _, _, ty_MD, rfl, tp_MD, nm_MD, rfl, by decide +kernel, rfl⟩
theorem y_MD_apart : ez_fty 5 13 true (.array .boolean) := ⟨_, _, _, ty_MD, rfl, tp_MD, nm_MD, rfl, by decide +kernel, rfl⟩
theorem y_MD_pairCount : ez_fty 5 14 false (.int) := ⟨_, _, _, ty_MD, rfl, tp_MD, nm_MD, rfl, by decide +kernel, rfl⟩
theorem y_MD_pairs : ez_fty 5 15 true (.array .int) := ⟨_, _, _, ty_MD, rfl, tp_MD, nm_MD, rfl, by decide +kernel, rfl⟩
theorem y_MD_cameFrom : ez_fty 5 16 true (.array .int) := ⟨_, _, _, ty_MD, rfl, tp_MD, nm_MD, rfl, by decide +kernel, rfl⟩
theorem y_MD_cameBy : ez_fty 5 17 true (.array .int) := ⟨_, _, _, ty_MD, rfl, tp_MD, nm_MD, rfl, by decide +kernel, rfl⟩
theorem y_MD_seen : ez_fty 5 18 true (.array .boolean) := ⟨_, _, _, ty_MD, rfl, tp_MD, nm_MD, rfl, by decide +kernel, rfl⟩
theorem y_MD_differsAt : ez_fty 5 19 false (.int) := ⟨_, _, _, ty_MD, rfl, tp_MD, nm_MD, rfl, by decide +kernel, rfl⟩
theorem y_MD_differsBy : ez_fty 5 20 false (.int) := ⟨_, _, _, ty_MD, rfl, tp_MD, nm_MD, rfl, by decide +kernel, rfl⟩
theorem y_MD_match : ez_fty 5 21 true (.array .boolean) := ⟨_, _, _, ty_MD, rfl, tp_MD, nm_MD, rfl, by decide +kernel, rfl⟩
theorem lk_EE_init_32 : ez_ok X_ED_init 0 ∧ ez_link X_EE_init.1.cls 27 X_ED_init.1 ∧ Cond.instanceMethod X_ED_init.1 ∈ ez_T := ⟨ok_ED_init, Or.inl t_81, t_82⟩
theorem lk_EE_init_43 : ez_ok X_ED_init 0 ∧ ez_link X_EE_init.1.cls 27 X_ED_init.1 ∧ Cond.instanceMethod X_ED_init.1 ∈ ez_T := ⟨ok_ED_init, Or.inl t_81, t_82⟩
theorem lk_EE_init_58 : ez_ok X_BH_init 1 ∧ ez_link X_EE_init.1.cls 37 X_BH_init.1 ∧ Cond.instanceMethod X_BH_init.1 ∈ ez_T := ⟨ok_BH_init, Or.inl t_122, t_123⟩
theorem lk_EE_init_73 : ez_ok X_BH_init 1 ∧ ez_link X_EE_init.1.cls 37 X_BH_init.1 ∧ Cond.instanceMethod X_BH_init.1 ∈ ez_T := ⟨ok_BH_init, Or.inl t_122, t_123⟩
theorem lk_EE_init_92 : ez_ok X_PS_init 2 ∧ ez_link X_EE_init.1.cls 49 X_PS_init.1 ∧ Cond.instanceMethod X_PS_init.1 ∈ ez_T := ⟨ok_PS_init, Or.inl t_168, t_169⟩
theorem lk_EE_init_111 : ez_ok X_MT_init 2 ∧ ez_link X_EE_init.1.cls 58 X_MT_init.1 ∧ Cond.instanceMethod X_MT_init.1 ∈ ez_T := ⟨ok_MT_init, Or.inl t_214, t_215⟩
theorem lk_EE_block_2 : es_lkV X_EE_block X_EE_editionOf 68 1 0 := ⟨ok_EE_editionOf, Or.inl t_277, t_279, t_0, _, _, rfl⟩
theorem lk_EE_block_10 : es_lkS X_EE_block X_EE_isWithin 72 2 := ⟨ok_EE_isWithin, Or.inl t_284, t_285⟩
theorem lk_EE_block_19 : es_lkV X_EE_block X_EE_isNumberOfKind 76 2 0 := ⟨ok_EE_isNumberOfKind, Or.inl t_354, t_356, t_2, _, _, rfl⟩
theorem lk_EE_block_38 : es_lkV X_EE_block X_ED_hasRoomFor 86 1 1 := ⟨ok_ED_hasRoomFor, Or.inl t_359, t_360, t_361, _, _, rfl⟩
theorem lk_EE_block_55 : es_lkV X_EE_block X_EE_forgetAnswers 95 0 0 := ⟨ok_EE_forgetAnswers, Or.inl t_379, t_381, t_3, _, _, rfl⟩
theorem lk_EE_block_62 : es_lkV X_EE_block X_ED_addBlock 98 2 1 := ⟨ok_ED_addBlock, Or.inl t_391, t_392, t_393, _, _, rfl⟩
theorem lk_EE_wire_2 : es_lkV X_EE_wire X_EE_editionOf 68 1 0 := ⟨ok_EE_editionOf, Or.inl t_277, t_279, t_0, _, _, rfl⟩
theorem lk_EE_wire_10 : es_lkV X_EE_wire X_ED_hasBlock 101 1 1 := ⟨ok_ED_hasBlock, Or.inl t_406, t_407, t_408, _, _, rfl⟩
theorem lk_EE_wire_18 : es_lkS X_EE_wire X_EE_isWithin 72 2 := ⟨ok_EE_isWithin, Or.inl t_284, t_285⟩
theorem lk_EE_wire_28 : es_lkV X_EE_wire X_ED_hasBlockOrNone 104 1 1 := ⟨ok_ED_hasBlockOrNone, Or.inl t_410, t_411, t_412, _, _, rfl⟩
theorem lk_EE_wire_45 : es_lkV X_EE_wire X_EE_forgetAnswers 95 0 0 := ⟨ok_EE_forgetAnswers, Or.inl t_379, t_381, t_3, _, _, rfl⟩
theorem lk_EE_wire_54 : es_lkV X_EE_wire X_ED_rewire 109 3 1 := ⟨ok_ED_rewire, Or.inl t_416, t_417, t_418, _, _, rfl⟩
theorem lk_EE_out_2 : es_lkV X_EE_out X_EE_editionOf 68 1 0 := ⟨ok_EE_editionOf, Or.inl t_277, t_279, t_0, _, _, rfl⟩
theorem lk_EE_out_9 : es_lkS X_EE_out X_EE_isWithin 72 2 := ⟨ok_EE_isWithin, Or.inl t_284, t_285⟩
theorem lk_EE_out_18 : es_lkV X_EE_out X_ED_hasBlockOrNone 104 1 1 := ⟨ok_ED_hasBlockOrNone, Or.inl t_410, t_411, t_412, _, _, rfl⟩
theorem lk_EE_out_35 : es_lkV X_EE_out X_EE_forgetAnswers 95 0 0 := ⟨ok_EE_forgetAnswers, Or.inl t_379, t_381, t_3, _, _, rfl⟩
theorem lk_EE_out_42 : es_lkV X_EE_out X_ED_changeOutput 115 2 1 := ⟨ok_ED_changeOutput, Or.inl t_436, t_437, t_438, _, _, rfl⟩
theorem lk_EE_bar_2 : es_lkV X_EE_bar X_EE_checkRow 118 1 0 := ⟨ok_EE_checkRow, Or.inl t_451, t_453, t_4, _, _, rfl⟩
theorem lk_EE_bar_6 : es_lkV X_EE_bar X_EE_forgetAnswers 95 0 0 := ⟨ok_EE_forgetAnswers, Or.inl t_379, t_381, t_3, _, _, rfl⟩
theorem lk_EE_wrong_2 : es_lkV X_EE_wrong X_EE_editionOf 68 1 0 := ⟨ok_EE_editionOf, Or.inl t_277, t_279, t_0, _, _, rfl⟩
theorem lk_EE_wrong_5 : es_lkV X_EE_wrong X_ED_firstFault 122 0 1 := ⟨ok_ED_firstFault, Or.inl t_463, t_464, t_465, _, _, rfl⟩
theorem lk_EE_value_2 : es_lkV X_EE_value X_EE_editionOf 68 1 0 := ⟨ok_EE_editionOf, Or.inl t_277, t_279, t_0, _, _, rfl⟩
theorem lk_EE_value_6 : es_lkS X_EE_value X_EE_checkBlock 126 2 := ⟨ok_EE_checkBlock, Or.inl t_489, t_490⟩
theorem lk_EE_value_12 : es_lkV X_EE_value X_EE_checkRow 118 1 0 := ⟨ok_EE_checkRow, Or.inl t_451, t_453, t_4, _, _, rfl⟩
theorem lk_EE_value_17 : es_lkV X_EE_value X_EE_behaviourOf 130 1 0 := ⟨ok_EE_behaviourOf, Or.inl t_493, t_495, t_7, _, _, rfl⟩
theorem lk_EE_value_24 : es_lkV X_EE_value X_BH_valueOf 134 3 2 := ⟨ok_BH_valueOf, Or.inl t_570, t_551, t_552, _, _, rfl⟩
theorem lk_EE_tick_2 : es_lkV X_EE_tick X_EE_checkRow 118 1 0 := ⟨ok_EE_checkRow, Or.inl t_451, t_453, t_4, _, _, rfl⟩
theorem lk_EE_tick_7 : es_lkV X_EE_tick X_EE_behaviourOf 130 1 0 := ⟨ok_EE_behaviourOf, Or.inl t_493, t_495, t_7, _, _, rfl⟩
theorem lk_EE_tick_16 : es_lkV X_EE_tick X_BH_outsOf 137 2 2 := ⟨ok_BH_outsOf, Or.inl t_578, t_579, t_580, _, _, rfl⟩
theorem lk_EE_tick_25 : es_lkV X_EE_tick X_BH_stateAfter 140 2 2 := ⟨ok_BH_stateAfter, Or.inl t_582, t_563, t_564, _, _, rfl⟩
theorem lk_EE_reached_2 : es_lkV X_EE_reached X_EE_behaviourOf 130 1 0 := ⟨ok_EE_behaviourOf, Or.inl t_493, t_495, t_7, _, _, rfl⟩
theorem lk_EE_reached_5 : es_lkV X_EE_reached X_BH_countReached 143 0 2 := ⟨ok_BH_countReached, Or.inl t_590, t_591, t_592, _, _, rfl⟩
theorem lk_EE_state_16 : es_lkV X_EE_state X_EE_behaviourOf 130 1 0 := ⟨ok_EE_behaviourOf, Or.inl t_493, t_495, t_7, _, _, rfl⟩
theorem lk_EE_state_20 : es_lkV X_EE_state X_BH_reachedAt 148 1 2 := ⟨ok_BH_reachedAt, Or.inl t_608, t_609, t_610, _, _, rfl⟩
theorem lk_EE_least_2 : es_lkV X_EE_least X_EE_behaviourOf 130 1 0 := ⟨ok_EE_behaviourOf, Or.inl t_493, t_495, t_7, _, _, rfl⟩
theorem lk_EE_least_6 : es_lkV X_EE_least X_EE_openRows 152 0 0 := ⟨ok_EE_openRows, Or.inl t_498, t_500, t_8, _, _, rfl⟩
theorem lk_EE_least_9 : es_lkV X_EE_least X_BH_countClasses 155 1 2 := ⟨ok_BH_countClasses, Or.inl t_619, t_620, t_621, _, _, rfl⟩
theorem lk_EE_compare_1 : es_lkV X_EE_compare X_EE_searchOfBoth 158 0 0 := ⟨ok_EE_searchOfBoth, Or.inl t_651, t_653, t_20, _, _, rfl⟩
theorem lk_EE_compare_4 : es_lkV X_EE_compare X_PS_countShown 162 0 3 := ⟨ok_PS_countShown, Or.inl t_682, t_683, t_684, _, _, rfl⟩
theorem lk_EE_shown_15 : es_lkV X_EE_shown X_EE_searchOfBoth 158 0 0 := ⟨ok_EE_searchOfBoth, Or.inl t_651, t_653, t_20, _, _, rfl⟩
theorem lk_EE_shown_21 : es_lkV X_EE_shown X_PS_countShown 162 0 3 := ⟨ok_PS_countShown, Or.inl t_682, t_683, t_684, _, _, rfl⟩
theorem lk_EE_shown_39 : es_lkV X_EE_shown X_PS_shownRow 169 1 3 := ⟨ok_PS_shownRow, Or.inl t_695, t_696, t_697, _, _, rfl⟩
theorem lk_EE_last_1 : es_lkS X_EE_last X_EE_checkEdition 172 1 := ⟨ok_EE_checkEdition, Or.inl t_281, t_282⟩
theorem lk_EE_last_5 : es_lkV X_EE_last X_EE_searchOfBoth 158 0 0 := ⟨ok_EE_searchOfBoth, Or.inl t_651, t_653, t_20, _, _, rfl⟩
theorem lk_EE_last_9 : es_lkV X_EE_last X_PS_lastOuts 175 1 3 := ⟨ok_PS_lastOuts, Or.inl t_706, t_707, t_708, _, _, rfl⟩
theorem lk_EE_pairs_1 : es_lkV X_EE_pairs X_EE_searchOfBoth 158 0 0 := ⟨ok_EE_searchOfBoth, Or.inl t_651, t_653, t_20, _, _, rfl⟩
theorem lk_EE_pairs_4 : es_lkV X_EE_pairs X_PS_countPairs 178 0 3 := ⟨ok_PS_countPairs, Or.inl t_717, t_718, t_719, _, _, rfl⟩
theorem lk_EE_same_1 : es_lkV X_EE_same X_EE_checkBothRight 181 0 0 := ⟨ok_EE_checkBothRight, Or.inl t_655, t_657, t_21, _, _, rfl⟩
theorem lk_EE_same_8 : es_lkV X_EE_same X_MT_matchAll 184 0 4 := ⟨ok_MT_matchAll, Or.inl t_728, t_729, t_730, _, _, rfl⟩
theorem lk_EE_matched_5 : es_lkS X_EE_matched X_EE_checkBlock 126 2 := ⟨ok_EE_checkBlock, Or.inl t_489, t_490⟩
theorem lk_EE_matched_9 : es_lkV X_EE_matched X_EE_checkBothRight 181 0 0 := ⟨ok_EE_checkBothRight, Or.inl t_655, t_657, t_21, _, _, rfl⟩
theorem lk_EE_matched_16 : es_lkV X_EE_matched X_MT_matchAll 184 0 4 := ⟨ok_MT_matchAll, Or.inl t_728, t_729, t_730, _, _, rfl⟩
theorem lk_EE_matched_27 : es_lkV X_EE_matched X_MT_partnerOf 188 1 4 := ⟨ok_MT_partnerOf, Or.inl t_757, t_746, t_747, _, _, rfl⟩
theorem lk_EE_idle_2 : es_lkV X_EE_idle X_EE_editionOf 68 1 0 := ⟨ok_EE_editionOf, Or.inl t_277, t_279, t_0, _, _, rfl⟩
theorem lk_EE_idle_22 : es_lkV X_EE_idle X_ED_idleAt 193 1 1 := ⟨ok_ED_idleAt, Or.inl t_766, t_767, t_768, _, _, rfl⟩
theorem lk_EE_blocks_2 : es_lkV X_EE_blocks X_EE_editionOf 68 1 0 := ⟨ok_EE_editionOf, Or.inl t_277, t_279, t_0, _, _, rfl⟩
theorem lk_EE_blocks_5 : es_lkV X_EE_blocks X_ED_countBlocks 196 0 1 := ⟨ok_ED_countBlocks, Or.inl t_781, t_515, t_516, _, _, rfl⟩
theorem lk_EE_editionOf_1 : es_lkS X_EE_editionOf X_EE_checkEdition 172 1 := ⟨ok_EE_checkEdition, Or.inl t_281, t_282⟩
theorem lk_EE_behaviourOf_2 : es_lkV X_EE_behaviourOf X_EE_editionOf 68 1 0 := ⟨ok_EE_editionOf, Or.inl t_277, t_279, t_0, _, _, rfl⟩
theorem lk_EE_behaviourOf_5 : es_lkV X_EE_behaviourOf X_ED_firstFault 122 0 1 := ⟨ok_ED_firstFault, Or.inl t_463, t_464, t_465, _, _, rfl⟩
theorem lk_EE_behaviourOf_44 : es_lkV X_EE_behaviourOf X_EE_openRows 152 0 0 := ⟨ok_EE_openRows, Or.inl t_498, t_500, t_8, _, _, rfl⟩
theorem lk_EE_behaviourOf_47 : es_lkV X_EE_behaviourOf X_BH_learn 201 2 2 := ⟨ok_BH_learn, Or.inl t_502, t_503, t_504, _, _, rfl⟩
theorem lk_EE_searchOfBoth_1 : es_lkV X_EE_searchOfBoth X_EE_checkBothRight 181 0 0 := ⟨ok_EE_checkBothRight, Or.inl t_655, t_657, t_21, _, _, rfl⟩
theorem lk_EE_searchOfBoth_13 : es_lkV X_EE_searchOfBoth X_EE_openRows 152 0 0 := ⟨ok_EE_openRows, Or.inl t_498, t_500, t_8, _, _, rfl⟩
theorem lk_EE_searchOfBoth_16 : es_lkV X_EE_searchOfBoth X_BH_learn 201 2 2 := ⟨ok_BH_learn, Or.inl t_502, t_503, t_504, _, _, rfl⟩
theorem lk_EE_searchOfBoth_28 : es_lkV X_EE_searchOfBoth X_EE_openRows 152 0 0 := ⟨ok_EE_openRows, Or.inl t_498, t_500, t_8, _, _, rfl⟩
theorem lk_EE_searchOfBoth_31 : es_lkV X_EE_searchOfBoth X_BH_learn 201 2 2 := ⟨ok_BH_learn, Or.inl t_502, t_503, t_504, _, _, rfl⟩
theorem lk_EE_searchOfBoth_39 : es_lkV X_EE_searchOfBoth X_EE_openRows 152 0 0 := ⟨ok_EE_openRows, Or.inl t_498, t_500, t_8, _, _, rfl⟩
theorem lk_EE_searchOfBoth_42 : es_lkV X_EE_searchOfBoth X_PS_learn 205 1 3 := ⟨ok_PS_learn, Or.inl t_660, t_661, t_662, _, _, rfl⟩
theorem lk_EE_forgetAnswers_4 : es_lkV X_EE_forgetAnswers X_BH_forget 207 0 2 := ⟨ok_BH_forget, Or.inl t_383, t_384, t_385, _, _, rfl⟩
theorem lk_EE_forgetAnswers_11 : es_lkV X_EE_forgetAnswers X_BH_forget 207 0 2 := ⟨ok_BH_forget, Or.inl t_383, t_384, t_385, _, _, rfl⟩
theorem lk_EE_forgetAnswers_18 : es_lkV X_EE_forgetAnswers X_PS_forget 210 0 3 := ⟨ok_PS_forget, Or.inl t_387, t_388, t_389, _, _, rfl⟩
theorem lk_EE_isNumberOfKind_33 : es_lkS X_EE_isNumberOfKind X_EE_isWithin 72 2 := ⟨ok_EE_isWithin, Or.inl t_284, t_285⟩
theorem lk_EE_isNumberOfKind_39 : es_lkS X_EE_isNumberOfKind X_EE_isWithin 72 2 := ⟨ok_EE_isWithin, Or.inl t_284, t_285⟩
theorem lk_EE_checkRow_5 : es_lkS X_EE_checkRow X_EE_isWithin 72 2 := ⟨ok_EE_isWithin, Or.inl t_284, t_285⟩
theorem lk_EE_checkBothRight_4 : es_lkV X_EE_checkBothRight X_ED_firstFault 122 0 1 := ⟨ok_ED_firstFault, Or.inl t_463, t_464, t_465, _, _, rfl⟩
theorem lk_EE_checkBothRight_15 : es_lkV X_EE_checkBothRight X_ED_firstFault 122 0 1 := ⟨ok_ED_firstFault, Or.inl t_463, t_464, t_465, _, _, rfl⟩
theorem lk_EE_checkEdition_2 : es_lkS X_EE_checkEdition X_EE_isWithin 72 2 := ⟨ok_EE_isWithin, Or.inl t_284, t_285⟩
theorem lk_EE_checkBlock_2 : es_lkV X_EE_checkBlock X_ED_hasBlock 101 1 1 := ⟨ok_ED_hasBlock, Or.inl t_406, t_407, t_408, _, _, rfl⟩
theorem lk_MD_isBlock_3 : es_lkS X_MD_isBlock X_MD_in 69 3 := ⟨ok_MD_in, Or.inl t_864, t_865⟩
theorem lk_MD_isBlock_19 : es_lkS X_MD_isBlock X_MD_in 69 3 := ⟨ok_MD_in, Or.inl t_864, t_865⟩
theorem lk_MD_isRow_10 : es_lkS X_MD_isRow X_MD_in 69 3 := ⟨ok_MD_in, Or.inl t_864, t_865⟩
theorem lk_MD_block_3 : es_lkS X_MD_block X_MD_in 69 3 := ⟨ok_MD_in, Or.inl t_864, t_865⟩
theorem lk_MD_block_13 : es_lkS X_MD_block X_MD_in 69 3 := ⟨ok_MD_in, Or.inl t_864, t_865⟩
theorem lk_MD_block_31 : es_lkS X_MD_block X_MD_in 69 3 := ⟨ok_MD_in, Or.inl t_864, t_865⟩
theorem lk_MD_block_45 : es_lkS X_MD_block X_MD_in 69 3 := ⟨ok_MD_in, Or.inl t_864, t_865⟩
theorem lk_MD_block_85 : es_lkV X_MD_block X_MD_delays 73 1 5 := ⟨ok_MD_delays, Or.inl t_867, t_869, t_28, _, _, rfl⟩
theorem lk_MD_block_97 : es_lkV X_MD_block X_MD_goes 77 2 5 := ⟨ok_MD_goes, Or.inl t_871, t_873, t_29, _, _, rfl⟩
theorem lk_MD_wire_4 : es_lkV X_MD_wire X_MD_isBlock 81 2 5 := ⟨ok_MD_isBlock, Or.inl t_879, t_881, t_30, _, _, rfl⟩
theorem lk_MD_wire_13 : es_lkS X_MD_wire X_MD_in 69 3 := ⟨ok_MD_in, Or.inl t_864, t_865⟩
theorem lk_MD_wire_29 : es_lkV X_MD_wire X_MD_isBlock 81 2 5 := ⟨ok_MD_isBlock, Or.inl t_879, t_881, t_30, _, _, rfl⟩
theorem lk_MD_wire_41 : es_lkV X_MD_wire X_MD_goes 77 2 5 := ⟨ok_MD_goes, Or.inl t_871, t_873, t_29, _, _, rfl⟩
theorem lk_MD_wire_61 : es_lkV X_MD_wire X_MD_input 85 3 5 := ⟨ok_MD_input, Or.inl t_883, t_885, t_31, _, _, rfl⟩
theorem lk_MD_out_4 : es_lkS X_MD_out X_MD_in 69 3 := ⟨ok_MD_in, Or.inl t_864, t_865⟩
theorem lk_MD_out_13 : es_lkS X_MD_out X_MD_in 69 3 := ⟨ok_MD_in, Or.inl t_864, t_865⟩
theorem lk_MD_out_27 : es_lkV X_MD_out X_MD_isBlock 81 2 5 := ⟨ok_MD_isBlock, Or.inl t_879, t_881, t_30, _, _, rfl⟩
theorem lk_MD_out_39 : es_lkV X_MD_out X_MD_goes 77 2 5 := ⟨ok_MD_goes, Or.inl t_871, t_873, t_29, _, _, rfl⟩
theorem lk_MD_bar_3 : es_lkV X_MD_bar X_MD_isRow 89 1 5 := ⟨ok_MD_isRow, Or.inl t_895, t_897, t_32, _, _, rfl⟩
theorem lk_MD_bar_7 : es_lkV X_MD_bar X_MD_goes 77 2 5 := ⟨ok_MD_goes, Or.inl t_871, t_873, t_29, _, _, rfl⟩
theorem lk_MD_isRound_24 : es_lkV X_MD_isRound X_MD_mark 93 2 5 := ⟨ok_MD_mark, Or.inl t_914, t_916, t_35, _, _, rfl⟩
theorem lk_MD_isRound_73 : es_lkV X_MD_isRound X_MD_mark 93 2 5 := ⟨ok_MD_mark, Or.inl t_914, t_916, t_35, _, _, rfl⟩
theorem lk_MD_mark_21 : es_lkS X_MD_mark X_MD_needs 96 1 := ⟨ok_MD_needs, Or.inl t_907, t_908⟩
theorem lk_MD_mark_38 : es_lkV X_MD_mark X_MD_input 85 3 5 := ⟨ok_MD_input, Or.inl t_883, t_885, t_31, _, _, rfl⟩
theorem lk_MD_fault_26 : es_lkS X_MD_fault X_MD_needs 96 1 := ⟨ok_MD_needs, Or.inl t_907, t_908⟩
theorem lk_MD_fault_36 : es_lkV X_MD_fault X_MD_input 85 3 5 := ⟨ok_MD_input, Or.inl t_883, t_885, t_31, _, _, rfl⟩
theorem lk_MD_fault_72 : es_lkV X_MD_fault X_MD_isRound 99 2 5 := ⟨ok_MD_isRound, Or.inl t_910, t_912, t_34, _, _, rfl⟩
theorem lk_MD_wrong_4 : es_lkS X_MD_wrong X_MD_in 69 3 := ⟨ok_MD_in, Or.inl t_864, t_865⟩
theorem lk_MD_wrong_8 : es_lkV X_MD_wrong X_MD_goes 77 2 5 := ⟨ok_MD_goes, Or.inl t_871, t_873, t_29, _, _, rfl⟩
theorem lk_MD_wrong_16 : es_lkV X_MD_wrong X_MD_fault 102 1 5 := ⟨ok_MD_fault, Or.inl t_903, t_905, t_33, _, _, rfl⟩
theorem lk_MD_isRight_3 : es_lkS X_MD_isRight X_MD_in 69 3 := ⟨ok_MD_in, Or.inl t_864, t_865⟩
theorem lk_MD_isRight_11 : es_lkV X_MD_isRight X_MD_fault 102 1 5 := ⟨ok_MD_fault, Or.inl t_903, t_905, t_33, _, _, rfl⟩
theorem lk_MD_areRight_2 : es_lkV X_MD_areRight X_MD_isRight 105 1 5 := ⟨ok_MD_isRight, Or.inl t_922, t_924, t_36, _, _, rfl⟩
theorem lk_MD_areRight_10 : es_lkV X_MD_areRight X_MD_isRight 105 1 5 := ⟨ok_MD_isRight, Or.inl t_922, t_924, t_36, _, _, rfl⟩
theorem lk_MD_settle_159 : es_lkV X_MD_settle X_MD_reckon 108 2 5 := ⟨ok_MD_reckon, Or.inl t_930, t_932, t_38, _, _, rfl⟩
theorem lk_MD_reckon_20 : es_lkV X_MD_reckon X_MD_input 85 3 5 := ⟨ok_MD_input, Or.inl t_883, t_885, t_31, _, _, rfl⟩
theorem lk_MD_reckon_43 : es_lkV X_MD_reckon X_MD_input 85 3 5 := ⟨ok_MD_input, Or.inl t_883, t_885, t_31, _, _, rfl⟩
theorem lk_MD_answer_4 : es_lkV X_MD_answer X_MD_settle 112 3 5 := ⟨ok_MD_settle, Or.inl t_926, t_928, t_37, _, _, rfl⟩
theorem lk_MD_answer_109 : es_lkV X_MD_answer X_MD_input 85 3 5 := ⟨ok_MD_input, Or.inl t_883, t_885, t_31, _, _, rfl⟩
theorem lk_MD_value_4 : es_lkV X_MD_value X_MD_isBlock 81 2 5 := ⟨ok_MD_isBlock, Or.inl t_879, t_881, t_30, _, _, rfl⟩
theorem lk_MD_value_13 : es_lkV X_MD_value X_MD_isRow 89 1 5 := ⟨ok_MD_isRow, Or.inl t_895, t_897, t_32, _, _, rfl⟩
theorem lk_MD_value_26 : es_lkV X_MD_value X_MD_isRight 105 1 5 := ⟨ok_MD_isRight, Or.inl t_922, t_924, t_36, _, _, rfl⟩
theorem lk_MD_value_29 : es_lkV X_MD_value X_MD_goes 77 2 5 := ⟨ok_MD_goes, Or.inl t_871, t_873, t_29, _, _, rfl⟩
theorem lk_MD_value_42 : es_lkV X_MD_value X_MD_settle 112 3 5 := ⟨ok_MD_settle, Or.inl t_926, t_928, t_37, _, _, rfl⟩
theorem lk_MD_tick_4 : es_lkS X_MD_tick X_MD_in 69 3 := ⟨ok_MD_in, Or.inl t_864, t_865⟩
theorem lk_MD_tick_12 : es_lkV X_MD_tick X_MD_isRow 89 1 5 := ⟨ok_MD_isRow, Or.inl t_895, t_897, t_32, _, _, rfl⟩
theorem lk_MD_tick_25 : es_lkV X_MD_tick X_MD_isRight 105 1 5 := ⟨ok_MD_isRight, Or.inl t_922, t_924, t_36, _, _, rfl⟩
theorem lk_MD_tick_28 : es_lkV X_MD_tick X_MD_goes 77 2 5 := ⟨ok_MD_goes, Or.inl t_871, t_873, t_29, _, _, rfl⟩
theorem lk_MD_tick_38 : es_lkV X_MD_tick X_MD_answer 116 3 5 := ⟨ok_MD_answer, Or.inl t_938, t_940, t_39, _, _, rfl⟩
theorem lk_MD_explore_3 : es_lkV X_MD_explore X_MD_delays 73 1 5 := ⟨ok_MD_delays, Or.inl t_867, t_869, t_28, _, _, rfl⟩
theorem lk_MD_explore_76 : es_lkV X_MD_explore X_MD_answer 116 3 5 := ⟨ok_MD_answer, Or.inl t_938, t_940, t_39, _, _, rfl⟩
theorem lk_MD_reached_4 : es_lkS X_MD_reached X_MD_in 69 3 := ⟨ok_MD_in, Or.inl t_864, t_865⟩
theorem lk_MD_reached_9 : es_lkV X_MD_reached X_MD_isRight 105 1 5 := ⟨ok_MD_isRight, Or.inl t_922, t_924, t_36, _, _, rfl⟩
theorem lk_MD_reached_12 : es_lkV X_MD_reached X_MD_goes 77 2 5 := ⟨ok_MD_goes, Or.inl t_871, t_873, t_29, _, _, rfl⟩
theorem lk_MD_reached_22 : es_lkV X_MD_reached X_MD_explore 119 1 5 := ⟨ok_MD_explore, Or.inl t_946, t_948, t_40, _, _, rfl⟩
theorem lk_MD_reached_27 : es_lkV X_MD_reached X_MD_reachedCount 123 1 5 := ⟨ok_MD_reachedCount, Or.inl t_950, t_952, t_41, _, _, rfl⟩
theorem lk_MD_state_4 : es_lkS X_MD_state X_MD_in 69 3 := ⟨ok_MD_in, Or.inl t_864, t_865⟩
theorem lk_MD_state_21 : es_lkV X_MD_state X_MD_isRight 105 1 5 := ⟨ok_MD_isRight, Or.inl t_922, t_924, t_36, _, _, rfl⟩
theorem lk_MD_state_24 : es_lkV X_MD_state X_MD_goes 77 2 5 := ⟨ok_MD_goes, Or.inl t_871, t_873, t_29, _, _, rfl⟩
theorem lk_MD_state_34 : es_lkV X_MD_state X_MD_explore 119 1 5 := ⟨ok_MD_explore, Or.inl t_946, t_948, t_40, _, _, rfl⟩
theorem lk_MD_least_4 : es_lkS X_MD_least X_MD_in 69 3 := ⟨ok_MD_in, Or.inl t_864, t_865⟩
theorem lk_MD_least_9 : es_lkV X_MD_least X_MD_isRight 105 1 5 := ⟨ok_MD_isRight, Or.inl t_922, t_924, t_36, _, _, rfl⟩
theorem lk_MD_least_12 : es_lkV X_MD_least X_MD_goes 77 2 5 := ⟨ok_MD_goes, Or.inl t_871, t_873, t_29, _, _, rfl⟩
theorem lk_MD_least_22 : es_lkV X_MD_least X_MD_explore 119 1 5 := ⟨ok_MD_explore, Or.inl t_946, t_948, t_40, _, _, rfl⟩
theorem lk_MD_least_50 : es_lkV X_MD_least X_MD_delays 73 1 5 := ⟨ok_MD_delays, Or.inl t_867, t_869, t_28, _, _, rfl⟩
theorem lk_MD_least_103 : es_lkV X_MD_least X_MD_tells 126 3 5 := ⟨ok_MD_tells, Or.inl t_962, t_964, t_42, _, _, rfl⟩
theorem lk_MD_goOver_2 : es_lkV X_MD_goOver X_MD_explore 119 1 5 := ⟨ok_MD_explore, Or.inl t_946, t_948, t_40, _, _, rfl⟩
theorem lk_MD_goOver_7 : es_lkV X_MD_goOver X_MD_explore 119 1 5 := ⟨ok_MD_explore, Or.inl t_946, t_948, t_40, _, _, rfl⟩
theorem lk_MD_goOver_46 : es_lkV X_MD_goOver X_MD_meet 135 3 5 := ⟨ok_MD_meet, Or.inl t_978, t_980, t_45, _, _, rfl⟩
theorem lk_MD_goOver_179 : es_lkV X_MD_goOver X_MD_meet 135 3 5 := ⟨ok_MD_meet, Or.inl t_978, t_980, t_45, _, _, rfl⟩
theorem lk_MD_compare_2 : es_lkV X_MD_compare X_MD_areRight 141 0 5 := ⟨ok_MD_areRight, Or.inl t_970, t_972, t_43, _, _, rfl⟩
theorem lk_MD_compare_6 : es_lkV X_MD_compare X_MD_goes 77 2 5 := ⟨ok_MD_goes, Or.inl t_871, t_873, t_29, _, _, rfl⟩
theorem lk_MD_compare_15 : es_lkV X_MD_compare X_MD_goOver 145 0 5 := ⟨ok_MD_goOver, Or.inl t_974, t_976, t_44, _, _, rfl⟩
theorem lk_MD_compare_19 : es_lkV X_MD_compare X_MD_shownCount 148 0 5 := ⟨ok_MD_shownCount, Or.inl t_982, t_984, t_46, _, _, rfl⟩
theorem lk_MD_shown_1 : es_lkV X_MD_shown X_MD_areRight 141 0 5 := ⟨ok_MD_areRight, Or.inl t_970, t_972, t_43, _, _, rfl⟩
theorem lk_MD_shown_12 : es_lkV X_MD_shown X_MD_goOver 145 0 5 := ⟨ok_MD_goOver, Or.inl t_974, t_976, t_44, _, _, rfl⟩
theorem lk_MD_shown_16 : es_lkV X_MD_shown X_MD_shownCount 148 0 5 := ⟨ok_MD_shownCount, Or.inl t_982, t_984, t_46, _, _, rfl⟩
theorem lk_MD_shown_40 : es_lkV X_MD_shown X_MD_goes 77 2 5 := ⟨ok_MD_goes, Or.inl t_871, t_873, t_29, _, _, rfl⟩
theorem lk_MD_last_4 : es_lkS X_MD_last X_MD_in 69 3 := ⟨ok_MD_in, Or.inl t_864, t_865⟩
theorem lk_MD_last_8 : es_lkV X_MD_last X_MD_areRight 141 0 5 := ⟨ok_MD_areRight, Or.inl t_970, t_972, t_43, _, _, rfl⟩
theorem lk_MD_last_11 : es_lkV X_MD_last X_MD_goes 77 2 5 := ⟨ok_MD_goes, Or.inl t_871, t_873, t_29, _, _, rfl⟩
theorem lk_MD_last_20 : es_lkV X_MD_last X_MD_goOver 145 0 5 := ⟨ok_MD_goOver, Or.inl t_974, t_976, t_44, _, _, rfl⟩
theorem lk_MD_pairs_2 : es_lkV X_MD_pairs X_MD_areRight 141 0 5 := ⟨ok_MD_areRight, Or.inl t_970, t_972, t_43, _, _, rfl⟩
theorem lk_MD_pairs_6 : es_lkV X_MD_pairs X_MD_goes 77 2 5 := ⟨ok_MD_goes, Or.inl t_871, t_873, t_29, _, _, rfl⟩
theorem lk_MD_pairs_15 : es_lkV X_MD_pairs X_MD_goOver 145 0 5 := ⟨ok_MD_goOver, Or.inl t_974, t_976, t_44, _, _, rfl⟩
theorem lk_MD_areSame_187 : es_lkS X_MD_areSame X_MD_needs 96 1 := ⟨ok_MD_needs, Or.inl t_907, t_908⟩
theorem lk_MD_areSame_200 : es_lkV X_MD_areSame X_MD_input 85 3 5 := ⟨ok_MD_input, Or.inl t_883, t_885, t_31, _, _, rfl⟩
theorem lk_MD_areSame_210 : es_lkV X_MD_areSame X_MD_input 85 3 5 := ⟨ok_MD_input, Or.inl t_883, t_885, t_31, _, _, rfl⟩
theorem lk_MD_areSame_260 : es_lkV X_MD_areSame X_MD_areSingle 152 0 5 := ⟨ok_MD_areSingle, Or.inl t_1006, t_1008, t_48, _, _, rfl⟩
theorem lk_MD_same_2 : es_lkV X_MD_same X_MD_areRight 141 0 5 := ⟨ok_MD_areRight, Or.inl t_970, t_972, t_43, _, _, rfl⟩
theorem lk_MD_same_6 : es_lkV X_MD_same X_MD_goes 77 2 5 := ⟨ok_MD_goes, Or.inl t_871, t_873, t_29, _, _, rfl⟩
theorem lk_MD_same_13 : es_lkV X_MD_same X_MD_areSame 155 0 5 := ⟨ok_MD_areSame, Or.inl t_1002, t_1004, t_47, _, _, rfl⟩
theorem lk_MD_matched_4 : es_lkV X_MD_matched X_MD_isBlock 81 2 5 := ⟨ok_MD_isBlock, Or.inl t_879, t_881, t_30, _, _, rfl⟩
theorem lk_MD_matched_8 : es_lkV X_MD_matched X_MD_areRight 141 0 5 := ⟨ok_MD_areRight, Or.inl t_970, t_972, t_43, _, _, rfl⟩
theorem lk_MD_matched_11 : es_lkV X_MD_matched X_MD_goes 77 2 5 := ⟨ok_MD_goes, Or.inl t_871, t_873, t_29, _, _, rfl⟩
theorem lk_MD_matched_20 : es_lkV X_MD_matched X_MD_areSame 155 0 5 := ⟨ok_MD_areSame, Or.inl t_1002, t_1004, t_47, _, _, rfl⟩
theorem lk_MD_idle_4 : es_lkS X_MD_idle X_MD_in 69 3 := ⟨ok_MD_in, Or.inl t_864, t_865⟩
theorem lk_MD_idle_20 : es_lkV X_MD_idle X_MD_goes 77 2 5 := ⟨ok_MD_goes, Or.inl t_871, t_873, t_29, _, _, rfl⟩
theorem lk_MD_idle_131 : es_lkS X_MD_idle X_MD_needs 96 1 := ⟨ok_MD_needs, Or.inl t_907, t_908⟩
theorem lk_MD_idle_153 : es_lkV X_MD_idle X_MD_input 85 3 5 := ⟨ok_MD_input, Or.inl t_883, t_885, t_31, _, _, rfl⟩
theorem lk_MD_blocks_4 : es_lkS X_MD_blocks X_MD_in 69 3 := ⟨ok_MD_in, Or.inl t_864, t_865⟩
theorem lk_MD_blocks_8 : es_lkV X_MD_blocks X_MD_goes 77 2 5 := ⟨ok_MD_goes, Or.inl t_871, t_873, t_29, _, _, rfl⟩
theorem lk_BH_learn_14 : es_lkV X_BH_learn X_ED_countDelays 54 0 1 := ⟨ok_ED_countDelays, Or.inl t_506, t_507, t_508, _, _, rfl⟩
theorem lk_BH_learn_22 : es_lkV X_BH_learn X_BH_orderBlocks 60 0 2 := ⟨ok_BH_orderBlocks, Or.inl t_510, t_512, t_9, _, _, rfl⟩
theorem lk_BH_learn_40 : es_lkV X_BH_learn X_BH_fillColumns 63 1 2 := ⟨ok_BH_fillColumns, Or.inl t_521, t_523, t_10, _, _, rfl⟩
theorem lk_BH_learn_45 : es_lkV X_BH_learn X_BH_fillTicks 67 1 2 := ⟨ok_BH_fillTicks, Or.inl t_545, t_547, t_13, _, _, rfl⟩
theorem lk_BH_learn_56 : es_lkV X_BH_learn X_BH_findReached 70 1 2 := ⟨ok_BH_findReached, Or.inl t_558, t_560, t_14, _, _, rfl⟩
theorem lk_BH_valueOf_3 : es_lkV X_BH_valueOf X_BH_columnAt 73 2 2 := ⟨ok_BH_columnAt, Or.inl t_534, t_536, t_12, _, _, rfl⟩
theorem lk_BH_outsOf_3 : es_lkS X_BH_outsOf X_EE_isWithin 77 2 := ⟨ok_EE_isWithin, Or.inr ⟨_, t_538⟩, t_285⟩
theorem lk_BH_outsOf_16 : es_lkV X_BH_outsOf X_BH_placeOf 81 2 2 := ⟨ok_BH_placeOf, Or.inl t_566, t_568, t_15, _, _, rfl⟩
theorem lk_BH_stateAfter_3 : es_lkS X_BH_stateAfter X_EE_isWithin 77 2 := ⟨ok_EE_isWithin, Or.inr ⟨_, t_538⟩, t_285⟩
theorem lk_BH_stateAfter_16 : es_lkV X_BH_stateAfter X_BH_placeOf 81 2 2 := ⟨ok_BH_placeOf, Or.inl t_566, t_568, t_15, _, _, rfl⟩
theorem lk_BH_countReached_4 : es_lkS X_BH_countReached X_JI_bitCount 84 1 := ⟨ok_JI_bitCount, Or.inl t_594, t_595⟩
theorem lk_BH_reachedAt_15 : es_lkS X_BH_reachedAt X_EE_holds 90 2 := ⟨ok_EE_holds, Or.inr ⟨_, t_519⟩, t_480⟩
theorem lk_BH_orderBlocks_23 : es_lkV X_BH_orderBlocks X_ED_countBlocks 93 0 1 := ⟨ok_ED_countBlocks, Or.inl t_514, t_515, t_516, _, _, rfl⟩
theorem lk_BH_orderBlocks_36 : es_lkV X_BH_orderBlocks X_ED_countBlocks 93 0 1 := ⟨ok_ED_countBlocks, Or.inl t_514, t_515, t_516, _, _, rfl⟩
theorem lk_BH_orderBlocks_47 : es_lkV X_BH_orderBlocks X_ED_neededInTick 96 1 1 := ⟨ok_ED_neededInTick, Or.inl t_518, t_476, t_477, _, _, rfl⟩
theorem lk_BH_orderBlocks_71 : es_lkS X_BH_orderBlocks X_EE_holds 90 2 := ⟨ok_EE_holds, Or.inr ⟨_, t_519⟩, t_480⟩
theorem lk_BH_orderBlocks_108 : es_lkS X_BH_orderBlocks X_EE_bitOf 99 1 := ⟨ok_EE_bitOf, Or.inr ⟨_, t_520⟩, t_426⟩
theorem lk_BH_fillColumns_30 : es_lkV X_BH_fillColumns X_BH_workOutColumn 102 2 2 := ⟨ok_BH_workOutColumn, Or.inl t_525, t_527, t_11, _, _, rfl⟩
theorem lk_BH_workOutColumn_5 : es_lkV X_BH_workOutColumn X_ED_numberOf 105 1 1 := ⟨ok_ED_numberOf, Or.inl t_529, t_530, t_531, _, _, rfl⟩
theorem lk_BH_workOutColumn_16 : es_lkV X_BH_workOutColumn X_ED_neededAt 108 2 1 := ⟨ok_ED_neededAt, Or.inl t_533, t_422, t_423, _, _, rfl⟩
theorem lk_BH_workOutColumn_20 : es_lkV X_BH_workOutColumn X_BH_columnAt 73 2 2 := ⟨ok_BH_columnAt, Or.inl t_534, t_536, t_12, _, _, rfl⟩
theorem lk_BH_workOutColumn_32 : es_lkV X_BH_workOutColumn X_ED_neededAt 108 2 1 := ⟨ok_ED_neededAt, Or.inl t_533, t_422, t_423, _, _, rfl⟩
theorem lk_BH_workOutColumn_36 : es_lkV X_BH_workOutColumn X_BH_columnAt 73 2 2 := ⟨ok_BH_columnAt, Or.inl t_534, t_536, t_12, _, _, rfl⟩
theorem lk_BH_workOutColumn_46 : es_lkV X_BH_workOutColumn X_ED_kindOf 111 1 1 := ⟨ok_ED_kindOf, Or.inl t_539, t_540, t_541, _, _, rfl⟩
theorem lk_BH_workOutColumn_90 : es_lkS X_BH_workOutColumn X_EE_holds 90 2 := ⟨ok_EE_holds, Or.inr ⟨_, t_519⟩, t_480⟩
theorem lk_BH_workOutColumn_138 : es_lkS X_BH_workOutColumn X_EE_isWithin 77 2 := ⟨ok_EE_isWithin, Or.inr ⟨_, t_538⟩, t_285⟩
theorem lk_BH_columnAt_3 : es_lkS X_BH_columnAt X_EE_isWithin 77 2 := ⟨ok_EE_isWithin, Or.inr ⟨_, t_538⟩, t_285⟩
theorem lk_BH_columnAt_12 : es_lkS X_BH_columnAt X_EE_isWithin 77 2 := ⟨ok_EE_isWithin, Or.inr ⟨_, t_538⟩, t_285⟩
theorem lk_BH_fillTicks_35 : es_lkV X_BH_fillTicks X_ED_outputAt 117 1 1 := ⟨ok_ED_outputAt, Or.inl t_549, t_441, t_442, _, _, rfl⟩
theorem lk_BH_fillTicks_40 : es_lkV X_BH_fillTicks X_BH_valueOf 120 3 2 := ⟨ok_BH_valueOf, Or.inl t_550, t_551, t_552, _, _, rfl⟩
theorem lk_BH_fillTicks_66 : es_lkV X_BH_fillTicks X_ED_countDelays 54 0 1 := ⟨ok_ED_countDelays, Or.inl t_506, t_507, t_508, _, _, rfl⟩
theorem lk_BH_fillTicks_82 : es_lkV X_BH_fillTicks X_ED_delayAt 124 1 1 := ⟨ok_ED_delayAt, Or.inl t_554, t_555, t_556, _, _, rfl⟩
theorem lk_BH_fillTicks_86 : es_lkV X_BH_fillTicks X_ED_neededAt 108 2 1 := ⟨ok_ED_neededAt, Or.inl t_533, t_422, t_423, _, _, rfl⟩
theorem lk_BH_fillTicks_98 : es_lkV X_BH_fillTicks X_BH_valueOf 120 3 2 := ⟨ok_BH_valueOf, Or.inl t_550, t_551, t_552, _, _, rfl⟩
theorem lk_BH_findReached_11 : es_lkS X_BH_findReached X_EE_bitOf 99 1 := ⟨ok_EE_bitOf, Or.inr ⟨_, t_520⟩, t_426⟩
theorem lk_BH_findReached_43 : es_lkS X_BH_findReached X_EE_holds 90 2 := ⟨ok_EE_holds, Or.inr ⟨_, t_519⟩, t_480⟩
theorem lk_BH_findReached_58 : es_lkV X_BH_findReached X_BH_stateAfter 127 2 2 := ⟨ok_BH_stateAfter, Or.inl t_562, t_563, t_564, _, _, rfl⟩
theorem lk_BH_findReached_73 : es_lkS X_BH_findReached X_EE_holds 90 2 := ⟨ok_EE_holds, Or.inr ⟨_, t_519⟩, t_480⟩
theorem lk_BH_findReached_92 : es_lkS X_BH_findReached X_EE_bitOf 99 1 := ⟨ok_EE_bitOf, Or.inr ⟨_, t_520⟩, t_426⟩
theorem lk_BH_countClasses_5 : es_lkS X_BH_countClasses X_JA_fill 130 2 := ⟨ok_JA_fill, Or.inl t_623, t_86⟩
theorem lk_BH_countClasses_20 : es_lkS X_BH_countClasses X_EE_holds 90 2 := ⟨ok_EE_holds, Or.inr ⟨_, t_519⟩, t_480⟩
theorem lk_BH_countClasses_28 : es_lkV X_BH_countClasses X_BH_partByOuts 136 1 2 := ⟨ok_BH_partByOuts, Or.inl t_624, t_626, t_16, _, _, rfl⟩
theorem lk_BH_countClasses_70 : es_lkS X_BH_countClasses X_EE_holds 90 2 := ⟨ok_EE_holds, Or.inr ⟨_, t_519⟩, t_480⟩
theorem lk_BH_countClasses_79 : es_lkV X_BH_countClasses X_BH_partByNextClass 139 1 2 := ⟨ok_BH_partByNextClass, Or.inl t_640, t_642, t_19, _, _, rfl⟩
theorem lk_BH_partByOuts_16 : es_lkV X_BH_partByOuts X_BH_outsOf 142 2 2 := ⟨ok_BH_outsOf, Or.inl t_628, t_579, t_580, _, _, rfl⟩
theorem lk_BH_partByOuts_27 : es_lkV X_BH_partByOuts X_BH_partByKeys 145 0 2 := ⟨ok_BH_partByKeys, Or.inl t_629, t_631, t_17, _, _, rfl⟩
theorem lk_BH_partByNextClass_11 : es_lkV X_BH_partByNextClass X_BH_stateAfter 127 2 2 := ⟨ok_BH_stateAfter, Or.inl t_562, t_563, t_564, _, _, rfl⟩
theorem lk_BH_partByNextClass_23 : es_lkS X_BH_partByNextClass X_EE_isWithin 77 2 := ⟨ok_EE_isWithin, Or.inr ⟨_, t_538⟩, t_285⟩
theorem lk_BH_partByNextClass_47 : es_lkV X_BH_partByNextClass X_BH_partByKeys 145 0 2 := ⟨ok_BH_partByKeys, Or.inl t_629, t_631, t_17, _, _, rfl⟩
theorem lk_BH_partByKeys_15 : es_lkS X_BH_partByKeys X_EE_holds 90 2 := ⟨ok_EE_holds, Or.inr ⟨_, t_519⟩, t_480⟩
theorem lk_BH_partByKeys_23 : es_lkV X_BH_partByKeys X_BH_firstLike 148 1 2 := ⟨ok_BH_firstLike, Or.inl t_633, t_635, t_18, _, _, rfl⟩
theorem lk_BH_firstLike_52 : es_lkS X_BH_firstLike X_EE_holds 90 2 := ⟨ok_EE_holds, Or.inr ⟨_, t_519⟩, t_480⟩
theorem lk_ED_init_81 : es_lkS X_ED_init X_JA_fill 43 2 := ⟨ok_JA_fill, Or.inl t_85, t_86⟩
theorem lk_ED_init_89 : es_lkS X_ED_init X_JA_fill 43 2 := ⟨ok_JA_fill, Or.inl t_85, t_86⟩
theorem lk_ED_addBlock_2 : es_lkV X_ED_addBlock X_ED_hasRoomFor 49 1 1 := ⟨ok_ED_hasRoomFor, Or.inl t_395, t_360, t_361, _, _, rfl⟩
theorem lk_ED_addBlock_35 : es_lkS X_ED_addBlock X_ED_countNeeded 53 1 := ⟨ok_ED_countNeeded, Or.inl t_396, t_397⟩
theorem lk_ED_rewire_2 : es_lkV X_ED_rewire X_ED_hasBlock 57 1 1 := ⟨ok_ED_hasBlock, Or.inl t_414, t_407, t_408, _, _, rfl⟩
theorem lk_ED_rewire_10 : es_lkS X_ED_rewire X_EE_isWithin 60 2 := ⟨ok_EE_isWithin, Or.inr ⟨_, t_420⟩, t_285⟩
theorem lk_ED_rewire_49 : es_lkV X_ED_rewire X_ED_neededAt 64 2 1 := ⟨ok_ED_neededAt, Or.inl t_421, t_422, t_423, _, _, rfl⟩
theorem lk_ED_rewire_52 : es_lkS X_ED_rewire X_EE_bitOf 68 1 := ⟨ok_EE_bitOf, Or.inr ⟨_, t_425⟩, t_426⟩
theorem lk_ED_rewire_58 : es_lkV X_ED_rewire X_ED_neededAt 64 2 1 := ⟨ok_ED_neededAt, Or.inl t_421, t_422, t_423, _, _, rfl⟩
theorem lk_ED_rewire_61 : es_lkS X_ED_rewire X_EE_bitOf 68 1 := ⟨ok_EE_bitOf, Or.inr ⟨_, t_425⟩, t_426⟩
theorem lk_ED_changeOutput_2 : es_lkV X_ED_changeOutput X_ED_outputAt 71 1 1 := ⟨ok_ED_outputAt, Or.inl t_440, t_441, t_442, _, _, rfl⟩
theorem lk_ED_changeOutput_8 : es_lkS X_ED_changeOutput X_EE_isWithin 60 2 := ⟨ok_EE_isWithin, Or.inr ⟨_, t_420⟩, t_285⟩
theorem lk_ED_hasBlockOrNone_7 : es_lkV X_ED_hasBlockOrNone X_ED_hasBlock 57 1 1 := ⟨ok_ED_hasBlock, Or.inl t_414, t_407, t_408, _, _, rfl⟩
theorem lk_ED_kindOf_2 : es_lkV X_ED_kindOf X_ED_hasBlock 57 1 1 := ⟨ok_ED_hasBlock, Or.inl t_414, t_407, t_408, _, _, rfl⟩
theorem lk_ED_numberOf_2 : es_lkV X_ED_numberOf X_ED_hasBlock 57 1 1 := ⟨ok_ED_hasBlock, Or.inl t_414, t_407, t_408, _, _, rfl⟩
theorem lk_ED_outputAt_2 : es_lkS X_ED_outputAt X_EE_isWithin 60 2 := ⟨ok_EE_isWithin, Or.inr ⟨_, t_420⟩, t_285⟩
theorem lk_ED_delayAt_5 : es_lkS X_ED_delayAt X_EE_isWithin 60 2 := ⟨ok_EE_isWithin, Or.inr ⟨_, t_420⟩, t_285⟩
theorem lk_ED_neededAt_2 : es_lkV X_ED_neededAt X_ED_hasBlock 57 1 1 := ⟨ok_ED_hasBlock, Or.inl t_414, t_407, t_408, _, _, rfl⟩
theorem lk_ED_neededInTick_2 : es_lkV X_ED_neededInTick X_ED_hasBlock 57 1 1 := ⟨ok_ED_hasBlock, Or.inl t_414, t_407, t_408, _, _, rfl⟩
theorem lk_ED_firstFault_1 : es_lkV X_ED_firstFault X_ED_firstUnwired 74 0 1 := ⟨ok_ED_firstUnwired, Or.inl t_467, t_469, t_5, _, _, rfl⟩
theorem lk_ED_firstFault_15 : es_lkV X_ED_firstFault X_ED_firstComingBack 78 0 1 := ⟨ok_ED_firstComingBack, Or.inl t_471, t_473, t_6, _, _, rfl⟩
theorem lk_ED_firstComingBack_17 : es_lkV X_ED_firstComingBack X_ED_neededInTick 81 1 1 := ⟨ok_ED_neededInTick, Or.inl t_475, t_476, t_477, _, _, rfl⟩
theorem lk_ED_firstComingBack_54 : es_lkS X_ED_firstComingBack X_EE_holds 84 2 := ⟨ok_EE_holds, Or.inr ⟨_, t_479⟩, t_480⟩
theorem lk_ED_firstComingBack_104 : es_lkS X_ED_firstComingBack X_EE_holds 84 2 := ⟨ok_EE_holds, Or.inr ⟨_, t_479⟩, t_480⟩
theorem lk_ED_idleAt_1 : es_lkV X_ED_idleAt X_ED_liveBlocks 87 0 1 := ⟨ok_ED_liveBlocks, Or.inl t_770, t_772, t_27, _, _, rfl⟩
theorem lk_ED_idleAt_22 : es_lkS X_ED_idleAt X_EE_holds 84 2 := ⟨ok_EE_holds, Or.inr ⟨_, t_479⟩, t_480⟩
theorem lk_ED_liveBlocks_16 : es_lkS X_ED_liveBlocks X_EE_bitOf 68 1 := ⟨ok_EE_bitOf, Or.inr ⟨_, t_425⟩, t_426⟩
theorem lk_ED_liveBlocks_60 : es_lkS X_ED_liveBlocks X_EE_holds 84 2 := ⟨ok_EE_holds, Or.inr ⟨_, t_479⟩, t_480⟩
theorem lk_MT_matchAll_5 : es_lkS X_MT_matchAll X_JA_fill 32 2 := ⟨ok_JA_fill, Or.inl t_732, t_86⟩
theorem lk_MT_matchAll_13 : es_lkS X_MT_matchAll X_JA_fill 32 2 := ⟨ok_JA_fill, Or.inl t_732, t_86⟩
theorem lk_MT_matchAll_34 : es_lkV X_MT_matchAll X_ED_outputAt 38 1 1 := ⟨ok_ED_outputAt, Or.inl t_733, t_441, t_442, _, _, rfl⟩
theorem lk_MT_matchAll_42 : es_lkV X_MT_matchAll X_ED_outputAt 38 1 1 := ⟨ok_ED_outputAt, Or.inl t_733, t_441, t_442, _, _, rfl⟩
theorem lk_MT_matchAll_45 : es_lkV X_MT_matchAll X_MT_matchBoth 44 2 4 := ⟨ok_MT_matchBoth, Or.inl t_734, t_736, t_25, _, _, rfl⟩
theorem lk_MT_matchAll_84 : es_lkV X_MT_matchAll X_MT_partnerOf 48 1 4 := ⟨ok_MT_partnerOf, Or.inl t_745, t_746, t_747, _, _, rfl⟩
theorem lk_MT_matchAll_105 : es_lkV X_MT_matchAll X_ED_neededAt 51 2 1 := ⟨ok_ED_neededAt, Or.inl t_749, t_422, t_423, _, _, rfl⟩
theorem lk_MT_matchAll_115 : es_lkV X_MT_matchAll X_ED_neededAt 51 2 1 := ⟨ok_ED_neededAt, Or.inl t_749, t_422, t_423, _, _, rfl⟩
theorem lk_MT_matchAll_118 : es_lkV X_MT_matchAll X_MT_matchBoth 44 2 4 := ⟨ok_MT_matchBoth, Or.inl t_734, t_736, t_25, _, _, rfl⟩
theorem lk_MT_partnerOf_3 : es_lkS X_MT_partnerOf X_EE_isWithin 55 2 := ⟨ok_EE_isWithin, Or.inr ⟨_, t_738⟩, t_285⟩
theorem lk_MT_matchBoth_3 : es_lkS X_MT_matchBoth X_EE_isWithin 55 2 := ⟨ok_EE_isWithin, Or.inr ⟨_, t_738⟩, t_285⟩
theorem lk_MT_matchBoth_12 : es_lkS X_MT_matchBoth X_EE_isWithin 55 2 := ⟨ok_EE_isWithin, Or.inr ⟨_, t_738⟩, t_285⟩
theorem lk_MT_matchBoth_74 : es_lkV X_MT_matchBoth X_MT_areOfOneSort 58 2 4 := ⟨ok_MT_areOfOneSort, Or.inl t_739, t_741, t_26, _, _, rfl⟩
theorem lk_MT_areOfOneSort_5 : es_lkV X_MT_areOfOneSort X_ED_kindOf 61 1 1 := ⟨ok_ED_kindOf, Or.inl t_743, t_540, t_541, _, _, rfl⟩
theorem lk_MT_areOfOneSort_31 : es_lkV X_MT_areOfOneSort X_ED_kindOf 61 1 1 := ⟨ok_ED_kindOf, Or.inl t_743, t_540, t_541, _, _, rfl⟩
theorem lk_MT_areOfOneSort_47 : es_lkV X_MT_areOfOneSort X_ED_numberOf 64 1 1 := ⟨ok_ED_numberOf, Or.inl t_744, t_530, t_531, _, _, rfl⟩
theorem lk_MT_areOfOneSort_55 : es_lkV X_MT_areOfOneSort X_ED_numberOf 64 1 1 := ⟨ok_ED_numberOf, Or.inl t_744, t_530, t_531, _, _, rfl⟩
theorem lk_PS_learn_13 : es_lkS X_PS_learn X_JA_fill 54 2 := ⟨ok_JA_fill, Or.inl t_664, t_86⟩
theorem lk_PS_learn_41 : es_lkV X_PS_learn X_PS_meet 60 4 3 := ⟨ok_PS_meet, Or.inl t_665, t_667, t_22, _, _, rfl⟩
theorem lk_PS_learn_64 : es_lkV X_PS_learn X_PS_goOnFrom 64 2 3 := ⟨ok_PS_goOnFrom, Or.inl t_672, t_674, t_23, _, _, rfl⟩
theorem lk_PS_goOnFrom_34 : es_lkS X_PS_goOnFrom X_EE_holds 68 2 := ⟨ok_EE_holds, Or.inr ⟨_, t_670⟩, t_480⟩
theorem lk_PS_goOnFrom_54 : es_lkV X_PS_goOnFrom X_BH_outsOf 72 2 2 := ⟨ok_BH_outsOf, Or.inl t_676, t_579, t_580, _, _, rfl⟩
theorem lk_PS_goOnFrom_65 : es_lkV X_PS_goOnFrom X_BH_outsOf 72 2 2 := ⟨ok_BH_outsOf, Or.inl t_676, t_579, t_580, _, _, rfl⟩
theorem lk_PS_goOnFrom_79 : es_lkV X_PS_goOnFrom X_BH_outsOf 72 2 2 := ⟨ok_BH_outsOf, Or.inl t_676, t_579, t_580, _, _, rfl⟩
theorem lk_PS_goOnFrom_94 : es_lkV X_PS_goOnFrom X_BH_outsOf 72 2 2 := ⟨ok_BH_outsOf, Or.inl t_676, t_579, t_580, _, _, rfl⟩
theorem lk_PS_goOnFrom_104 : es_lkV X_PS_goOnFrom X_PS_keepShown 78 2 3 := ⟨ok_PS_keepShown, Or.inl t_677, t_679, t_24, _, _, rfl⟩
theorem lk_PS_goOnFrom_115 : es_lkV X_PS_goOnFrom X_BH_stateAfter 81 2 2 := ⟨ok_BH_stateAfter, Or.inl t_681, t_563, t_564, _, _, rfl⟩
theorem lk_PS_goOnFrom_126 : es_lkV X_PS_goOnFrom X_BH_stateAfter 81 2 2 := ⟨ok_BH_stateAfter, Or.inl t_681, t_563, t_564, _, _, rfl⟩
theorem lk_PS_goOnFrom_132 : es_lkV X_PS_goOnFrom X_PS_meet 60 4 3 := ⟨ok_PS_meet, Or.inl t_665, t_667, t_22, _, _, rfl⟩
theorem lk_PS_meet_3 : es_lkS X_PS_meet X_EE_isWithin 84 2 := ⟨ok_EE_isWithin, Or.inr ⟨_, t_669⟩, t_285⟩
theorem lk_PS_meet_16 : es_lkS X_PS_meet X_EE_holds 68 2 := ⟨ok_EE_holds, Or.inr ⟨_, t_670⟩, t_480⟩
theorem lk_PS_meet_52 : es_lkS X_PS_meet X_EE_bitOf 87 1 := ⟨ok_EE_bitOf, Or.inr ⟨_, t_671⟩, t_426⟩
theorem lk_LW_block_7 : es_lkV X_LW_block X_EE_block 7 3 0 := ⟨ok_EE_block, Or.inl t_273, t_274, t_275, _, _, rfl⟩
theorem lk_LW_wire_9 : es_lkV X_LW_wire X_EE_wire 17 4 0 := ⟨ok_EE_wire, Or.inl t_402, t_403, t_404, _, _, rfl⟩
theorem lk_LW_out_7 : es_lkV X_LW_out X_EE_out 21 3 0 := ⟨ok_EE_out, Or.inl t_431, t_432, t_433, _, _, rfl⟩
theorem lk_LW_bar_5 : es_lkV X_LW_bar X_EE_bar 24 2 0 := ⟨ok_EE_bar, Or.inl t_447, t_448, t_449, _, _, rfl⟩
theorem lk_LW_wrong_4 : es_lkV X_LW_wrong X_EE_wrong 28 1 0 := ⟨ok_EE_wrong, Or.inl t_459, t_460, t_461, _, _, rfl⟩
theorem lk_LW_value_9 : es_lkV X_LW_value X_EE_value 32 4 0 := ⟨ok_EE_value, Or.inl t_485, t_486, t_487, _, _, rfl⟩
theorem lk_LW_tick_7 : es_lkV X_LW_tick X_EE_tick 35 3 0 := ⟨ok_EE_tick, Or.inl t_574, t_575, t_576, _, _, rfl⟩
theorem lk_LW_reached_4 : es_lkV X_LW_reached X_EE_reached 38 1 0 := ⟨ok_EE_reached, Or.inl t_586, t_587, t_588, _, _, rfl⟩
theorem lk_LW_state_5 : es_lkV X_LW_state X_EE_state 41 2 0 := ⟨ok_EE_state, Or.inl t_603, t_604, t_605, _, _, rfl⟩
theorem lk_LW_least_4 : es_lkV X_LW_least X_EE_least 45 1 0 := ⟨ok_EE_least, Or.inl t_615, t_616, t_617, _, _, rfl⟩
theorem lk_LW_compare_3 : es_lkV X_LW_compare X_EE_compare 48 0 0 := ⟨ok_EE_compare, Or.inl t_647, t_648, t_649, _, _, rfl⟩
theorem lk_LW_shown_4 : es_lkV X_LW_shown X_EE_shown 52 1 0 := ⟨ok_EE_shown, Or.inl t_689, t_690, t_691, _, _, rfl⟩
theorem lk_LW_last_4 : es_lkV X_LW_last X_EE_last 55 1 0 := ⟨ok_EE_last, Or.inl t_702, t_703, t_704, _, _, rfl⟩
theorem lk_LW_pairs_3 : es_lkV X_LW_pairs X_EE_pairs 58 0 0 := ⟨ok_EE_pairs, Or.inl t_713, t_714, t_715, _, _, rfl⟩
theorem lk_LW_same_3 : es_lkV X_LW_same X_EE_same 61 0 0 := ⟨ok_EE_same, Or.inl t_724, t_725, t_726, _, _, rfl⟩
theorem lk_LW_matched_4 : es_lkV X_LW_matched X_EE_matched 65 1 0 := ⟨ok_EE_matched, Or.inl t_753, t_754, t_755, _, _, rfl⟩
theorem lk_LW_idle_5 : es_lkV X_LW_idle X_EE_idle 68 2 0 := ⟨ok_EE_idle, Or.inl t_761, t_762, t_763, _, _, rfl⟩
theorem lk_LW_blocks_4 : es_lkV X_LW_blocks X_EE_blocks 71 1 0 := ⟨ok_EE_blocks, Or.inl t_777, t_778, t_779, _, _, rfl⟩
theorem f_EE_18 : ez_fld "EditionEqual" 18 0 0 := ⟨_, _, _, rfl, by decide, in_EE, Or.inl t_237⟩
theorem f_EE_22 : ez_fld "EditionEqual" 22 0 1 := ⟨_, _, _, rfl, by decide, in_EE, Or.inl t_238⟩
theorem f_EE_28 : ez_fld "EditionEqual" 28 0 2 := ⟨_, _, _, rfl, by decide, in_EE, Or.inl t_239⟩
theorem f_EE_32 : ez_fld "EditionEqual" 32 0 3 := ⟨_, _, _, rfl, by decide, in_EE, Or.inl t_240⟩
theorem f_EE_40 : ez_fld "EditionEqual" 40 0 4 := ⟨_, _, _, rfl, by decide, in_EE, Or.inl t_241⟩
theorem f_EE_44 : ez_fld "EditionEqual" 44 0 5 := ⟨_, _, _, rfl, by decide, in_EE, Or.inl t_242⟩
theorem f_EE_52 : ez_fld "EditionEqual" 52 0 6 := ⟨_, _, _, rfl, by decide, in_EE, Or.inl t_243⟩
theorem f_EE_61 : ez_fld "EditionEqual" 61 0 7 := ⟨_, _, _, rfl, by decide, in_EE, Or.inl t_244⟩
theorem f_EE_65 : ez_fld "EditionEqual" 65 0 8 := ⟨_, _, _, rfl, by decide, in_EE, Or.inl t_245⟩
theorem f_MD_7 : ez_fld "EditionEqualModel" 7 5 2 := ⟨_, _, _, rfl, by decide, in_MD, Or.inl t_790⟩
theorem f_MD_13 : ez_fld "EditionEqualModel" 13 5 3 := ⟨_, _, _, rfl, by decide, in_MD, Or.inl t_791⟩
theorem f_MD_17 : ez_fld "EditionEqualModel" 17 5 4 := ⟨_, _, _, rfl, by decide, in_MD, Or.inl t_792⟩
theorem f_MD_20 : ez_fld "EditionEqualModel" 20 5 5 := ⟨_, _, _, rfl, by decide, in_MD, Or.inl t_793⟩
theorem f_MD_23 : ez_fld "EditionEqualModel" 23 5 6 := ⟨_, _, _, rfl, by decide, in_MD, Or.inl t_794⟩
theorem f_MD_26 : ez_fld "EditionEqualModel" 26 5 7 := ⟨_, _, _, rfl, by decide, in_MD, Or.inl t_795⟩
theorem f_MD_29 : ez_fld "EditionEqualModel" 29 5 8 := ⟨_, _, _, rfl, by decide, in_MD, Or.inl t_796⟩
theorem f_MD_32 : ez_fld "EditionEqualModel" 32 5 9 := ⟨_, _, _, rfl, by decide, in_MD, Or.inl t_797⟩
theorem f_MD_35 : ez_fld "EditionEqualModel" 35 5 10 := ⟨_, _, _, rfl, by decide, in_MD, Or.inl t_798⟩
theorem f_MD_38 : ez_fld "EditionEqualModel" 38 5 11 := ⟨_, _, _, rfl, by decide, in_MD, Or.inl t_799⟩
theorem f_MD_41 : ez_fld "EditionEqualModel" 41 5 12 := ⟨_, _, _, rfl, by decide, in_MD, Or.inl t_800⟩
theorem f_MD_44 : ez_fld "EditionEqualModel" 44 5 13 := ⟨_, _, _, rfl, by decide, in_MD, Or.inl t_801⟩
theorem f_MD_47 : ez_fld "EditionEqualModel" 47 5 15 := ⟨_, _, _, rfl, by decide, in_MD, Or.inl t_803⟩
theorem f_MD_50 : ez_fld "EditionEqualModel" 50 5 16 := ⟨_, _, _, rfl, by decide, in_MD, Or.inl t_804⟩
theorem f_MD_53 : ez_fld "EditionEqualModel" 53 5 17 := ⟨_, _, _, rfl, by decide, in_MD, Or.inl t_805⟩
theorem f_MD_56 : ez_fld "EditionEqualModel" 56 5 18 := ⟨_, _, _, rfl, by decide, in_MD, Or.inl t_806⟩
theorem f_MD_59 : ez_fld "EditionEqualModel" 59 5 21 := ⟨_, _, _, rfl, by decide, in_MD, Or.inl t_809⟩
theorem f_MD_62 : ez_fld "EditionEqualModel" 62 5 1 := ⟨_, _, _, rfl, by decide, in_MD, Or.inl t_789⟩
theorem f_MD_66 : ez_fld "EditionEqualModel" 66 5 0 := ⟨_, _, _, rfl, by decide, in_MD, Or.inl t_788⟩
theorem f_MD_129 : ez_fld "EditionEqualModel" 129 5 14 := ⟨_, _, _, rfl, by decide, in_MD, Or.inl t_802⟩
theorem f_MD_132 : ez_fld "EditionEqualModel" 132 5 19 := ⟨_, _, _, rfl, by decide, in_MD, Or.inl t_807⟩
theorem f_MD_138 : ez_fld "EditionEqualModel" 138 5 20 := ⟨_, _, _, rfl, by decide, in_MD, Or.inl t_808⟩
theorem f_BH_9 : ez_fld "EditionEqual$Behaviour" 9 2 1 := ⟨_, _, _, rfl, by decide, in_BH, Or.inl t_127⟩
theorem f_BH_15 : ez_fld "EditionEqual$Behaviour" 15 2 2 := ⟨_, _, _, rfl, by decide, in_BH, Or.inl t_128⟩
theorem f_BH_18 : ez_fld "EditionEqual$Behaviour" 18 2 3 := ⟨_, _, _, rfl, by decide, in_BH, Or.inl t_129⟩
theorem f_BH_21 : ez_fld "EditionEqual$Behaviour" 21 2 4 := ⟨_, _, _, rfl, by decide, in_BH, Or.inl t_130⟩
theorem f_BH_24 : ez_fld "EditionEqual$Behaviour" 24 2 5 := ⟨_, _, _, rfl, by decide, in_BH, Or.inl t_131⟩
theorem f_BH_27 : ez_fld "EditionEqual$Behaviour" 27 2 6 := ⟨_, _, _, rfl, by decide, in_BH, Or.inl t_132⟩
theorem f_BH_30 : ez_fld "EditionEqual$Behaviour" 30 2 7 := ⟨_, _, _, rfl, by decide, in_BH, Or.inl t_133⟩
theorem f_BH_33 : ez_fld "EditionEqual$Behaviour" 33 2 8 := ⟨_, _, _, rfl, by decide, in_BH, Or.inl t_134⟩
theorem f_BH_36 : ez_fld "EditionEqual$Behaviour" 36 2 9 := ⟨_, _, _, rfl, by decide, in_BH, Or.inl t_135⟩
theorem f_BH_40 : ez_fld "EditionEqual$Behaviour" 40 2 10 := ⟨_, _, _, rfl, by decide, in_BH, Or.inl t_136⟩
theorem f_BH_43 : ez_fld "EditionEqual$Behaviour" 43 2 11 := ⟨_, _, _, rfl, by decide, in_BH, Or.inl t_137⟩
theorem f_BH_46 : ez_fld "EditionEqual$Behaviour" 46 2 12 := ⟨_, _, _, rfl, by decide, in_BH, Or.inl t_138⟩
theorem f_BH_50 : ez_fld "EditionEqual$Behaviour" 50 2 0 := ⟨_, _, _, rfl, by decide, in_BH, Or.inl t_126⟩
theorem f_ED_9 : ez_fld "EditionEqual$Edition" 9 1 0 := ⟨_, _, _, rfl, by decide, in_ED, Or.inl t_88⟩
theorem f_ED_15 : ez_fld "EditionEqual$Edition" 15 1 1 := ⟨_, _, _, rfl, by decide, in_ED, Or.inl t_89⟩
theorem f_ED_18 : ez_fld "EditionEqual$Edition" 18 1 2 := ⟨_, _, _, rfl, by decide, in_ED, Or.inl t_90⟩
theorem f_ED_21 : ez_fld "EditionEqual$Edition" 21 1 3 := ⟨_, _, _, rfl, by decide, in_ED, Or.inl t_91⟩
theorem f_ED_24 : ez_fld "EditionEqual$Edition" 24 1 4 := ⟨_, _, _, rfl, by decide, in_ED, Or.inl t_92⟩
theorem f_ED_27 : ez_fld "EditionEqual$Edition" 27 1 5 := ⟨_, _, _, rfl, by decide, in_ED, Or.inl t_93⟩
theorem f_ED_30 : ez_fld "EditionEqual$Edition" 30 1 6 := ⟨_, _, _, rfl, by decide, in_ED, Or.inl t_94⟩
theorem f_ED_33 : ez_fld "EditionEqual$Edition" 33 1 7 := ⟨_, _, _, rfl, by decide, in_ED, Or.inl t_95⟩
theorem f_ED_36 : ez_fld "EditionEqual$Edition" 36 1 8 := ⟨_, _, _, rfl, by decide, in_ED, Or.inl t_96⟩
theorem f_ED_40 : ez_fld "EditionEqual$Edition" 40 1 9 := ⟨_, _, _, rfl, by decide, in_ED, Or.inl t_97⟩
theorem f_MT_9 : ez_fld "EditionEqual$Matching" 9 4 2 := ⟨_, _, _, rfl, by decide, in_MT, Or.inl t_220⟩
theorem f_MT_15 : ez_fld "EditionEqual$Matching" 15 4 3 := ⟨_, _, _, rfl, by decide, in_MT, Or.inl t_221⟩
theorem f_MT_18 : ez_fld "EditionEqual$Matching" 18 4 4 := ⟨_, _, _, rfl, by decide, in_MT, Or.inl t_222⟩
theorem f_MT_21 : ez_fld "EditionEqual$Matching" 21 4 5 := ⟨_, _, _, rfl, by decide, in_MT, Or.inl t_223⟩
theorem f_MT_25 : ez_fld "EditionEqual$Matching" 25 4 0 := ⟨_, _, _, rfl, by decide, in_MT, Or.inl t_218⟩
theorem f_MT_29 : ez_fld "EditionEqual$Matching" 29 4 1 := ⟨_, _, _, rfl, by decide, in_MT, Or.inl t_219⟩
theorem f_PS_9 : ez_fld "EditionEqual$PairSearch" 9 3 2 := ⟨_, _, _, rfl, by decide, in_PS, Or.inl t_174⟩
theorem f_PS_15 : ez_fld "EditionEqual$PairSearch" 15 3 3 := ⟨_, _, _, rfl, by decide, in_PS, Or.inl t_175⟩
theorem f_PS_18 : ez_fld "EditionEqual$PairSearch" 18 3 4 := ⟨_, _, _, rfl, by decide, in_PS, Or.inl t_176⟩
theorem f_PS_21 : ez_fld "EditionEqual$PairSearch" 21 3 5 := ⟨_, _, _, rfl, by decide, in_PS, Or.inl t_177⟩
theorem f_PS_24 : ez_fld "EditionEqual$PairSearch" 24 3 6 := ⟨_, _, _, rfl, by decide, in_PS, Or.inl t_178⟩
theorem f_PS_28 : ez_fld "EditionEqual$PairSearch" 28 3 7 := ⟨_, _, _, rfl, by decide, in_PS, Or.inl t_179⟩
theorem f_PS_31 : ez_fld "EditionEqual$PairSearch" 31 3 8 := ⟨_, _, _, rfl, by decide, in_PS, Or.inl t_180⟩
theorem f_PS_34 : ez_fld "EditionEqual$PairSearch" 34 3 9 := ⟨_, _, _, rfl, by decide, in_PS, Or.inl t_181⟩
theorem f_PS_37 : ez_fld "EditionEqual$PairSearch" 37 3 10 := ⟨_, _, _, rfl, by decide, in_PS, Or.inl t_182⟩
theorem f_PS_40 : ez_fld "EditionEqual$PairSearch" 40 3 11 := ⟨_, _, _, rfl, by decide, in_PS, Or.inl t_183⟩
theorem f_PS_43 : ez_fld "EditionEqual$PairSearch" 43 3 12 := ⟨_, _, _, rfl, by decide, in_PS, Or.inl t_184⟩
theorem f_PS_47 : ez_fld "EditionEqual$PairSearch" 47 3 0 := ⟨_, _, _, rfl, by decide, in_PS, Or.inl t_172⟩
theorem f_PS_51 : ez_fld "EditionEqual$PairSearch" 51 3 1 := ⟨_, _, _, rfl, by decide, in_PS, Or.inl t_173⟩
end
section
/-! ===== decoded: ED ===== -/
theorem d_ED_init_0 : ez_at X_ED_init 0 (.aload_n 0) 1 1 := ⟨by decide +kernel, rfl⟩
theorem d_ED_init_1 : ez_at X_ED_init 1 (.invokespecial 3) 3 4 := ⟨by decide +kernel, rfl⟩
theorem d_ED_init_4 : ez_at X_ED_init 4 (.aload_n 0) 1 5 := ⟨by decide +kernel, rfl⟩
theorem d_ED_init_5 : ez_at X_ED_init 5 (.bipush 24) 2 7 := ⟨by decide +kernel, rfl⟩
theorem d_ED_init_7 : ez_at X_ED_init 7 (.newarray .int) 2 9 := ⟨by decide +kernel, rfl⟩
theorem d_ED_init_9 : ez_at X_ED_init 9 (.putfield 9) 3 12 := ⟨by decide +kernel, rfl⟩
theorem d_ED_init_12 : ez_at X_ED_init 12 (.aload_n 0) 1 13 := ⟨by decide +kernel, rfl⟩
theorem d_ED_init_13 : ez_at X_ED_init 13 (.bipush 24) 2 15 := ⟨by decide +kernel, rfl⟩
theorem d_ED_init_15 : ez_at X_ED_init 15 (.newarray .int) 2 17 := ⟨by decide +kernel, rfl⟩
theorem d_ED_init_17 : ez_at X_ED_init 17 (.putfield 15) 3 20 := ⟨by decide +kernel, rfl⟩
theorem d_ED_init_20 : ez_at X_ED_init 20 (.aload_n 0) 1 21 := ⟨by decide +kernel, rfl⟩
theorem d_ED_init_21 : ez_at X_ED_init 21 (.bipush 24) 2 23 := ⟨by decide +kernel, rfl⟩
theorem d_ED_init_23 : ez_at X_ED_init 23 (.newarray .int) 2 25 := ⟨by decide +kernel, rfl⟩
theorem d_ED_init_25 : ez_at X_ED_init 25 (.putfield 18) 3 28 := ⟨by decide +kernel, rfl⟩
theorem d_ED_init_28 : ez_at X_ED_init 28 (.aload_n 0) 1 29 := ⟨by decide +kernel, rfl⟩
theorem d_ED_init_29 : ez_at X_ED_init 29 (.bipush 48) 2 31 := ⟨by decide +kernel, rfl⟩
theorem d_ED_init_31 : ez_at X_ED_init 31 (.newarray .int) 2 33 := ⟨by decide +kernel, rfl⟩
theorem d_ED_init_33 : ez_at X_ED_init 33 (.putfield 21) 3 36 := ⟨by decide +kernel, rfl⟩
theorem d_ED_init_36 : ez_at X_ED_init 36 (.aload_n 0) 1 37 := ⟨by decide +kernel, rfl⟩
theorem d_ED_init_37 : ez_at X_ED_init 37 (.bipush 24) 2 39 := ⟨by decide +kernel, rfl⟩
theorem d_ED_init_39 : ez_at X_ED_init 39 (.newarray .int) 2 41 := ⟨by decide +kernel, rfl⟩
theorem d_ED_init_41 : ez_at X_ED_init 41 (.putfield 24) 3 44 := ⟨by decide +kernel, rfl⟩
theorem d_ED_init_44 : ez_at X_ED_init 44 (.aload_n 0) 1 45 := ⟨by decide +kernel, rfl⟩
theorem d_ED_init_45 : ez_at X_ED_init 45 (.iconst 3) 1 46 := ⟨by decide +kernel, rfl⟩
theorem d_ED_init_46 : ez_at X_ED_init 46 (.newarray .int) 2 48 := ⟨by decide +kernel, rfl⟩
theorem d_ED_init_48 : ez_at X_ED_init 48 (.putfield 27) 3 51 := ⟨by decide +kernel, rfl⟩
theorem d_ED_init_51 : ez_at X_ED_init 51 (.aload_n 0) 1 52 := ⟨by decide +kernel, rfl⟩
theorem d_ED_init_52 : ez_at X_ED_init 52 (.iconst 5) 1 53 := ⟨by decide +kernel, rfl⟩
theorem d_ED_init_53 : ez_at X_ED_init 53 (.newarray .int) 2 55 := ⟨by decide +kernel, rfl⟩
theorem d_ED_init_55 : ez_at X_ED_init 55 (.putfield 30) 3 58 := ⟨by decide +kernel, rfl⟩
theorem d_ED_init_58 : ez_at X_ED_init 58 (.aload_n 0) 1 59 := ⟨by decide +kernel, rfl⟩
theorem d_ED_init_59 : ez_at X_ED_init 59 (.bipush 24) 2 61 := ⟨by decide +kernel, rfl⟩
theorem d_ED_init_61 : ez_at X_ED_init 61 (.newarray .int) 2 63 := ⟨by decide +kernel, rfl⟩
theorem d_ED_init_63 : ez_at X_ED_init 63 (.putfield 33) 3 66 := ⟨by decide +kernel, rfl⟩
theorem d_ED_init_66 : ez_at X_ED_init 66 (.aload_n 0) 1 67 := ⟨by decide +kernel, rfl⟩
theorem d_ED_init_67 : ez_at X_ED_init 67 (.iconst 0) 1 68 := ⟨by decide +kernel, rfl⟩
theorem d_ED_init_68 : ez_at X_ED_init 68 (.putfield 36) 3 71 := ⟨by decide +kernel, rfl⟩
theorem d_ED_init_71 : ez_at X_ED_init 71 (.aload_n 0) 1 72 := ⟨by decide +kernel, rfl⟩
theorem d_ED_init_72 : ez_at X_ED_init 72 (.iconst 0) 1 73 := ⟨by decide +kernel, rfl⟩
theorem d_ED_init_73 : ez_at X_ED_init 73 (.putfield 40) 3 76 := ⟨by decide +kernel, rfl⟩
theorem d_ED_init_76 : ez_at X_ED_init 76 (.aload_n 0) 1 77 := ⟨by decide +kernel, rfl⟩
theorem d_ED_init_77 : ez_at X_ED_init 77 (.getfield 21) 3 80 := ⟨by decide +kernel, rfl⟩
theorem d_ED_init_80 : ez_at X_ED_init 80 (.iconst (-1)) 1 81 := ⟨by decide +kernel, rfl⟩
theorem d_ED_init_81 : ez_at X_ED_init 81 (.invokestatic 43) 3 84 := ⟨by decide +kernel, rfl⟩
theorem d_ED_init_84 : ez_at X_ED_init 84 (.aload_n 0) 1 85 := ⟨by decide +kernel, rfl⟩
theorem d_ED_init_85 : ez_at X_ED_init 85 (.getfield 27) 3 88 := ⟨by decide +kernel, rfl⟩
theorem d_ED_init_88 : ez_at X_ED_init 88 (.iconst (-1)) 1 89 := ⟨by decide +kernel, rfl⟩
theorem d_ED_init_89 : ez_at X_ED_init 89 (.invokestatic 43) 3 92 := ⟨by decide +kernel, rfl⟩
theorem d_ED_init_92 : ez_at X_ED_init 92 (.return_) 1 93 := ⟨by decide +kernel, rfl⟩
theorem d_ED_hasRoomFor_0 : ez_at X_ED_hasRoomFor 0 (.aload_n 0) 1 1 := ⟨by decide +kernel, rfl⟩
theorem d_ED_hasRoomFor_1 : ez_at X_ED_hasRoomFor 1 (.getfield 36) 3 4 := ⟨by decide +kernel, rfl⟩
theorem d_ED_hasRoomFor_4 : ez_at X_ED_hasRoomFor 4 (.bipush 24) 2 6 := ⟨by decide +kernel, rfl⟩
theorem d_ED_hasRoomFor_6 : ez_br X_ED_hasRoomFor 6 (.if_icmp .ge 21) 3 9 21 27 := ⟨by decide +kernel, rfl, rfl⟩
theorem d_ED_hasRoomFor_9 : ez_at X_ED_hasRoomFor 9 (.iload_n 1) 1 10 := ⟨by decide +kernel, rfl⟩
theorem d_ED_hasRoomFor_10 : ez_at X_ED_hasRoomFor 10 (.bipush 6) 2 12 := ⟨by decide +kernel, rfl⟩
theorem d_ED_hasRoomFor_12 : ez_br X_ED_hasRoomFor 12 (.if_icmp .ne 11) 3 15 11 23 := ⟨by decide +kernel, rfl, rfl⟩
theorem d_ED_hasRoomFor_15 : ez_at X_ED_hasRoomFor 15 (.aload_n 0) 1 16 := ⟨by decide +kernel, rfl⟩
theorem d_ED_hasRoomFor_16 : ez_at X_ED_hasRoomFor 16 (.getfield 40) 3 19 := ⟨by decide +kernel, rfl⟩
theorem d_ED_hasRoomFor_19 : ez_at X_ED_hasRoomFor 19 (.iconst 5) 1 20 := ⟨by decide +kernel, rfl⟩
theorem d_ED_hasRoomFor_20 : ez_br X_ED_hasRoomFor 20 (.if_icmp .ge 7) 3 23 7 27 := ⟨by decide +kernel, rfl, rfl⟩
theorem d_ED_hasRoomFor_23 : ez_at X_ED_hasRoomFor 23 (.iconst 1) 1 24 := ⟨by decide +kernel, rfl⟩
theorem d_ED_hasRoomFor_24 : ez_br X_ED_hasRoomFor 24 (.goto 4) 3 27 4 28 := ⟨by decide +kernel, rfl, rfl⟩
theorem d_ED_hasRoomFor_27 : ez_at X_ED_hasRoomFor 27 (.iconst 0) 1 28 := ⟨by decide +kernel, rfl⟩
theorem d_ED_hasRoomFor_28 : ez_at X_ED_hasRoomFor 28 (.ireturn) 1 29 := ⟨by decide +kernel, rfl⟩
theorem d_ED_addBlock_0 : ez_at X_ED_addBlock 0 (.aload_n 0) 1 1 := ⟨by decide +kernel, rfl⟩
theorem d_ED_addBlock_1 : ez_at X_ED_addBlock 1 (.iload_n 1) 1 2 := ⟨by decide +kernel, rfl⟩
theorem d_ED_addBlock_2 : ez_at X_ED_addBlock 2 (.invokevirtual 49) 3 5 := ⟨by decide +kernel, rfl⟩
theorem d_ED_addBlock_5 : ez_br X_ED_addBlock 5 (.ifCond .ne 5) 3 8 5 10 := ⟨by decide +kernel, rfl, rfl⟩
theorem d_ED_addBlock_8 : ez_at X_ED_addBlock 8 (.iconst (-1)) 1 9 := ⟨by decide +kernel, rfl⟩
theorem d_ED_addBlock_9 : ez_at X_ED_addBlock 9 (.ireturn) 1 10 := ⟨by decide +kernel, rfl⟩
theorem d_ED_addBlock_10 : ez_at X_ED_addBlock 10 (.aload_n 0) 1 11 := ⟨by decide +kernel, rfl⟩
theorem d_ED_addBlock_11 : ez_at X_ED_addBlock 11 (.getfield 36) 3 14 := ⟨by decide +kernel, rfl⟩
theorem d_ED_addBlock_14 : ez_at X_ED_addBlock 14 (.istore_n 3) 1 15 := ⟨by decide +kernel, rfl⟩
theorem d_ED_addBlock_15 : ez_at X_ED_addBlock 15 (.aload_n 0) 1 16 := ⟨by decide +kernel, rfl⟩
theorem d_ED_addBlock_16 : ez_at X_ED_addBlock 16 (.getfield 9) 3 19 := ⟨by decide +kernel, rfl⟩
theorem d_ED_addBlock_19 : ez_at X_ED_addBlock 19 (.iload_n 3) 1 20 := ⟨by decide +kernel, rfl⟩
theorem d_ED_addBlock_20 : ez_at X_ED_addBlock 20 (.iload_n 1) 1 21 := ⟨by decide +kernel, rfl⟩
theorem d_ED_addBlock_21 : ez_at X_ED_addBlock 21 (.iastore) 1 22 := ⟨by decide +kernel, rfl⟩
theorem d_ED_addBlock_22 : ez_at X_ED_addBlock 22 (.aload_n 0) 1 23 := ⟨by decide +kernel, rfl⟩
theorem d_ED_addBlock_23 : ez_at X_ED_addBlock 23 (.getfield 15) 3 26 := ⟨by decide +kernel, rfl⟩
theorem d_ED_addBlock_26 : ez_at X_ED_addBlock 26 (.iload_n 3) 1 27 := ⟨by decide +kernel, rfl⟩
theorem d_ED_addBlock_27 : ez_at X_ED_addBlock 27 (.iload_n 2) 1 28 := ⟨by decide +kernel, rfl⟩
theorem d_ED_addBlock_28 : ez_at X_ED_addBlock 28 (.iastore) 1 29 := ⟨by decide +kernel, rfl⟩
theorem d_ED_addBlock_29 : ez_at X_ED_addBlock 29 (.aload_n 0) 1 30 := ⟨by decide +kernel, rfl⟩
theorem d_ED_addBlock_30 : ez_at X_ED_addBlock 30 (.getfield 18) 3 33 := ⟨by decide +kernel, rfl⟩
theorem d_ED_addBlock_33 : ez_at X_ED_addBlock 33 (.iload_n 3) 1 34 := ⟨by decide +kernel, rfl⟩
theorem d_ED_addBlock_34 : ez_at X_ED_addBlock 34 (.iload_n 1) 1 35 := ⟨by decide +kernel, rfl⟩
theorem d_ED_addBlock_35 : ez_at X_ED_addBlock 35 (.invokestatic 53) 3 38 := ⟨by decide +kernel, rfl⟩
theorem d_ED_addBlock_38 : ez_at X_ED_addBlock 38 (.iastore) 1 39 := ⟨by decide +kernel, rfl⟩
theorem d_ED_addBlock_39 : ez_at X_ED_addBlock 39 (.iload_n 1) 1 40 := ⟨by decide +kernel, rfl⟩
theorem d_ED_addBlock_40 : ez_at X_ED_addBlock 40 (.bipush 6) 2 42 := ⟨by decide +kernel, rfl⟩
theorem d_ED_addBlock_42 : ez_br X_ED_addBlock 42 (.if_icmp .ne 33) 3 45 33 75 := ⟨by decide +kernel, rfl, rfl⟩
theorem d_ED_addBlock_45 : ez_at X_ED_addBlock 45 (.aload_n 0) 1 46 := ⟨by decide +kernel, rfl⟩
theorem d_ED_addBlock_46 : ez_at X_ED_addBlock 46 (.getfield 15) 3 49 := ⟨by decide +kernel, rfl⟩
theorem d_ED_addBlock_49 : ez_at X_ED_addBlock 49 (.iload_n 3) 1 50 := ⟨by decide +kernel, rfl⟩
theorem d_ED_addBlock_50 : ez_at X_ED_addBlock 50 (.aload_n 0) 1 51 := ⟨by decide +kernel, rfl⟩
theorem d_ED_addBlock_51 : ez_at X_ED_addBlock 51 (.getfield 40) 3 54 := ⟨by decide +kernel, rfl⟩
theorem d_ED_addBlock_54 : ez_at X_ED_addBlock 54 (.iastore) 1 55 := ⟨by decide +kernel, rfl⟩
theorem d_ED_addBlock_55 : ez_at X_ED_addBlock 55 (.aload_n 0) 1 56 := ⟨by decide +kernel, rfl⟩
theorem d_ED_addBlock_56 : ez_at X_ED_addBlock 56 (.getfield 30) 3 59 := ⟨by decide +kernel, rfl⟩
theorem d_ED_addBlock_59 : ez_at X_ED_addBlock 59 (.aload_n 0) 1 60 := ⟨by decide +kernel, rfl⟩
theorem d_ED_addBlock_60 : ez_at X_ED_addBlock 60 (.getfield 40) 3 63 := ⟨by decide +kernel, rfl⟩
theorem d_ED_addBlock_63 : ez_at X_ED_addBlock 63 (.iload_n 3) 1 64 := ⟨by decide +kernel, rfl⟩
theorem d_ED_addBlock_64 : ez_at X_ED_addBlock 64 (.iastore) 1 65 := ⟨by decide +kernel, rfl⟩
theorem d_ED_addBlock_65 : ez_at X_ED_addBlock 65 (.aload_n 0) 1 66 := ⟨by decide +kernel, rfl⟩
theorem d_ED_addBlock_66 : ez_at X_ED_addBlock 66 (.dup) 1 67 := ⟨by decide +kernel, rfl⟩
theorem d_ED_addBlock_67 : ez_at X_ED_addBlock 67 (.getfield 40) 3 70 := ⟨by decide +kernel, rfl⟩
theorem d_ED_addBlock_70 : ez_at X_ED_addBlock 70 (.iconst 1) 1 71 := ⟨by decide +kernel, rfl⟩
theorem d_ED_addBlock_71 : ez_at X_ED_addBlock 71 (.iadd) 1 72 := ⟨by decide +kernel, rfl⟩
theorem d_ED_addBlock_72 : ez_at X_ED_addBlock 72 (.putfield 40) 3 75 := ⟨by decide +kernel, rfl⟩
theorem d_ED_addBlock_75 : ez_at X_ED_addBlock 75 (.aload_n 0) 1 76 := ⟨by decide +kernel, rfl⟩
theorem d_ED_addBlock_76 : ez_at X_ED_addBlock 76 (.dup) 1 77 := ⟨by decide +kernel, rfl⟩
theorem d_ED_addBlock_77 : ez_at X_ED_addBlock 77 (.getfield 36) 3 80 := ⟨by decide +kernel, rfl⟩
theorem d_ED_addBlock_80 : ez_at X_ED_addBlock 80 (.iconst 1) 1 81 := ⟨by decide +kernel, rfl⟩
theorem d_ED_addBlock_81 : ez_at X_ED_addBlock 81 (.iadd) 1 82 := ⟨by decide +kernel, rfl⟩
theorem d_ED_addBlock_82 : ez_at X_ED_addBlock 82 (.putfield 36) 3 85 := ⟨by decide +kernel, rfl⟩
theorem d_ED_addBlock_85 : ez_at X_ED_addBlock 85 (.iload_n 3) 1 86 := ⟨by decide +kernel, rfl⟩
theorem d_ED_addBlock_86 : ez_at X_ED_addBlock 86 (.ireturn) 1 87 := ⟨by decide +kernel, rfl⟩
theorem d_ED_countNeeded_0 : ez_at X_ED_countNeeded 0 (.iload_n 0) 1 1 := ⟨by decide +kernel, rfl⟩
theorem d_ED_countNeeded_1 : decode X_ED_countNeeded.2.1 1 = .ok (.tableswitch 43 0 5 #[39, 39, 43, 41, 41, 41], 39) := by decide +kernel
theorem d_ED_countNeeded_40 : ez_at X_ED_countNeeded 40 (.iconst 0) 1 41 := ⟨by decide +kernel, rfl⟩
theorem d_ED_countNeeded_41 : ez_at X_ED_countNeeded 41 (.ireturn) 1 42 := ⟨by decide +kernel, rfl⟩
theorem d_ED_countNeeded_42 : ez_at X_ED_countNeeded 42 (.iconst 2) 1 43 := ⟨by decide +kernel, rfl⟩
theorem d_ED_countNeeded_43 : ez_at X_ED_countNeeded 43 (.ireturn) 1 44 := ⟨by decide +kernel, rfl⟩
theorem d_ED_countNeeded_44 : ez_at X_ED_countNeeded 44 (.iconst 1) 1 45 := ⟨by decide +kernel, rfl⟩
theorem d_ED_countNeeded_45 : ez_at X_ED_countNeeded 45 (.ireturn) 1 46 := ⟨by decide +kernel, rfl⟩
theorem d_ED_rewire_0 : ez_at X_ED_rewire 0 (.aload_n 0) 1 1 := ⟨by decide +kernel, rfl⟩
theorem d_ED_rewire_1 : ez_at X_ED_rewire 1 (.iload_n 1) 1 2 := ⟨by decide +kernel, rfl⟩
theorem d_ED_rewire_2 : ez_at X_ED_rewire 2 (.invokevirtual 57) 3 5 := ⟨by decide +kernel, rfl⟩
theorem d_ED_rewire_5 : ez_br X_ED_rewire 5 (.ifCond .eq 11) 3 8 11 16 := ⟨by decide +kernel, rfl, rfl⟩
theorem d_ED_rewire_8 : ez_at X_ED_rewire 8 (.iload_n 2) 1 9 := ⟨by decide +kernel, rfl⟩
theorem d_ED_rewire_9 : ez_at X_ED_rewire 9 (.iconst 2) 1 10 := ⟨by decide +kernel, rfl⟩
theorem d_ED_rewire_10 : ez_at X_ED_rewire 10 (.invokestatic 60) 3 13 := ⟨by decide +kernel, rfl⟩
theorem d_ED_rewire_13 : ez_br X_ED_rewire 13 (.ifCond .ne 5) 3 16 5 18 := ⟨by decide +kernel, rfl, rfl⟩
theorem d_ED_rewire_16 : ez_at X_ED_rewire 16 (.iconst (-1)) 1 17 := ⟨by decide +kernel, rfl⟩
theorem d_ED_rewire_17 : ez_at X_ED_rewire 17 (.ireturn) 1 18 := ⟨by decide +kernel, rfl⟩
theorem d_ED_rewire_18 : ez_at X_ED_rewire 18 (.aload_n 0) 1 19 := ⟨by decide +kernel, rfl⟩
theorem d_ED_rewire_19 : ez_at X_ED_rewire 19 (.getfield 21) 3 22 := ⟨by decide +kernel, rfl⟩
theorem d_ED_rewire_22 : ez_at X_ED_rewire 22 (.iload_n 1) 1 23 := ⟨by decide +kernel, rfl⟩
theorem d_ED_rewire_23 : ez_at X_ED_rewire 23 (.iconst 2) 1 24 := ⟨by decide +kernel, rfl⟩
theorem d_ED_rewire_24 : ez_at X_ED_rewire 24 (.imul) 1 25 := ⟨by decide +kernel, rfl⟩
theorem d_ED_rewire_25 : ez_at X_ED_rewire 25 (.iload_n 2) 1 26 := ⟨by decide +kernel, rfl⟩
theorem d_ED_rewire_26 : ez_at X_ED_rewire 26 (.iadd) 1 27 := ⟨by decide +kernel, rfl⟩
theorem d_ED_rewire_27 : ez_at X_ED_rewire 27 (.iaload) 1 28 := ⟨by decide +kernel, rfl⟩
theorem d_ED_rewire_28 : ez_at X_ED_rewire 28 (.istore 4) 2 30 := ⟨by decide +kernel, rfl⟩
theorem d_ED_rewire_30 : ez_at X_ED_rewire 30 (.aload_n 0) 1 31 := ⟨by decide +kernel, rfl⟩
theorem d_ED_rewire_31 : ez_at X_ED_rewire 31 (.getfield 21) 3 34 := ⟨by decide +kernel, rfl⟩
theorem d_ED_rewire_34 : ez_at X_ED_rewire 34 (.iload_n 1) 1 35 := ⟨by decide +kernel, rfl⟩
theorem d_ED_rewire_35 : ez_at X_ED_rewire 35 (.iconst 2) 1 36 := ⟨by decide +kernel, rfl⟩
theorem d_ED_rewire_36 : ez_at X_ED_rewire 36 (.imul) 1 37 := ⟨by decide +kernel, rfl⟩
theorem d_ED_rewire_37 : ez_at X_ED_rewire 37 (.iload_n 2) 1 38 := ⟨by decide +kernel, rfl⟩
theorem d_ED_rewire_38 : ez_at X_ED_rewire 38 (.iadd) 1 39 := ⟨by decide +kernel, rfl⟩
theorem d_ED_rewire_39 : ez_at X_ED_rewire 39 (.iload_n 3) 1 40 := ⟨by decide +kernel, rfl⟩
theorem d_ED_rewire_40 : ez_at X_ED_rewire 40 (.iastore) 1 41 := ⟨by decide +kernel, rfl⟩
theorem d_ED_rewire_41 : ez_at X_ED_rewire 41 (.aload_n 0) 1 42 := ⟨by decide +kernel, rfl⟩
theorem d_ED_rewire_42 : ez_at X_ED_rewire 42 (.getfield 24) 3 45 := ⟨by decide +kernel, rfl⟩
theorem d_ED_rewire_45 : ez_at X_ED_rewire 45 (.iload_n 1) 1 46 := ⟨by decide +kernel, rfl⟩
theorem d_ED_rewire_46 : ez_at X_ED_rewire 46 (.aload_n 0) 1 47 := ⟨by decide +kernel, rfl⟩
theorem d_ED_rewire_47 : ez_at X_ED_rewire 47 (.iload_n 1) 1 48 := ⟨by decide +kernel, rfl⟩
theorem d_ED_rewire_48 : ez_at X_ED_rewire 48 (.iconst 0) 1 49 := ⟨by decide +kernel, rfl⟩
theorem d_ED_rewire_49 : ez_at X_ED_rewire 49 (.invokevirtual 64) 3 52 := ⟨by decide +kernel, rfl⟩
theorem d_ED_rewire_52 : ez_at X_ED_rewire 52 (.invokestatic 68) 3 55 := ⟨by decide +kernel, rfl⟩
theorem d_ED_rewire_55 : ez_at X_ED_rewire 55 (.aload_n 0) 1 56 := ⟨by decide +kernel, rfl⟩
theorem d_ED_rewire_56 : ez_at X_ED_rewire 56 (.iload_n 1) 1 57 := ⟨by decide +kernel, rfl⟩
theorem d_ED_rewire_57 : ez_at X_ED_rewire 57 (.iconst 1) 1 58 := ⟨by decide +kernel, rfl⟩
theorem d_ED_rewire_58 : ez_at X_ED_rewire 58 (.invokevirtual 64) 3 61 := ⟨by decide +kernel, rfl⟩
theorem d_ED_rewire_61 : ez_at X_ED_rewire 61 (.invokestatic 68) 3 64 := ⟨by decide +kernel, rfl⟩
theorem d_ED_rewire_64 : ez_at X_ED_rewire 64 (.ior) 1 65 := ⟨by decide +kernel, rfl⟩
theorem d_ED_rewire_65 : ez_at X_ED_rewire 65 (.iastore) 1 66 := ⟨by decide +kernel, rfl⟩
theorem d_ED_rewire_66 : ez_at X_ED_rewire 66 (.iload 4) 2 68 := ⟨by decide +kernel, rfl⟩
theorem d_ED_rewire_68 : ez_at X_ED_rewire 68 (.ireturn) 1 69 := ⟨by decide +kernel, rfl⟩
theorem d_ED_changeOutput_0 : ez_at X_ED_changeOutput 0 (.aload_n 0) 1 1 := ⟨by decide +kernel, rfl⟩
theorem d_ED_changeOutput_1 : ez_at X_ED_changeOutput 1 (.iload_n 1) 1 2 := ⟨by decide +kernel, rfl⟩
theorem d_ED_changeOutput_2 : ez_at X_ED_changeOutput 2 (.invokevirtual 71) 3 5 := ⟨by decide +kernel, rfl⟩
theorem d_ED_changeOutput_5 : ez_at X_ED_changeOutput 5 (.istore_n 3) 1 6 := ⟨by decide +kernel, rfl⟩
theorem d_ED_changeOutput_6 : ez_at X_ED_changeOutput 6 (.iload_n 1) 1 7 := ⟨by decide +kernel, rfl⟩
theorem d_ED_changeOutput_7 : ez_at X_ED_changeOutput 7 (.iconst 3) 1 8 := ⟨by decide +kernel, rfl⟩
theorem d_ED_changeOutput_8 : ez_at X_ED_changeOutput 8 (.invokestatic 60) 3 11 := ⟨by decide +kernel, rfl⟩
theorem d_ED_changeOutput_11 : ez_br X_ED_changeOutput 11 (.ifCond .eq 10) 3 14 10 21 := ⟨by decide +kernel, rfl, rfl⟩
theorem d_ED_changeOutput_14 : ez_at X_ED_changeOutput 14 (.aload_n 0) 1 15 := ⟨by decide +kernel, rfl⟩
theorem d_ED_changeOutput_15 : ez_at X_ED_changeOutput 15 (.getfield 27) 3 18 := ⟨by decide +kernel, rfl⟩
theorem d_ED_changeOutput_18 : ez_at X_ED_changeOutput 18 (.iload_n 1) 1 19 := ⟨by decide +kernel, rfl⟩
theorem d_ED_changeOutput_19 : ez_at X_ED_changeOutput 19 (.iload_n 2) 1 20 := ⟨by decide +kernel, rfl⟩
theorem d_ED_changeOutput_20 : ez_at X_ED_changeOutput 20 (.iastore) 1 21 := ⟨by decide +kernel, rfl⟩
theorem d_ED_changeOutput_21 : ez_at X_ED_changeOutput 21 (.iload_n 3) 1 22 := ⟨by decide +kernel, rfl⟩
theorem d_ED_changeOutput_22 : ez_at X_ED_changeOutput 22 (.ireturn) 1 23 := ⟨by decide +kernel, rfl⟩
theorem d_ED_countBlocks_0 : ez_at X_ED_countBlocks 0 (.aload_n 0) 1 1 := ⟨by decide +kernel, rfl⟩
theorem d_ED_countBlocks_1 : ez_at X_ED_countBlocks 1 (.getfield 36) 3 4 := ⟨by decide +kernel, rfl⟩
theorem d_ED_countBlocks_4 : ez_at X_ED_countBlocks 4 (.ireturn) 1 5 := ⟨by decide +kernel, rfl⟩
theorem d_ED_countDelays_0 : ez_at X_ED_countDelays 0 (.aload_n 0) 1 1 := ⟨by decide +kernel, rfl⟩
theorem d_ED_countDelays_1 : ez_at X_ED_countDelays 1 (.getfield 40) 3 4 := ⟨by decide +kernel, rfl⟩
theorem d_ED_countDelays_4 : ez_at X_ED_countDelays 4 (.ireturn) 1 5 := ⟨by decide +kernel, rfl⟩
theorem d_ED_hasBlock_0 : ez_at X_ED_hasBlock 0 (.iload_n 1) 1 1 := ⟨by decide +kernel, rfl⟩
theorem d_ED_hasBlock_1 : ez_br X_ED_hasBlock 1 (.ifCond .lt 15) 3 4 15 16 := ⟨by decide +kernel, rfl, rfl⟩
theorem d_ED_hasBlock_4 : ez_at X_ED_hasBlock 4 (.iload_n 1) 1 5 := ⟨by decide +kernel, rfl⟩
theorem d_ED_hasBlock_5 : ez_at X_ED_hasBlock 5 (.aload_n 0) 1 6 := ⟨by decide +kernel, rfl⟩
theorem d_ED_hasBlock_6 : ez_at X_ED_hasBlock 6 (.getfield 36) 3 9 := ⟨by decide +kernel, rfl⟩
theorem d_ED_hasBlock_9 : ez_br X_ED_hasBlock 9 (.if_icmp .ge 7) 3 12 7 16 := ⟨by decide +kernel, rfl, rfl⟩
theorem d_ED_hasBlock_12 : ez_at X_ED_hasBlock 12 (.iconst 1) 1 13 := ⟨by decide +kernel, rfl⟩
theorem d_ED_hasBlock_13 : ez_br X_ED_hasBlock 13 (.goto 4) 3 16 4 17 := ⟨by decide +kernel, rfl, rfl⟩
theorem d_ED_hasBlock_16 : ez_at X_ED_hasBlock 16 (.iconst 0) 1 17 := ⟨by decide +kernel, rfl⟩
theorem d_ED_hasBlock_17 : ez_at X_ED_hasBlock 17 (.ireturn) 1 18 := ⟨by decide +kernel, rfl⟩
theorem d_ED_hasBlockOrNone_0 : ez_at X_ED_hasBlockOrNone 0 (.iload_n 1) 1 1 := ⟨by decide +kernel, rfl⟩
theorem d_ED_hasBlockOrNone_1 : ez_at X_ED_hasBlockOrNone 1 (.iconst (-1)) 1 2 := ⟨by decide +kernel, rfl⟩
theorem d_ED_hasBlockOrNone_2 : ez_br X_ED_hasBlockOrNone 2 (.if_icmp .eq 11) 3 5 11 13 := ⟨by decide +kernel, rfl, rfl⟩
theorem d_ED_hasBlockOrNone_5 : ez_at X_ED_hasBlockOrNone 5 (.aload_n 0) 1 6 := ⟨by decide +kernel, rfl⟩
theorem d_ED_hasBlockOrNone_6 : ez_at X_ED_hasBlockOrNone 6 (.iload_n 1) 1 7 := ⟨by decide +kernel, rfl⟩
theorem d_ED_hasBlockOrNone_7 : ez_at X_ED_hasBlockOrNone 7 (.invokevirtual 57) 3 10 := ⟨by decide +kernel, rfl⟩
theorem d_ED_hasBlockOrNone_10 : ez_br X_ED_hasBlockOrNone 10 (.ifCond .eq 7) 3 13 7 17 := ⟨by decide +kernel, rfl, rfl⟩
theorem d_ED_hasBlockOrNone_13 : ez_at X_ED_hasBlockOrNone 13 (.iconst 1) 1 14 := ⟨by decide +kernel, rfl⟩
theorem d_ED_hasBlockOrNone_14 : ez_br X_ED_hasBlockOrNone 14 (.goto 4) 3 17 4 18 := ⟨by decide +kernel, rfl, rfl⟩
theorem d_ED_hasBlockOrNone_17 : ez_at X_ED_hasBlockOrNone 17 (.iconst 0) 1 18 := ⟨by decide +kernel, rfl⟩
theorem d_ED_hasBlockOrNone_18 : ez_at X_ED_hasBlockOrNone 18 (.ireturn) 1 19 := ⟨by decide +kernel, rfl⟩
theorem d_ED_kindOf_0 : ez_at X_ED_kindOf 0 (.aload_n 0) 1 1 := ⟨by decide +kernel, rfl⟩
theorem d_ED_kindOf_1 : ez_at X_ED_kindOf 1 (.iload_n 1) 1 2 := ⟨by decide +kernel, rfl⟩
theorem d_ED_kindOf_2 : ez_at X_ED_kindOf 2 (.invokevirtual 57) 3 5 := ⟨by decide +kernel, rfl⟩
theorem d_ED_kindOf_5 : ez_br X_ED_kindOf 5 (.ifCond .eq 12) 3 8 12 17 := ⟨by decide +kernel, rfl, rfl⟩
theorem d_ED_kindOf_8 : ez_at X_ED_kindOf 8 (.aload_n 0) 1 9 := ⟨by decide +kernel, rfl⟩
theorem d_ED_kindOf_9 : ez_at X_ED_kindOf 9 (.getfield 9) 3 12 := ⟨by decide +kernel, rfl⟩
theorem d_ED_kindOf_12 : ez_at X_ED_kindOf 12 (.iload_n 1) 1 13 := ⟨by decide +kernel, rfl⟩
theorem d_ED_kindOf_13 : ez_at X_ED_kindOf 13 (.iaload) 1 14 := ⟨by decide +kernel, rfl⟩
theorem d_ED_kindOf_14 : ez_br X_ED_kindOf 14 (.goto 4) 3 17 4 18 := ⟨by decide +kernel, rfl, rfl⟩
theorem d_ED_kindOf_17 : ez_at X_ED_kindOf 17 (.iconst (-1)) 1 18 := ⟨by decide +kernel, rfl⟩
theorem d_ED_kindOf_18 : ez_at X_ED_kindOf 18 (.ireturn) 1 19 := ⟨by decide +kernel, rfl⟩
theorem d_ED_numberOf_0 : ez_at X_ED_numberOf 0 (.aload_n 0) 1 1 := ⟨by decide +kernel, rfl⟩
theorem d_ED_numberOf_1 : ez_at X_ED_numberOf 1 (.iload_n 1) 1 2 := ⟨by decide +kernel, rfl⟩
theorem d_ED_numberOf_2 : ez_at X_ED_numberOf 2 (.invokevirtual 57) 3 5 := ⟨by decide +kernel, rfl⟩
theorem d_ED_numberOf_5 : ez_br X_ED_numberOf 5 (.ifCond .eq 12) 3 8 12 17 := ⟨by decide +kernel, rfl, rfl⟩
theorem d_ED_numberOf_8 : ez_at X_ED_numberOf 8 (.aload_n 0) 1 9 := ⟨by decide +kernel, rfl⟩
theorem d_ED_numberOf_9 : ez_at X_ED_numberOf 9 (.getfield 15) 3 12 := ⟨by decide +kernel, rfl⟩
theorem d_ED_numberOf_12 : ez_at X_ED_numberOf 12 (.iload_n 1) 1 13 := ⟨by decide +kernel, rfl⟩
theorem d_ED_numberOf_13 : ez_at X_ED_numberOf 13 (.iaload) 1 14 := ⟨by decide +kernel, rfl⟩
theorem d_ED_numberOf_14 : ez_br X_ED_numberOf 14 (.goto 4) 3 17 4 18 := ⟨by decide +kernel, rfl, rfl⟩
theorem d_ED_numberOf_17 : ez_at X_ED_numberOf 17 (.iconst (-1)) 1 18 := ⟨by decide +kernel, rfl⟩
theorem d_ED_numberOf_18 : ez_at X_ED_numberOf 18 (.ireturn) 1 19 := ⟨by decide +kernel, rfl⟩
theorem d_ED_outputAt_0 : ez_at X_ED_outputAt 0 (.iload_n 1) 1 1 := ⟨by decide +kernel, rfl⟩
theorem d_ED_outputAt_1 : ez_at X_ED_outputAt 1 (.iconst 3) 1 2 := ⟨by decide +kernel, rfl⟩
theorem d_ED_outputAt_2 : ez_at X_ED_outputAt 2 (.invokestatic 60) 3 5 := ⟨by decide +kernel, rfl⟩
theorem d_ED_outputAt_5 : ez_br X_ED_outputAt 5 (.ifCond .eq 12) 3 8 12 17 := ⟨by decide +kernel, rfl, rfl⟩
theorem d_ED_outputAt_8 : ez_at X_ED_outputAt 8 (.aload_n 0) 1 9 := ⟨by decide +kernel, rfl⟩
theorem d_ED_outputAt_9 : ez_at X_ED_outputAt 9 (.getfield 27) 3 12 := ⟨by decide +kernel, rfl⟩
theorem d_ED_outputAt_12 : ez_at X_ED_outputAt 12 (.iload_n 1) 1 13 := ⟨by decide +kernel, rfl⟩
theorem d_ED_outputAt_13 : ez_at X_ED_outputAt 13 (.iaload) 1 14 := ⟨by decide +kernel, rfl⟩
theorem d_ED_outputAt_14 : ez_br X_ED_outputAt 14 (.goto 4) 3 17 4 18 := ⟨by decide +kernel, rfl, rfl⟩
theorem d_ED_outputAt_17 : ez_at X_ED_outputAt 17 (.iconst (-1)) 1 18 := ⟨by decide +kernel, rfl⟩
theorem d_ED_outputAt_18 : ez_at X_ED_outputAt 18 (.ireturn) 1 19 := ⟨by decide +kernel, rfl⟩
theorem d_ED_delayAt_0 : ez_at X_ED_delayAt 0 (.iload_n 1) 1 1 := ⟨by decide +kernel, rfl⟩
theorem d_ED_delayAt_1 : ez_at X_ED_delayAt 1 (.aload_n 0) 1 2 := ⟨by decide +kernel, rfl⟩
theorem d_ED_delayAt_2 : ez_at X_ED_delayAt 2 (.getfield 40) 3 5 := ⟨by decide +kernel, rfl⟩
theorem d_ED_delayAt_5 : ez_at X_ED_delayAt 5 (.invokestatic 60) 3 8 := ⟨by decide +kernel, rfl⟩
theorem d_ED_delayAt_8 : ez_br X_ED_delayAt 8 (.ifCond .eq 12) 3 11 12 20 := ⟨by decide +kernel, rfl, rfl⟩
theorem d_ED_delayAt_11 : ez_at X_ED_delayAt 11 (.aload_n 0) 1 12 := ⟨by decide +kernel, rfl⟩
theorem d_ED_delayAt_12 : ez_at X_ED_delayAt 12 (.getfield 30) 3 15 := ⟨by decide +kernel, rfl⟩
theorem d_ED_delayAt_15 : ez_at X_ED_delayAt 15 (.iload_n 1) 1 16 := ⟨by decide +kernel, rfl⟩
theorem d_ED_delayAt_16 : ez_at X_ED_delayAt 16 (.iaload) 1 17 := ⟨by decide +kernel, rfl⟩
theorem d_ED_delayAt_17 : ez_br X_ED_delayAt 17 (.goto 4) 3 20 4 21 := ⟨by decide +kernel, rfl, rfl⟩
theorem d_ED_delayAt_20 : ez_at X_ED_delayAt 20 (.iconst (-1)) 1 21 := ⟨by decide +kernel, rfl⟩
theorem d_ED_delayAt_21 : ez_at X_ED_delayAt 21 (.ireturn) 1 22 := ⟨by decide +kernel, rfl⟩
theorem d_ED_neededAt_0 : ez_at X_ED_neededAt 0 (.aload_n 0) 1 1 := ⟨by decide +kernel, rfl⟩
theorem d_ED_neededAt_1 : ez_at X_ED_neededAt 1 (.iload_n 1) 1 2 := ⟨by decide +kernel, rfl⟩
theorem d_ED_neededAt_2 : ez_at X_ED_neededAt 2 (.invokevirtual 57) 3 5 := ⟨by decide +kernel, rfl⟩
theorem d_ED_neededAt_5 : ez_br X_ED_neededAt 5 (.ifCond .eq 21) 3 8 21 26 := ⟨by decide +kernel, rfl, rfl⟩
theorem d_ED_neededAt_8 : ez_at X_ED_neededAt 8 (.iload_n 2) 1 9 := ⟨by decide +kernel, rfl⟩
theorem d_ED_neededAt_9 : ez_br X_ED_neededAt 9 (.ifCond .lt 17) 3 12 17 26 := ⟨by decide +kernel, rfl, rfl⟩
theorem d_ED_neededAt_12 : ez_at X_ED_neededAt 12 (.iload_n 2) 1 13 := ⟨by decide +kernel, rfl⟩
theorem d_ED_neededAt_13 : ez_at X_ED_neededAt 13 (.aload_n 0) 1 14 := ⟨by decide +kernel, rfl⟩
theorem d_ED_neededAt_14 : ez_at X_ED_neededAt 14 (.getfield 18) 3 17 := ⟨by decide +kernel, rfl⟩
theorem d_ED_neededAt_17 : ez_at X_ED_neededAt 17 (.iload_n 1) 1 18 := ⟨by decide +kernel, rfl⟩
theorem d_ED_neededAt_18 : ez_at X_ED_neededAt 18 (.iaload) 1 19 := ⟨by decide +kernel, rfl⟩
theorem d_ED_neededAt_19 : ez_br X_ED_neededAt 19 (.if_icmp .ge 7) 3 22 7 26 := ⟨by decide +kernel, rfl, rfl⟩
theorem d_ED_neededAt_22 : ez_at X_ED_neededAt 22 (.iconst 1) 1 23 := ⟨by decide +kernel, rfl⟩
theorem d_ED_neededAt_23 : ez_br X_ED_neededAt 23 (.goto 4) 3 26 4 27 := ⟨by decide +kernel, rfl, rfl⟩
theorem d_ED_neededAt_26 : ez_at X_ED_neededAt 26 (.iconst 0) 1 27 := ⟨by decide +kernel, rfl⟩
theorem d_ED_neededAt_27 : ez_at X_ED_neededAt 27 (.istore_n 3) 1 28 := ⟨by decide +kernel, rfl⟩
theorem d_ED_neededAt_28 : ez_at X_ED_neededAt 28 (.iload_n 3) 1 29 := ⟨by decide +kernel, rfl⟩
theorem d_ED_neededAt_29 : ez_br X_ED_neededAt 29 (.ifCond .eq 16) 3 32 16 45 := ⟨by decide +kernel, rfl, rfl⟩
theorem d_ED_neededAt_32 : ez_at X_ED_neededAt 32 (.aload_n 0) 1 33 := ⟨by decide +kernel, rfl⟩
theorem d_ED_neededAt_33 : ez_at X_ED_neededAt 33 (.getfield 21) 3 36 := ⟨by decide +kernel, rfl⟩
theorem d_ED_neededAt_36 : ez_at X_ED_neededAt 36 (.iload_n 1) 1 37 := ⟨by decide +kernel, rfl⟩
theorem d_ED_neededAt_37 : ez_at X_ED_neededAt 37 (.iconst 2) 1 38 := ⟨by decide +kernel, rfl⟩
theorem d_ED_neededAt_38 : ez_at X_ED_neededAt 38 (.imul) 1 39 := ⟨by decide +kernel, rfl⟩
theorem d_ED_neededAt_39 : ez_at X_ED_neededAt 39 (.iload_n 2) 1 40 := ⟨by decide +kernel, rfl⟩
theorem d_ED_neededAt_40 : ez_at X_ED_neededAt 40 (.iadd) 1 41 := ⟨by decide +kernel, rfl⟩
theorem d_ED_neededAt_41 : ez_at X_ED_neededAt 41 (.iaload) 1 42 := ⟨by decide +kernel, rfl⟩
theorem d_ED_neededAt_42 : ez_br X_ED_neededAt 42 (.goto 4) 3 45 4 46 := ⟨by decide +kernel, rfl, rfl⟩
theorem d_ED_neededAt_45 : ez_at X_ED_neededAt 45 (.iconst (-1)) 1 46 := ⟨by decide +kernel, rfl⟩
theorem d_ED_neededAt_46 : ez_at X_ED_neededAt 46 (.ireturn) 1 47 := ⟨by decide +kernel, rfl⟩
theorem d_ED_neededInTick_0 : ez_at X_ED_neededInTick 0 (.aload_n 0) 1 1 := ⟨by decide +kernel, rfl⟩
theorem d_ED_neededInTick_1 : ez_at X_ED_neededInTick 1 (.iload_n 1) 1 2 := ⟨by decide +kernel, rfl⟩
theorem d_ED_neededInTick_2 : ez_at X_ED_neededInTick 2 (.invokevirtual 57) 3 5 := ⟨by decide +kernel, rfl⟩
theorem d_ED_neededInTick_5 : ez_br X_ED_neededInTick 5 (.ifCond .eq 23) 3 8 23 28 := ⟨by decide +kernel, rfl, rfl⟩
theorem d_ED_neededInTick_8 : ez_at X_ED_neededInTick 8 (.aload_n 0) 1 9 := ⟨by decide +kernel, rfl⟩
theorem d_ED_neededInTick_9 : ez_at X_ED_neededInTick 9 (.getfield 9) 3 12 := ⟨by decide +kernel, rfl⟩
theorem d_ED_neededInTick_12 : ez_at X_ED_neededInTick 12 (.iload_n 1) 1 13 := ⟨by decide +kernel, rfl⟩
theorem d_ED_neededInTick_13 : ez_at X_ED_neededInTick 13 (.iaload) 1 14 := ⟨by decide +kernel, rfl⟩
theorem d_ED_neededInTick_14 : ez_at X_ED_neededInTick 14 (.bipush 6) 2 16 := ⟨by decide +kernel, rfl⟩
theorem d_ED_neededInTick_16 : ez_br X_ED_neededInTick 16 (.if_icmp .eq 12) 3 19 12 28 := ⟨by decide +kernel, rfl, rfl⟩
theorem d_ED_neededInTick_19 : ez_at X_ED_neededInTick 19 (.aload_n 0) 1 20 := ⟨by decide +kernel, rfl⟩
theorem d_ED_neededInTick_20 : ez_at X_ED_neededInTick 20 (.getfield 24) 3 23 := ⟨by decide +kernel, rfl⟩
theorem d_ED_neededInTick_23 : ez_at X_ED_neededInTick 23 (.iload_n 1) 1 24 := ⟨by decide +kernel, rfl⟩
theorem d_ED_neededInTick_24 : ez_at X_ED_neededInTick 24 (.iaload) 1 25 := ⟨by decide +kernel, rfl⟩
theorem d_ED_neededInTick_25 : ez_br X_ED_neededInTick 25 (.goto 4) 3 28 4 29 := ⟨by decide +kernel, rfl, rfl⟩
theorem d_ED_neededInTick_28 : ez_at X_ED_neededInTick 28 (.iconst 0) 1 29 := ⟨by decide +kernel, rfl⟩
theorem d_ED_neededInTick_29 : ez_at X_ED_neededInTick 29 (.ireturn) 1 30 := ⟨by decide +kernel, rfl⟩
theorem d_ED_firstFault_0 : ez_at X_ED_firstFault 0 (.aload_n 0) 1 1 := ⟨by decide +kernel, rfl⟩
theorem d_ED_firstFault_1 : ez_at X_ED_firstFault 1 (.invokevirtual 74) 3 4 := ⟨by decide +kernel, rfl⟩
theorem d_ED_firstFault_4 : ez_at X_ED_firstFault 4 (.istore_n 1) 1 5 := ⟨by decide +kernel, rfl⟩
theorem d_ED_firstFault_5 : ez_at X_ED_firstFault 5 (.iload_n 1) 1 6 := ⟨by decide +kernel, rfl⟩
theorem d_ED_firstFault_6 : ez_at X_ED_firstFault 6 (.iconst (-1)) 1 7 := ⟨by decide +kernel, rfl⟩
theorem d_ED_firstFault_7 : ez_br X_ED_firstFault 7 (.if_icmp .eq 7) 3 10 7 14 := ⟨by decide +kernel, rfl, rfl⟩
theorem d_ED_firstFault_10 : ez_at X_ED_firstFault 10 (.iload_n 1) 1 11 := ⟨by decide +kernel, rfl⟩
theorem d_ED_firstFault_11 : ez_br X_ED_firstFault 11 (.goto 7) 3 14 7 18 := ⟨by decide +kernel, rfl, rfl⟩
theorem d_ED_firstFault_14 : ez_at X_ED_firstFault 14 (.aload_n 0) 1 15 := ⟨by decide +kernel, rfl⟩
theorem d_ED_firstFault_15 : ez_at X_ED_firstFault 15 (.invokevirtual 78) 3 18 := ⟨by decide +kernel, rfl⟩
theorem d_ED_firstFault_18 : ez_at X_ED_firstFault 18 (.ireturn) 1 19 := ⟨by decide +kernel, rfl⟩
theorem d_ED_firstUnwired_0 : ez_at X_ED_firstUnwired 0 (.iconst 0) 1 1 := ⟨by decide +kernel, rfl⟩
theorem d_ED_firstUnwired_1 : ez_at X_ED_firstUnwired 1 (.istore_n 1) 1 2 := ⟨by decide +kernel, rfl⟩
theorem d_ED_firstUnwired_2 : ez_at X_ED_firstUnwired 2 (.iload_n 1) 1 3 := ⟨by decide +kernel, rfl⟩
theorem d_ED_firstUnwired_3 : ez_at X_ED_firstUnwired 3 (.aload_n 0) 1 4 := ⟨by decide +kernel, rfl⟩
theorem d_ED_firstUnwired_4 : ez_at X_ED_firstUnwired 4 (.getfield 36) 3 7 := ⟨by decide +kernel, rfl⟩
theorem d_ED_firstUnwired_7 : ez_br X_ED_firstUnwired 7 (.if_icmp .ge 43) 3 10 43 50 := ⟨by decide +kernel, rfl, rfl⟩
theorem d_ED_firstUnwired_10 : ez_at X_ED_firstUnwired 10 (.iconst 0) 1 11 := ⟨by decide +kernel, rfl⟩
theorem d_ED_firstUnwired_11 : ez_at X_ED_firstUnwired 11 (.istore_n 2) 1 12 := ⟨by decide +kernel, rfl⟩
theorem d_ED_firstUnwired_12 : ez_at X_ED_firstUnwired 12 (.iload_n 2) 1 13 := ⟨by decide +kernel, rfl⟩
theorem d_ED_firstUnwired_13 : ez_at X_ED_firstUnwired 13 (.aload_n 0) 1 14 := ⟨by decide +kernel, rfl⟩
theorem d_ED_firstUnwired_14 : ez_at X_ED_firstUnwired 14 (.getfield 18) 3 17 := ⟨by decide +kernel, rfl⟩
theorem d_ED_firstUnwired_17 : ez_at X_ED_firstUnwired 17 (.iload_n 1) 1 18 := ⟨by decide +kernel, rfl⟩
theorem d_ED_firstUnwired_18 : ez_at X_ED_firstUnwired 18 (.iaload) 1 19 := ⟨by decide +kernel, rfl⟩
theorem d_ED_firstUnwired_19 : ez_br X_ED_firstUnwired 19 (.if_icmp .ge 25) 3 22 25 44 := ⟨by decide +kernel, rfl, rfl⟩
theorem d_ED_firstUnwired_22 : ez_at X_ED_firstUnwired 22 (.aload_n 0) 1 23 := ⟨by decide +kernel, rfl⟩
theorem d_ED_firstUnwired_23 : ez_at X_ED_firstUnwired 23 (.getfield 21) 3 26 := ⟨by decide +kernel, rfl⟩
theorem d_ED_firstUnwired_26 : ez_at X_ED_firstUnwired 26 (.iload_n 1) 1 27 := ⟨by decide +kernel, rfl⟩
theorem d_ED_firstUnwired_27 : ez_at X_ED_firstUnwired 27 (.iconst 2) 1 28 := ⟨by decide +kernel, rfl⟩
theorem d_ED_firstUnwired_28 : ez_at X_ED_firstUnwired 28 (.imul) 1 29 := ⟨by decide +kernel, rfl⟩
theorem d_ED_firstUnwired_29 : ez_at X_ED_firstUnwired 29 (.iload_n 2) 1 30 := ⟨by decide +kernel, rfl⟩
theorem d_ED_firstUnwired_30 : ez_at X_ED_firstUnwired 30 (.iadd) 1 31 := ⟨by decide +kernel, rfl⟩
theorem d_ED_firstUnwired_31 : ez_at X_ED_firstUnwired 31 (.iaload) 1 32 := ⟨by decide +kernel, rfl⟩
theorem d_ED_firstUnwired_32 : ez_at X_ED_firstUnwired 32 (.iconst (-1)) 1 33 := ⟨by decide +kernel, rfl⟩
theorem d_ED_firstUnwired_33 : ez_br X_ED_firstUnwired 33 (.if_icmp .ne 5) 3 36 5 38 := ⟨by decide +kernel, rfl, rfl⟩
theorem d_ED_firstUnwired_36 : ez_at X_ED_firstUnwired 36 (.iload_n 1) 1 37 := ⟨by decide +kernel, rfl⟩
theorem d_ED_firstUnwired_37 : ez_at X_ED_firstUnwired 37 (.ireturn) 1 38 := ⟨by decide +kernel, rfl⟩
theorem d_ED_firstUnwired_38 : ez_at X_ED_firstUnwired 38 (.iinc 2 1) 3 41 := ⟨by decide +kernel, rfl⟩
theorem d_ED_firstUnwired_41 : ez_br X_ED_firstUnwired 41 (.goto (-29)) 3 44 (-29) 12 := ⟨by decide +kernel, rfl, rfl⟩
theorem d_ED_firstUnwired_44 : ez_at X_ED_firstUnwired 44 (.iinc 1 1) 3 47 := ⟨by decide +kernel, rfl⟩
theorem d_ED_firstUnwired_47 : ez_br X_ED_firstUnwired 47 (.goto (-45)) 3 50 (-45) 2 := ⟨by decide +kernel, rfl, rfl⟩
theorem d_ED_firstUnwired_50 : ez_at X_ED_firstUnwired 50 (.iconst (-1)) 1 51 := ⟨by decide +kernel, rfl⟩
theorem d_ED_firstUnwired_51 : ez_at X_ED_firstUnwired 51 (.ireturn) 1 52 := ⟨by decide +kernel, rfl⟩
theorem d_ED_firstComingBack_0 : ez_at X_ED_firstComingBack 0 (.iconst 0) 1 1 := ⟨by decide +kernel, rfl⟩
theorem d_ED_firstComingBack_1 : ez_at X_ED_firstComingBack 1 (.istore_n 1) 1 2 := ⟨by decide +kernel, rfl⟩
theorem d_ED_firstComingBack_2 : ez_at X_ED_firstComingBack 2 (.iload_n 1) 1 3 := ⟨by decide +kernel, rfl⟩
theorem d_ED_firstComingBack_3 : ez_at X_ED_firstComingBack 3 (.aload_n 0) 1 4 := ⟨by decide +kernel, rfl⟩
theorem d_ED_firstComingBack_4 : ez_at X_ED_firstComingBack 4 (.getfield 36) 3 7 := ⟨by decide +kernel, rfl⟩
theorem d_ED_firstComingBack_7 : ez_br X_ED_firstComingBack 7 (.if_icmp .ge 20) 3 10 20 27 := ⟨by decide +kernel, rfl, rfl⟩
theorem d_ED_firstComingBack_10 : ez_at X_ED_firstComingBack 10 (.aload_n 0) 1 11 := ⟨by decide +kernel, rfl⟩
theorem d_ED_firstComingBack_11 : ez_at X_ED_firstComingBack 11 (.getfield 33) 3 14 := ⟨by decide +kernel, rfl⟩
theorem d_ED_firstComingBack_14 : ez_at X_ED_firstComingBack 14 (.iload_n 1) 1 15 := ⟨by decide +kernel, rfl⟩
theorem d_ED_firstComingBack_15 : ez_at X_ED_firstComingBack 15 (.aload_n 0) 1 16 := ⟨by decide +kernel, rfl⟩
theorem d_ED_firstComingBack_16 : ez_at X_ED_firstComingBack 16 (.iload_n 1) 1 17 := ⟨by decide +kernel, rfl⟩
theorem d_ED_firstComingBack_17 : ez_at X_ED_firstComingBack 17 (.invokevirtual 81) 3 20 := ⟨by decide +kernel, rfl⟩
theorem d_ED_firstComingBack_20 : ez_at X_ED_firstComingBack 20 (.iastore) 1 21 := ⟨by decide +kernel, rfl⟩
theorem d_ED_firstComingBack_21 : ez_at X_ED_firstComingBack 21 (.iinc 1 1) 3 24 := ⟨by decide +kernel, rfl⟩
theorem d_ED_firstComingBack_24 : ez_br X_ED_firstComingBack 24 (.goto (-22)) 3 27 (-22) 2 := ⟨by decide +kernel, rfl, rfl⟩
theorem d_ED_firstComingBack_27 : ez_at X_ED_firstComingBack 27 (.iconst 0) 1 28 := ⟨by decide +kernel, rfl⟩
theorem d_ED_firstComingBack_28 : ez_at X_ED_firstComingBack 28 (.istore_n 1) 1 29 := ⟨by decide +kernel, rfl⟩
theorem d_ED_firstComingBack_29 : ez_at X_ED_firstComingBack 29 (.iload_n 1) 1 30 := ⟨by decide +kernel, rfl⟩
theorem d_ED_firstComingBack_30 : ez_at X_ED_firstComingBack 30 (.aload_n 0) 1 31 := ⟨by decide +kernel, rfl⟩
theorem d_ED_firstComingBack_31 : ez_at X_ED_firstComingBack 31 (.getfield 36) 3 34 := ⟨by decide +kernel, rfl⟩
theorem d_ED_firstComingBack_34 : ez_br X_ED_firstComingBack 34 (.if_icmp .ge 53) 3 37 53 87 := ⟨by decide +kernel, rfl, rfl⟩
theorem d_ED_firstComingBack_37 : ez_at X_ED_firstComingBack 37 (.iconst 0) 1 38 := ⟨by decide +kernel, rfl⟩
theorem d_ED_firstComingBack_38 : ez_at X_ED_firstComingBack 38 (.istore_n 2) 1 39 := ⟨by decide +kernel, rfl⟩
theorem d_ED_firstComingBack_39 : ez_at X_ED_firstComingBack 39 (.iload_n 2) 1 40 := ⟨by decide +kernel, rfl⟩
theorem d_ED_firstComingBack_40 : ez_at X_ED_firstComingBack 40 (.aload_n 0) 1 41 := ⟨by decide +kernel, rfl⟩
theorem d_ED_firstComingBack_41 : ez_at X_ED_firstComingBack 41 (.getfield 36) 3 44 := ⟨by decide +kernel, rfl⟩
theorem d_ED_firstComingBack_44 : ez_br X_ED_firstComingBack 44 (.if_icmp .ge 37) 3 47 37 81 := ⟨by decide +kernel, rfl, rfl⟩
theorem d_ED_firstComingBack_47 : ez_at X_ED_firstComingBack 47 (.aload_n 0) 1 48 := ⟨by decide +kernel, rfl⟩
theorem d_ED_firstComingBack_48 : ez_at X_ED_firstComingBack 48 (.getfield 33) 3 51 := ⟨by decide +kernel, rfl⟩
theorem d_ED_firstComingBack_51 : ez_at X_ED_firstComingBack 51 (.iload_n 2) 1 52 := ⟨by decide +kernel, rfl⟩
theorem d_ED_firstComingBack_52 : ez_at X_ED_firstComingBack 52 (.iaload) 1 53 := ⟨by decide +kernel, rfl⟩
theorem d_ED_firstComingBack_53 : ez_at X_ED_firstComingBack 53 (.iload_n 1) 1 54 := ⟨by decide +kernel, rfl⟩
theorem d_ED_firstComingBack_54 : ez_at X_ED_firstComingBack 54 (.invokestatic 84) 3 57 := ⟨by decide +kernel, rfl⟩
theorem d_ED_firstComingBack_57 : ez_br X_ED_firstComingBack 57 (.ifCond .eq 18) 3 60 18 75 := ⟨by decide +kernel, rfl, rfl⟩
theorem d_ED_firstComingBack_60 : ez_at X_ED_firstComingBack 60 (.aload_n 0) 1 61 := ⟨by decide +kernel, rfl⟩
theorem d_ED_firstComingBack_61 : ez_at X_ED_firstComingBack 61 (.getfield 33) 3 64 := ⟨by decide +kernel, rfl⟩
theorem d_ED_firstComingBack_64 : ez_at X_ED_firstComingBack 64 (.iload_n 2) 1 65 := ⟨by decide +kernel, rfl⟩
theorem d_ED_firstComingBack_65 : ez_at X_ED_firstComingBack 65 (.dup2) 1 66 := ⟨by decide +kernel, rfl⟩
theorem d_ED_firstComingBack_66 : ez_at X_ED_firstComingBack 66 (.iaload) 1 67 := ⟨by decide +kernel, rfl⟩
theorem d_ED_firstComingBack_67 : ez_at X_ED_firstComingBack 67 (.aload_n 0) 1 68 := ⟨by decide +kernel, rfl⟩
theorem d_ED_firstComingBack_68 : ez_at X_ED_firstComingBack 68 (.getfield 33) 3 71 := ⟨by decide +kernel, rfl⟩
theorem d_ED_firstComingBack_71 : ez_at X_ED_firstComingBack 71 (.iload_n 1) 1 72 := ⟨by decide +kernel, rfl⟩
theorem d_ED_firstComingBack_72 : ez_at X_ED_firstComingBack 72 (.iaload) 1 73 := ⟨by decide +kernel, rfl⟩
theorem d_ED_firstComingBack_73 : ez_at X_ED_firstComingBack 73 (.ior) 1 74 := ⟨by decide +kernel, rfl⟩
theorem d_ED_firstComingBack_74 : ez_at X_ED_firstComingBack 74 (.iastore) 1 75 := ⟨by decide +kernel, rfl⟩
theorem d_ED_firstComingBack_75 : ez_at X_ED_firstComingBack 75 (.iinc 2 1) 3 78 := ⟨by decide +kernel, rfl⟩
theorem d_ED_firstComingBack_78 : ez_br X_ED_firstComingBack 78 (.goto (-39)) 3 81 (-39) 39 := ⟨by decide +kernel, rfl, rfl⟩
theorem d_ED_firstComingBack_81 : ez_at X_ED_firstComingBack 81 (.iinc 1 1) 3 84 := ⟨by decide +kernel, rfl⟩
theorem d_ED_firstComingBack_84 : ez_br X_ED_firstComingBack 84 (.goto (-55)) 3 87 (-55) 29 := ⟨by decide +kernel, rfl, rfl⟩
theorem d_ED_firstComingBack_87 : ez_at X_ED_firstComingBack 87 (.iconst 0) 1 88 := ⟨by decide +kernel, rfl⟩
theorem d_ED_firstComingBack_88 : ez_at X_ED_firstComingBack 88 (.istore_n 1) 1 89 := ⟨by decide +kernel, rfl⟩
theorem d_ED_firstComingBack_89 : ez_at X_ED_firstComingBack 89 (.iload_n 1) 1 90 := ⟨by decide +kernel, rfl⟩
theorem d_ED_firstComingBack_90 : ez_at X_ED_firstComingBack 90 (.aload_n 0) 1 91 := ⟨by decide +kernel, rfl⟩
theorem d_ED_firstComingBack_91 : ez_at X_ED_firstComingBack 91 (.getfield 36) 3 94 := ⟨by decide +kernel, rfl⟩
theorem d_ED_firstComingBack_94 : ez_br X_ED_firstComingBack 94 (.if_icmp .ge 24) 3 97 24 118 := ⟨by decide +kernel, rfl, rfl⟩
theorem d_ED_firstComingBack_97 : ez_at X_ED_firstComingBack 97 (.aload_n 0) 1 98 := ⟨by decide +kernel, rfl⟩
theorem d_ED_firstComingBack_98 : ez_at X_ED_firstComingBack 98 (.getfield 33) 3 101 := ⟨by decide +kernel, rfl⟩
theorem d_ED_firstComingBack_101 : ez_at X_ED_firstComingBack 101 (.iload_n 1) 1 102 := ⟨by decide +kernel, rfl⟩
theorem d_ED_firstComingBack_102 : ez_at X_ED_firstComingBack 102 (.iaload) 1 103 := ⟨by decide +kernel, rfl⟩
theorem d_ED_firstComingBack_103 : ez_at X_ED_firstComingBack 103 (.iload_n 1) 1 104 := ⟨by decide +kernel, rfl⟩
theorem d_ED_firstComingBack_104 : ez_at X_ED_firstComingBack 104 (.invokestatic 84) 3 107 := ⟨by decide +kernel, rfl⟩
theorem d_ED_firstComingBack_107 : ez_br X_ED_firstComingBack 107 (.ifCond .eq 5) 3 110 5 112 := ⟨by decide +kernel, rfl, rfl⟩
theorem d_ED_firstComingBack_110 : ez_at X_ED_firstComingBack 110 (.iload_n 1) 1 111 := ⟨by decide +kernel, rfl⟩
theorem d_ED_firstComingBack_111 : ez_at X_ED_firstComingBack 111 (.ireturn) 1 112 := ⟨by decide +kernel, rfl⟩
theorem d_ED_firstComingBack_112 : ez_at X_ED_firstComingBack 112 (.iinc 1 1) 3 115 := ⟨by decide +kernel, rfl⟩
theorem d_ED_firstComingBack_115 : ez_br X_ED_firstComingBack 115 (.goto (-26)) 3 118 (-26) 89 := ⟨by decide +kernel, rfl, rfl⟩
theorem d_ED_firstComingBack_118 : ez_at X_ED_firstComingBack 118 (.iconst (-1)) 1 119 := ⟨by decide +kernel, rfl⟩
theorem d_ED_firstComingBack_119 : ez_at X_ED_firstComingBack 119 (.ireturn) 1 120 := ⟨by decide +kernel, rfl⟩
theorem d_ED_idleAt_0 : ez_at X_ED_idleAt 0 (.aload_n 0) 1 1 := ⟨by decide +kernel, rfl⟩
theorem d_ED_idleAt_1 : ez_at X_ED_idleAt 1 (.invokevirtual 87) 3 4 := ⟨by decide +kernel, rfl⟩
theorem d_ED_idleAt_4 : ez_at X_ED_idleAt 4 (.istore_n 2) 1 5 := ⟨by decide +kernel, rfl⟩
theorem d_ED_idleAt_5 : ez_at X_ED_idleAt 5 (.iconst 0) 1 6 := ⟨by decide +kernel, rfl⟩
theorem d_ED_idleAt_6 : ez_at X_ED_idleAt 6 (.istore_n 3) 1 7 := ⟨by decide +kernel, rfl⟩
theorem d_ED_idleAt_7 : ez_at X_ED_idleAt 7 (.iconst 0) 1 8 := ⟨by decide +kernel, rfl⟩
theorem d_ED_idleAt_8 : ez_at X_ED_idleAt 8 (.istore 4) 2 10 := ⟨by decide +kernel, rfl⟩
theorem d_ED_idleAt_10 : ez_at X_ED_idleAt 10 (.iload 4) 2 12 := ⟨by decide +kernel, rfl⟩
theorem d_ED_idleAt_12 : ez_at X_ED_idleAt 12 (.aload_n 0) 1 13 := ⟨by decide +kernel, rfl⟩
theorem d_ED_idleAt_13 : ez_at X_ED_idleAt 13 (.getfield 36) 3 16 := ⟨by decide +kernel, rfl⟩
theorem d_ED_idleAt_16 : ez_br X_ED_idleAt 16 (.if_icmp .ge 29) 3 19 29 45 := ⟨by decide +kernel, rfl, rfl⟩
theorem d_ED_idleAt_19 : ez_at X_ED_idleAt 19 (.iload_n 2) 1 20 := ⟨by decide +kernel, rfl⟩
theorem d_ED_idleAt_20 : ez_at X_ED_idleAt 20 (.iload 4) 2 22 := ⟨by decide +kernel, rfl⟩
theorem d_ED_idleAt_22 : ez_at X_ED_idleAt 22 (.invokestatic 84) 3 25 := ⟨by decide +kernel, rfl⟩
theorem d_ED_idleAt_25 : ez_br X_ED_idleAt 25 (.ifCond .ne 14) 3 28 14 39 := ⟨by decide +kernel, rfl, rfl⟩
theorem d_ED_idleAt_28 : ez_at X_ED_idleAt 28 (.iload_n 3) 1 29 := ⟨by decide +kernel, rfl⟩
theorem d_ED_idleAt_29 : ez_at X_ED_idleAt 29 (.iload_n 1) 1 30 := ⟨by decide +kernel, rfl⟩
theorem d_ED_idleAt_30 : ez_br X_ED_idleAt 30 (.if_icmp .ne 6) 3 33 6 36 := ⟨by decide +kernel, rfl, rfl⟩
theorem d_ED_idleAt_33 : ez_at X_ED_idleAt 33 (.iload 4) 2 35 := ⟨by decide +kernel, rfl⟩
theorem d_ED_idleAt_35 : ez_at X_ED_idleAt 35 (.ireturn) 1 36 := ⟨by decide +kernel, rfl⟩
theorem d_ED_idleAt_36 : ez_at X_ED_idleAt 36 (.iinc 3 1) 3 39 := ⟨by decide +kernel, rfl⟩
theorem d_ED_idleAt_39 : ez_at X_ED_idleAt 39 (.iinc 4 1) 3 42 := ⟨by decide +kernel, rfl⟩
theorem d_ED_idleAt_42 : ez_br X_ED_idleAt 42 (.goto (-32)) 3 45 (-32) 10 := ⟨by decide +kernel, rfl, rfl⟩
theorem d_ED_idleAt_45 : ez_at X_ED_idleAt 45 (.iconst (-1)) 1 46 := ⟨by decide +kernel, rfl⟩
theorem d_ED_idleAt_46 : ez_at X_ED_idleAt 46 (.ireturn) 1 47 := ⟨by decide +kernel, rfl⟩
theorem d_ED_liveBlocks_0 : ez_at X_ED_liveBlocks 0 (.iconst 0) 1 1 := ⟨by decide +kernel, rfl⟩
theorem d_ED_liveBlocks_1 : ez_at X_ED_liveBlocks 1 (.istore_n 1) 1 2 := ⟨by decide +kernel, rfl⟩
theorem d_ED_liveBlocks_2 : ez_at X_ED_liveBlocks 2 (.iconst 0) 1 3 := ⟨by decide +kernel, rfl⟩
theorem d_ED_liveBlocks_3 : ez_at X_ED_liveBlocks 3 (.istore_n 2) 1 4 := ⟨by decide +kernel, rfl⟩
theorem d_ED_liveBlocks_4 : ez_at X_ED_liveBlocks 4 (.iload_n 2) 1 5 := ⟨by decide +kernel, rfl⟩
theorem d_ED_liveBlocks_5 : ez_at X_ED_liveBlocks 5 (.iconst 3) 1 6 := ⟨by decide +kernel, rfl⟩
theorem d_ED_liveBlocks_6 : ez_br X_ED_liveBlocks 6 (.if_icmp .ge 21) 3 9 21 27 := ⟨by decide +kernel, rfl, rfl⟩
theorem d_ED_liveBlocks_9 : ez_at X_ED_liveBlocks 9 (.iload_n 1) 1 10 := ⟨by decide +kernel, rfl⟩
theorem d_ED_liveBlocks_10 : ez_at X_ED_liveBlocks 10 (.aload_n 0) 1 11 := ⟨by decide +kernel, rfl⟩
theorem d_ED_liveBlocks_11 : ez_at X_ED_liveBlocks 11 (.getfield 27) 3 14 := ⟨by decide +kernel, rfl⟩
theorem d_ED_liveBlocks_14 : ez_at X_ED_liveBlocks 14 (.iload_n 2) 1 15 := ⟨by decide +kernel, rfl⟩
theorem d_ED_liveBlocks_15 : ez_at X_ED_liveBlocks 15 (.iaload) 1 16 := ⟨by decide +kernel, rfl⟩
theorem d_ED_liveBlocks_16 : ez_at X_ED_liveBlocks 16 (.invokestatic 68) 3 19 := ⟨by decide +kernel, rfl⟩
theorem d_ED_liveBlocks_19 : ez_at X_ED_liveBlocks 19 (.ior) 1 20 := ⟨by decide +kernel, rfl⟩
theorem d_ED_liveBlocks_20 : ez_at X_ED_liveBlocks 20 (.istore_n 1) 1 21 := ⟨by decide +kernel, rfl⟩
theorem d_ED_liveBlocks_21 : ez_at X_ED_liveBlocks 21 (.iinc 2 1) 3 24 := ⟨by decide +kernel, rfl⟩
theorem d_ED_liveBlocks_24 : ez_br X_ED_liveBlocks 24 (.goto (-20)) 3 27 (-20) 4 := ⟨by decide +kernel, rfl, rfl⟩
theorem d_ED_liveBlocks_27 : ez_at X_ED_liveBlocks 27 (.iconst 1) 1 28 := ⟨by decide +kernel, rfl⟩
theorem d_ED_liveBlocks_28 : ez_at X_ED_liveBlocks 28 (.istore_n 2) 1 29 := ⟨by decide +kernel, rfl⟩
theorem d_ED_liveBlocks_29 : ez_at X_ED_liveBlocks 29 (.iconst 0) 1 30 := ⟨by decide +kernel, rfl⟩
theorem d_ED_liveBlocks_30 : ez_at X_ED_liveBlocks 30 (.istore_n 3) 1 31 := ⟨by decide +kernel, rfl⟩
theorem d_ED_liveBlocks_31 : ez_at X_ED_liveBlocks 31 (.iload_n 3) 1 32 := ⟨by decide +kernel, rfl⟩
theorem d_ED_liveBlocks_32 : ez_at X_ED_liveBlocks 32 (.bipush 24) 2 34 := ⟨by decide +kernel, rfl⟩
theorem d_ED_liveBlocks_34 : ez_br X_ED_liveBlocks 34 (.if_icmp .ge 69) 3 37 69 103 := ⟨by decide +kernel, rfl, rfl⟩
theorem d_ED_liveBlocks_37 : ez_at X_ED_liveBlocks 37 (.iload_n 2) 1 38 := ⟨by decide +kernel, rfl⟩
theorem d_ED_liveBlocks_38 : ez_br X_ED_liveBlocks 38 (.ifCond .eq 65) 3 41 65 103 := ⟨by decide +kernel, rfl, rfl⟩
theorem d_ED_liveBlocks_41 : ez_at X_ED_liveBlocks 41 (.iload_n 1) 1 42 := ⟨by decide +kernel, rfl⟩
theorem d_ED_liveBlocks_42 : ez_at X_ED_liveBlocks 42 (.istore 4) 2 44 := ⟨by decide +kernel, rfl⟩
theorem d_ED_liveBlocks_44 : ez_at X_ED_liveBlocks 44 (.iconst 0) 1 45 := ⟨by decide +kernel, rfl⟩
theorem d_ED_liveBlocks_45 : ez_at X_ED_liveBlocks 45 (.istore 5) 2 47 := ⟨by decide +kernel, rfl⟩
theorem d_ED_liveBlocks_47 : ez_at X_ED_liveBlocks 47 (.iload 5) 2 49 := ⟨by decide +kernel, rfl⟩
theorem d_ED_liveBlocks_49 : ez_at X_ED_liveBlocks 49 (.aload_n 0) 1 50 := ⟨by decide +kernel, rfl⟩
theorem d_ED_liveBlocks_50 : ez_at X_ED_liveBlocks 50 (.getfield 36) 3 53 := ⟨by decide +kernel, rfl⟩
theorem d_ED_liveBlocks_53 : ez_br X_ED_liveBlocks 53 (.if_icmp .ge 32) 3 56 32 85 := ⟨by decide +kernel, rfl, rfl⟩
theorem d_ED_liveBlocks_56 : ez_at X_ED_liveBlocks 56 (.iload_n 1) 1 57 := ⟨by decide +kernel, rfl⟩
theorem d_ED_liveBlocks_57 : ez_at X_ED_liveBlocks 57 (.iload_n 1) 1 58 := ⟨by decide +kernel, rfl⟩
theorem d_ED_liveBlocks_58 : ez_at X_ED_liveBlocks 58 (.iload 5) 2 60 := ⟨by decide +kernel, rfl⟩
theorem d_ED_liveBlocks_60 : ez_at X_ED_liveBlocks 60 (.invokestatic 84) 3 63 := ⟨by decide +kernel, rfl⟩
theorem d_ED_liveBlocks_63 : ez_br X_ED_liveBlocks 63 (.ifCond .eq 13) 3 66 13 76 := ⟨by decide +kernel, rfl, rfl⟩
theorem d_ED_liveBlocks_66 : ez_at X_ED_liveBlocks 66 (.aload_n 0) 1 67 := ⟨by decide +kernel, rfl⟩
theorem d_ED_liveBlocks_67 : ez_at X_ED_liveBlocks 67 (.getfield 24) 3 70 := ⟨by decide +kernel, rfl⟩
theorem d_ED_liveBlocks_70 : ez_at X_ED_liveBlocks 70 (.iload 5) 2 72 := ⟨by decide +kernel, rfl⟩
theorem d_ED_liveBlocks_72 : ez_at X_ED_liveBlocks 72 (.iaload) 1 73 := ⟨by decide +kernel, rfl⟩
theorem d_ED_liveBlocks_73 : ez_br X_ED_liveBlocks 73 (.goto 4) 3 76 4 77 := ⟨by decide +kernel, rfl, rfl⟩
theorem d_ED_liveBlocks_76 : ez_at X_ED_liveBlocks 76 (.iconst 0) 1 77 := ⟨by decide +kernel, rfl⟩
theorem d_ED_liveBlocks_77 : ez_at X_ED_liveBlocks 77 (.ior) 1 78 := ⟨by decide +kernel, rfl⟩
theorem d_ED_liveBlocks_78 : ez_at X_ED_liveBlocks 78 (.istore_n 1) 1 79 := ⟨by decide +kernel, rfl⟩
theorem d_ED_liveBlocks_79 : ez_at X_ED_liveBlocks 79 (.iinc 5 1) 3 82 := ⟨by decide +kernel, rfl⟩
theorem d_ED_liveBlocks_82 : ez_br X_ED_liveBlocks 82 (.goto (-35)) 3 85 (-35) 47 := ⟨by decide +kernel, rfl, rfl⟩
theorem d_ED_liveBlocks_85 : ez_at X_ED_liveBlocks 85 (.iload_n 1) 1 86 := ⟨by decide +kernel, rfl⟩
theorem d_ED_liveBlocks_86 : ez_at X_ED_liveBlocks 86 (.iload 4) 2 88 := ⟨by decide +kernel, rfl⟩
theorem d_ED_liveBlocks_88 : ez_br X_ED_liveBlocks 88 (.if_icmp .eq 7) 3 91 7 95 := ⟨by decide +kernel, rfl, rfl⟩
theorem d_ED_liveBlocks_91 : ez_at X_ED_liveBlocks 91 (.iconst 1) 1 92 := ⟨by decide +kernel, rfl⟩
theorem d_ED_liveBlocks_92 : ez_br X_ED_liveBlocks 92 (.goto 4) 3 95 4 96 := ⟨by decide +kernel, rfl, rfl⟩
theorem d_ED_liveBlocks_95 : ez_at X_ED_liveBlocks 95 (.iconst 0) 1 96 := ⟨by decide +kernel, rfl⟩
theorem d_ED_liveBlocks_96 : ez_at X_ED_liveBlocks 96 (.istore_n 2) 1 97 := ⟨by decide +kernel, rfl⟩
theorem d_ED_liveBlocks_97 : ez_at X_ED_liveBlocks 97 (.iinc 3 1) 3 100 := ⟨by decide +kernel, rfl⟩
theorem d_ED_liveBlocks_100 : ez_br X_ED_liveBlocks 100 (.goto (-69)) 3 103 (-69) 31 := ⟨by decide +kernel, rfl, rfl⟩
theorem d_ED_liveBlocks_103 : ez_at X_ED_liveBlocks 103 (.iload_n 1) 1 104 := ⟨by decide +kernel, rfl⟩
theorem d_ED_liveBlocks_104 : ez_at X_ED_liveBlocks 104 (.ireturn) 1 105 := ⟨by decide +kernel, rfl⟩
end
section
/-! ===== decoded: BH ===== -/
theorem d_BH_init_0 : ez_at X_BH_init 0 (.aload_n 0) 1 1 := ⟨by decide +kernel, rfl⟩
theorem d_BH_init_1 : ez_at X_BH_init 1 (.invokespecial 3) 3 4 := ⟨by decide +kernel, rfl⟩
theorem d_BH_init_4 : ez_at X_BH_init 4 (.aload_n 0) 1 5 := ⟨by decide +kernel, rfl⟩
theorem d_BH_init_5 : ez_at X_BH_init 5 (.bipush 24) 2 7 := ⟨by decide +kernel, rfl⟩
theorem d_BH_init_7 : ez_at X_BH_init 7 (.newarray .int) 2 9 := ⟨by decide +kernel, rfl⟩
theorem d_BH_init_9 : ez_at X_BH_init 9 (.putfield 9) 3 12 := ⟨by decide +kernel, rfl⟩
theorem d_BH_init_12 : ez_at X_BH_init 12 (.aload_n 0) 1 13 := ⟨by decide +kernel, rfl⟩
theorem d_BH_init_13 : ez_at X_BH_init 13 (.sipush 384) 3 16 := ⟨by decide +kernel, rfl⟩
theorem d_BH_init_16 : ez_at X_BH_init 16 (.newarray .int) 2 18 := ⟨by decide +kernel, rfl⟩
theorem d_BH_init_18 : ez_at X_BH_init 18 (.putfield 15) 3 21 := ⟨by decide +kernel, rfl⟩
theorem d_BH_init_21 : ez_at X_BH_init 21 (.aload_n 0) 1 22 := ⟨by decide +kernel, rfl⟩
theorem d_BH_init_22 : ez_at X_BH_init 22 (.sipush 512) 3 25 := ⟨by decide +kernel, rfl⟩
theorem d_BH_init_25 : ez_at X_BH_init 25 (.newarray .int) 2 27 := ⟨by decide +kernel, rfl⟩
theorem d_BH_init_27 : ez_at X_BH_init 27 (.putfield 18) 3 30 := ⟨by decide +kernel, rfl⟩
theorem d_BH_init_30 : ez_at X_BH_init 30 (.aload_n 0) 1 31 := ⟨by decide +kernel, rfl⟩
theorem d_BH_init_31 : ez_at X_BH_init 31 (.sipush 512) 3 34 := ⟨by decide +kernel, rfl⟩
theorem d_BH_init_34 : ez_at X_BH_init 34 (.newarray .int) 2 36 := ⟨by decide +kernel, rfl⟩
theorem d_BH_init_36 : ez_at X_BH_init 36 (.putfield 21) 3 39 := ⟨by decide +kernel, rfl⟩
theorem d_BH_init_39 : ez_at X_BH_init 39 (.aload_n 0) 1 40 := ⟨by decide +kernel, rfl⟩
theorem d_BH_init_40 : ez_at X_BH_init 40 (.bipush 32) 2 42 := ⟨by decide +kernel, rfl⟩
theorem d_BH_init_42 : ez_at X_BH_init 42 (.newarray .int) 2 44 := ⟨by decide +kernel, rfl⟩
theorem d_BH_init_44 : ez_at X_BH_init 44 (.putfield 24) 3 47 := ⟨by decide +kernel, rfl⟩
theorem d_BH_init_47 : ez_at X_BH_init 47 (.aload_n 0) 1 48 := ⟨by decide +kernel, rfl⟩
theorem d_BH_init_48 : ez_at X_BH_init 48 (.bipush 32) 2 50 := ⟨by decide +kernel, rfl⟩
theorem d_BH_init_50 : ez_at X_BH_init 50 (.newarray .int) 2 52 := ⟨by decide +kernel, rfl⟩
theorem d_BH_init_52 : ez_at X_BH_init 52 (.putfield 27) 3 55 := ⟨by decide +kernel, rfl⟩
theorem d_BH_init_55 : ez_at X_BH_init 55 (.aload_n 0) 1 56 := ⟨by decide +kernel, rfl⟩
theorem d_BH_init_56 : ez_at X_BH_init 56 (.bipush 32) 2 58 := ⟨by decide +kernel, rfl⟩
theorem d_BH_init_58 : ez_at X_BH_init 58 (.newarray .int) 2 60 := ⟨by decide +kernel, rfl⟩
theorem d_BH_init_60 : ez_at X_BH_init 60 (.putfield 30) 3 63 := ⟨by decide +kernel, rfl⟩
theorem d_BH_init_63 : ez_at X_BH_init 63 (.aload_n 0) 1 64 := ⟨by decide +kernel, rfl⟩
theorem d_BH_init_64 : ez_at X_BH_init 64 (.bipush 32) 2 66 := ⟨by decide +kernel, rfl⟩
theorem d_BH_init_66 : ez_at X_BH_init 66 (.newarray .int) 2 68 := ⟨by decide +kernel, rfl⟩
theorem d_BH_init_68 : ez_at X_BH_init 68 (.putfield 33) 3 71 := ⟨by decide +kernel, rfl⟩
theorem d_BH_init_71 : ez_at X_BH_init 71 (.aload_n 0) 1 72 := ⟨by decide +kernel, rfl⟩
theorem d_BH_init_72 : ez_at X_BH_init 72 (.iconst 0) 1 73 := ⟨by decide +kernel, rfl⟩
theorem d_BH_init_73 : ez_at X_BH_init 73 (.putfield 36) 3 76 := ⟨by decide +kernel, rfl⟩
theorem d_BH_init_76 : ez_at X_BH_init 76 (.aload_n 0) 1 77 := ⟨by decide +kernel, rfl⟩
theorem d_BH_init_77 : ez_at X_BH_init 77 (.iconst 1) 1 78 := ⟨by decide +kernel, rfl⟩
theorem d_BH_init_78 : ez_at X_BH_init 78 (.putfield 40) 3 81 := ⟨by decide +kernel, rfl⟩
theorem d_BH_init_81 : ez_at X_BH_init 81 (.aload_n 0) 1 82 := ⟨by decide +kernel, rfl⟩
theorem d_BH_init_82 : ez_at X_BH_init 82 (.iconst 0) 1 83 := ⟨by decide +kernel, rfl⟩
theorem d_BH_init_83 : ez_at X_BH_init 83 (.putfield 43) 3 86 := ⟨by decide +kernel, rfl⟩
theorem d_BH_init_86 : ez_at X_BH_init 86 (.aload_n 0) 1 87 := ⟨by decide +kernel, rfl⟩
theorem d_BH_init_87 : ez_at X_BH_init 87 (.iconst 0) 1 88 := ⟨by decide +kernel, rfl⟩
theorem d_BH_init_88 : ez_at X_BH_init 88 (.putfield 46) 3 91 := ⟨by decide +kernel, rfl⟩
theorem d_BH_init_91 : ez_at X_BH_init 91 (.aload_n 0) 1 92 := ⟨by decide +kernel, rfl⟩
theorem d_BH_init_92 : ez_at X_BH_init 92 (.aload_n 1) 1 93 := ⟨by decide +kernel, rfl⟩
theorem d_BH_init_93 : ez_at X_BH_init 93 (.putfield 50) 3 96 := ⟨by decide +kernel, rfl⟩
theorem d_BH_init_96 : ez_at X_BH_init 96 (.return_) 1 97 := ⟨by decide +kernel, rfl⟩
theorem d_BH_forget_0 : ez_at X_BH_forget 0 (.aload_n 0) 1 1 := ⟨by decide +kernel, rfl⟩
theorem d_BH_forget_1 : ez_at X_BH_forget 1 (.iconst 0) 1 2 := ⟨by decide +kernel, rfl⟩
theorem d_BH_forget_2 : ez_at X_BH_forget 2 (.putfield 46) 3 5 := ⟨by decide +kernel, rfl⟩
theorem d_BH_forget_5 : ez_at X_BH_forget 5 (.return_) 1 6 := ⟨by decide +kernel, rfl⟩
theorem d_BH_learn_0 : ez_at X_BH_learn 0 (.aload_n 0) 1 1 := ⟨by decide +kernel, rfl⟩
theorem d_BH_learn_1 : ez_at X_BH_learn 1 (.getfield 46) 3 4 := ⟨by decide +kernel, rfl⟩
theorem d_BH_learn_4 : ez_br X_BH_learn 4 (.ifCond .eq 4) 3 7 4 8 := ⟨by decide +kernel, rfl, rfl⟩
theorem d_BH_learn_7 : ez_at X_BH_learn 7 (.return_) 1 8 := ⟨by decide +kernel, rfl⟩
theorem d_BH_learn_8 : ez_at X_BH_learn 8 (.aload_n 0) 1 9 := ⟨by decide +kernel, rfl⟩
theorem d_BH_learn_9 : ez_at X_BH_learn 9 (.iconst 1) 1 10 := ⟨by decide +kernel, rfl⟩
theorem d_BH_learn_10 : ez_at X_BH_learn 10 (.aload_n 0) 1 11 := ⟨by decide +kernel, rfl⟩
theorem d_BH_learn_11 : ez_at X_BH_learn 11 (.getfield 50) 3 14 := ⟨by decide +kernel, rfl⟩
theorem d_BH_learn_14 : ez_at X_BH_learn 14 (.invokevirtual 54) 3 17 := ⟨by decide +kernel, rfl⟩
theorem d_BH_learn_17 : ez_at X_BH_learn 17 (.ishl) 1 18 := ⟨by decide +kernel, rfl⟩
theorem d_BH_learn_18 : ez_at X_BH_learn 18 (.putfield 40) 3 21 := ⟨by decide +kernel, rfl⟩
theorem d_BH_learn_21 : ez_at X_BH_learn 21 (.aload_n 0) 1 22 := ⟨by decide +kernel, rfl⟩
theorem d_BH_learn_22 : ez_at X_BH_learn 22 (.invokevirtual 60) 3 25 := ⟨by decide +kernel, rfl⟩
theorem d_BH_learn_25 : ez_at X_BH_learn 25 (.iconst 0) 1 26 := ⟨by decide +kernel, rfl⟩
theorem d_BH_learn_26 : ez_at X_BH_learn 26 (.istore_n 3) 1 27 := ⟨by decide +kernel, rfl⟩
theorem d_BH_learn_27 : ez_at X_BH_learn 27 (.iload_n 3) 1 28 := ⟨by decide +kernel, rfl⟩
theorem d_BH_learn_28 : ez_at X_BH_learn 28 (.iload_n 1) 1 29 := ⟨by decide +kernel, rfl⟩
theorem d_BH_learn_29 : ez_br X_BH_learn 29 (.if_icmp .ge 25) 3 32 25 54 := ⟨by decide +kernel, rfl, rfl⟩
theorem d_BH_learn_32 : ez_at X_BH_learn 32 (.iload_n 3) 1 33 := ⟨by decide +kernel, rfl⟩
theorem d_BH_learn_33 : ez_at X_BH_learn 33 (.bipush 16) 2 35 := ⟨by decide +kernel, rfl⟩
theorem d_BH_learn_35 : ez_br X_BH_learn 35 (.if_icmp .ge 19) 3 38 19 54 := ⟨by decide +kernel, rfl, rfl⟩
theorem d_BH_learn_38 : ez_at X_BH_learn 38 (.aload_n 0) 1 39 := ⟨by decide +kernel, rfl⟩
theorem d_BH_learn_39 : ez_at X_BH_learn 39 (.iload_n 3) 1 40 := ⟨by decide +kernel, rfl⟩
theorem d_BH_learn_40 : ez_at X_BH_learn 40 (.invokevirtual 63) 3 43 := ⟨by decide +kernel, rfl⟩
theorem d_BH_learn_43 : ez_at X_BH_learn 43 (.aload_n 0) 1 44 := ⟨by decide +kernel, rfl⟩
theorem d_BH_learn_44 : ez_at X_BH_learn 44 (.iload_n 3) 1 45 := ⟨by decide +kernel, rfl⟩
theorem d_BH_learn_45 : ez_at X_BH_learn 45 (.invokevirtual 67) 3 48 := ⟨by decide +kernel, rfl⟩
theorem d_BH_learn_48 : ez_at X_BH_learn 48 (.iinc 3 1) 3 51 := ⟨by decide +kernel, rfl⟩
theorem d_BH_learn_51 : ez_br X_BH_learn 51 (.goto (-24)) 3 54 (-24) 27 := ⟨by decide +kernel, rfl, rfl⟩
theorem d_BH_learn_54 : ez_at X_BH_learn 54 (.aload_n 0) 1 55 := ⟨by decide +kernel, rfl⟩
theorem d_BH_learn_55 : ez_at X_BH_learn 55 (.iload_n 2) 1 56 := ⟨by decide +kernel, rfl⟩
theorem d_BH_learn_56 : ez_at X_BH_learn 56 (.invokevirtual 70) 3 59 := ⟨by decide +kernel, rfl⟩
theorem d_BH_learn_59 : ez_at X_BH_learn 59 (.aload_n 0) 1 60 := ⟨by decide +kernel, rfl⟩
theorem d_BH_learn_60 : ez_at X_BH_learn 60 (.iconst 1) 1 61 := ⟨by decide +kernel, rfl⟩
theorem d_BH_learn_61 : ez_at X_BH_learn 61 (.putfield 46) 3 64 := ⟨by decide +kernel, rfl⟩
theorem d_BH_learn_64 : ez_at X_BH_learn 64 (.return_) 1 65 := ⟨by decide +kernel, rfl⟩
theorem d_BH_valueOf_0 : ez_at X_BH_valueOf 0 (.aload_n 0) 1 1 := ⟨by decide +kernel, rfl⟩
theorem d_BH_valueOf_1 : ez_at X_BH_valueOf 1 (.iload_n 1) 1 2 := ⟨by decide +kernel, rfl⟩
theorem d_BH_valueOf_2 : ez_at X_BH_valueOf 2 (.iload_n 3) 1 3 := ⟨by decide +kernel, rfl⟩
theorem d_BH_valueOf_3 : ez_at X_BH_valueOf 3 (.invokevirtual 73) 3 6 := ⟨by decide +kernel, rfl⟩
theorem d_BH_valueOf_6 : ez_at X_BH_valueOf 6 (.iload_n 2) 1 7 := ⟨by decide +kernel, rfl⟩
theorem d_BH_valueOf_7 : ez_at X_BH_valueOf 7 (.bipush 31) 2 9 := ⟨by decide +kernel, rfl⟩
theorem d_BH_valueOf_9 : ez_at X_BH_valueOf 9 (.iand) 1 10 := ⟨by decide +kernel, rfl⟩
theorem d_BH_valueOf_10 : ez_at X_BH_valueOf 10 (.iushr) 1 11 := ⟨by decide +kernel, rfl⟩
theorem d_BH_valueOf_11 : ez_at X_BH_valueOf 11 (.iconst 1) 1 12 := ⟨by decide +kernel, rfl⟩
theorem d_BH_valueOf_12 : ez_at X_BH_valueOf 12 (.iand) 1 13 := ⟨by decide +kernel, rfl⟩
theorem d_BH_valueOf_13 : ez_at X_BH_valueOf 13 (.ireturn) 1 14 := ⟨by decide +kernel, rfl⟩
theorem d_BH_outsOf_0 : ez_at X_BH_outsOf 0 (.iload_n 2) 1 1 := ⟨by decide +kernel, rfl⟩
theorem d_BH_outsOf_1 : ez_at X_BH_outsOf 1 (.bipush 16) 2 3 := ⟨by decide +kernel, rfl⟩
theorem d_BH_outsOf_3 : ez_at X_BH_outsOf 3 (.invokestatic 77) 3 6 := ⟨by decide +kernel, rfl⟩
theorem d_BH_outsOf_6 : ez_br X_BH_outsOf 6 (.ifCond .eq 17) 3 9 17 23 := ⟨by decide +kernel, rfl, rfl⟩
theorem d_BH_outsOf_9 : ez_at X_BH_outsOf 9 (.aload_n 0) 1 10 := ⟨by decide +kernel, rfl⟩
theorem d_BH_outsOf_10 : ez_at X_BH_outsOf 10 (.getfield 18) 3 13 := ⟨by decide +kernel, rfl⟩
theorem d_BH_outsOf_13 : ez_at X_BH_outsOf 13 (.aload_n 0) 1 14 := ⟨by decide +kernel, rfl⟩
theorem d_BH_outsOf_14 : ez_at X_BH_outsOf 14 (.iload_n 1) 1 15 := ⟨by decide +kernel, rfl⟩
theorem d_BH_outsOf_15 : ez_at X_BH_outsOf 15 (.iload_n 2) 1 16 := ⟨by decide +kernel, rfl⟩
theorem d_BH_outsOf_16 : ez_at X_BH_outsOf 16 (.invokevirtual 81) 3 19 := ⟨by decide +kernel, rfl⟩
theorem d_BH_outsOf_19 : ez_at X_BH_outsOf 19 (.iaload) 1 20 := ⟨by decide +kernel, rfl⟩
theorem d_BH_outsOf_20 : ez_br X_BH_outsOf 20 (.goto 4) 3 23 4 24 := ⟨by decide +kernel, rfl, rfl⟩
theorem d_BH_outsOf_23 : ez_at X_BH_outsOf 23 (.iconst 0) 1 24 := ⟨by decide +kernel, rfl⟩
theorem d_BH_outsOf_24 : ez_at X_BH_outsOf 24 (.ireturn) 1 25 := ⟨by decide +kernel, rfl⟩
theorem d_BH_stateAfter_0 : ez_at X_BH_stateAfter 0 (.iload_n 2) 1 1 := ⟨by decide +kernel, rfl⟩
theorem d_BH_stateAfter_1 : ez_at X_BH_stateAfter 1 (.bipush 16) 2 3 := ⟨by decide +kernel, rfl⟩
theorem d_BH_stateAfter_3 : ez_at X_BH_stateAfter 3 (.invokestatic 77) 3 6 := ⟨by decide +kernel, rfl⟩
theorem d_BH_stateAfter_6 : ez_br X_BH_stateAfter 6 (.ifCond .eq 17) 3 9 17 23 := ⟨by decide +kernel, rfl, rfl⟩
theorem d_BH_stateAfter_9 : ez_at X_BH_stateAfter 9 (.aload_n 0) 1 10 := ⟨by decide +kernel, rfl⟩
theorem d_BH_stateAfter_10 : ez_at X_BH_stateAfter 10 (.getfield 21) 3 13 := ⟨by decide +kernel, rfl⟩
theorem d_BH_stateAfter_13 : ez_at X_BH_stateAfter 13 (.aload_n 0) 1 14 := ⟨by decide +kernel, rfl⟩
theorem d_BH_stateAfter_14 : ez_at X_BH_stateAfter 14 (.iload_n 1) 1 15 := ⟨by decide +kernel, rfl⟩
theorem d_BH_stateAfter_15 : ez_at X_BH_stateAfter 15 (.iload_n 2) 1 16 := ⟨by decide +kernel, rfl⟩
theorem d_BH_stateAfter_16 : ez_at X_BH_stateAfter 16 (.invokevirtual 81) 3 19 := ⟨by decide +kernel, rfl⟩
theorem d_BH_stateAfter_19 : ez_at X_BH_stateAfter 19 (.iaload) 1 20 := ⟨by decide +kernel, rfl⟩
theorem d_BH_stateAfter_20 : ez_br X_BH_stateAfter 20 (.goto 4) 3 23 4 24 := ⟨by decide +kernel, rfl, rfl⟩
theorem d_BH_stateAfter_23 : ez_at X_BH_stateAfter 23 (.iconst 0) 1 24 := ⟨by decide +kernel, rfl⟩
theorem d_BH_stateAfter_24 : ez_at X_BH_stateAfter 24 (.ireturn) 1 25 := ⟨by decide +kernel, rfl⟩
theorem d_BH_countReached_0 : ez_at X_BH_countReached 0 (.aload_n 0) 1 1 := ⟨by decide +kernel, rfl⟩
theorem d_BH_countReached_1 : ez_at X_BH_countReached 1 (.getfield 43) 3 4 := ⟨by decide +kernel, rfl⟩
theorem d_BH_countReached_4 : ez_at X_BH_countReached 4 (.invokestatic 84) 3 7 := ⟨by decide +kernel, rfl⟩
theorem d_BH_countReached_7 : ez_at X_BH_countReached 7 (.ireturn) 1 8 := ⟨by decide +kernel, rfl⟩
theorem d_BH_reachedAt_0 : ez_at X_BH_reachedAt 0 (.iconst 0) 1 1 := ⟨by decide +kernel, rfl⟩
theorem d_BH_reachedAt_1 : ez_at X_BH_reachedAt 1 (.istore_n 2) 1 2 := ⟨by decide +kernel, rfl⟩
theorem d_BH_reachedAt_2 : ez_at X_BH_reachedAt 2 (.iconst 0) 1 3 := ⟨by decide +kernel, rfl⟩
theorem d_BH_reachedAt_3 : ez_at X_BH_reachedAt 3 (.istore_n 3) 1 4 := ⟨by decide +kernel, rfl⟩
theorem d_BH_reachedAt_4 : ez_at X_BH_reachedAt 4 (.iload_n 3) 1 5 := ⟨by decide +kernel, rfl⟩
theorem d_BH_reachedAt_5 : ez_at X_BH_reachedAt 5 (.bipush 32) 2 7 := ⟨by decide +kernel, rfl⟩
theorem d_BH_reachedAt_7 : ez_br X_BH_reachedAt 7 (.if_icmp .ge 30) 3 10 30 37 := ⟨by decide +kernel, rfl, rfl⟩
theorem d_BH_reachedAt_10 : ez_at X_BH_reachedAt 10 (.aload_n 0) 1 11 := ⟨by decide +kernel, rfl⟩
theorem d_BH_reachedAt_11 : ez_at X_BH_reachedAt 11 (.getfield 43) 3 14 := ⟨by decide +kernel, rfl⟩
theorem d_BH_reachedAt_14 : ez_at X_BH_reachedAt 14 (.iload_n 3) 1 15 := ⟨by decide +kernel, rfl⟩
theorem d_BH_reachedAt_15 : ez_at X_BH_reachedAt 15 (.invokestatic 90) 3 18 := ⟨by decide +kernel, rfl⟩
theorem d_BH_reachedAt_18 : ez_br X_BH_reachedAt 18 (.ifCond .eq 13) 3 21 13 31 := ⟨by decide +kernel, rfl, rfl⟩
theorem d_BH_reachedAt_21 : ez_at X_BH_reachedAt 21 (.iload_n 2) 1 22 := ⟨by decide +kernel, rfl⟩
theorem d_BH_reachedAt_22 : ez_at X_BH_reachedAt 22 (.iload_n 1) 1 23 := ⟨by decide +kernel, rfl⟩
theorem d_BH_reachedAt_23 : ez_br X_BH_reachedAt 23 (.if_icmp .ne 5) 3 26 5 28 := ⟨by decide +kernel, rfl, rfl⟩
theorem d_BH_reachedAt_26 : ez_at X_BH_reachedAt 26 (.iload_n 3) 1 27 := ⟨by decide +kernel, rfl⟩
theorem d_BH_reachedAt_27 : ez_at X_BH_reachedAt 27 (.ireturn) 1 28 := ⟨by decide +kernel, rfl⟩
theorem d_BH_reachedAt_28 : ez_at X_BH_reachedAt 28 (.iinc 2 1) 3 31 := ⟨by decide +kernel, rfl⟩
theorem d_BH_reachedAt_31 : ez_at X_BH_reachedAt 31 (.iinc 3 1) 3 34 := ⟨by decide +kernel, rfl⟩
theorem d_BH_reachedAt_34 : ez_br X_BH_reachedAt 34 (.goto (-30)) 3 37 (-30) 4 := ⟨by decide +kernel, rfl, rfl⟩
theorem d_BH_reachedAt_37 : ez_at X_BH_reachedAt 37 (.iconst (-1)) 1 38 := ⟨by decide +kernel, rfl⟩
theorem d_BH_reachedAt_38 : ez_at X_BH_reachedAt 38 (.ireturn) 1 39 := ⟨by decide +kernel, rfl⟩
theorem d_BH_placeOf_0 : ez_at X_BH_placeOf 0 (.iload_n 2) 1 1 := ⟨by decide +kernel, rfl⟩
theorem d_BH_placeOf_1 : ez_at X_BH_placeOf 1 (.bipush 32) 2 3 := ⟨by decide +kernel, rfl⟩
theorem d_BH_placeOf_3 : ez_at X_BH_placeOf 3 (.imul) 1 4 := ⟨by decide +kernel, rfl⟩
theorem d_BH_placeOf_4 : ez_at X_BH_placeOf 4 (.iload_n 1) 1 5 := ⟨by decide +kernel, rfl⟩
theorem d_BH_placeOf_5 : ez_at X_BH_placeOf 5 (.aload_n 0) 1 6 := ⟨by decide +kernel, rfl⟩
theorem d_BH_placeOf_6 : ez_at X_BH_placeOf 6 (.getfield 40) 3 9 := ⟨by decide +kernel, rfl⟩
theorem d_BH_placeOf_9 : ez_at X_BH_placeOf 9 (.iconst 1) 1 10 := ⟨by decide +kernel, rfl⟩
theorem d_BH_placeOf_10 : ez_at X_BH_placeOf 10 (.isub) 1 11 := ⟨by decide +kernel, rfl⟩
theorem d_BH_placeOf_11 : ez_at X_BH_placeOf 11 (.iand) 1 12 := ⟨by decide +kernel, rfl⟩
theorem d_BH_placeOf_12 : ez_at X_BH_placeOf 12 (.iadd) 1 13 := ⟨by decide +kernel, rfl⟩
theorem d_BH_placeOf_13 : ez_at X_BH_placeOf 13 (.ireturn) 1 14 := ⟨by decide +kernel, rfl⟩
theorem d_BH_orderBlocks_0 : ez_at X_BH_orderBlocks 0 (.iconst 0) 1 1 := ⟨by decide +kernel, rfl⟩
theorem d_BH_orderBlocks_1 : ez_at X_BH_orderBlocks 1 (.istore_n 1) 1 2 := ⟨by decide +kernel, rfl⟩
theorem d_BH_orderBlocks_2 : ez_at X_BH_orderBlocks 2 (.aload_n 0) 1 3 := ⟨by decide +kernel, rfl⟩
theorem d_BH_orderBlocks_3 : ez_at X_BH_orderBlocks 3 (.iconst 0) 1 4 := ⟨by decide +kernel, rfl⟩
theorem d_BH_orderBlocks_4 : ez_at X_BH_orderBlocks 4 (.putfield 36) 3 7 := ⟨by decide +kernel, rfl⟩
theorem d_BH_orderBlocks_7 : ez_at X_BH_orderBlocks 7 (.iconst 0) 1 8 := ⟨by decide +kernel, rfl⟩
theorem d_BH_orderBlocks_8 : ez_at X_BH_orderBlocks 8 (.istore_n 2) 1 9 := ⟨by decide +kernel, rfl⟩
theorem d_BH_orderBlocks_9 : ez_at X_BH_orderBlocks 9 (.iload_n 2) 1 10 := ⟨by decide +kernel, rfl⟩
theorem d_BH_orderBlocks_10 : ez_at X_BH_orderBlocks 10 (.bipush 24) 2 12 := ⟨by decide +kernel, rfl⟩
theorem d_BH_orderBlocks_12 : ez_br X_BH_orderBlocks 12 (.if_icmp .ge 113) 3 15 113 125 := ⟨by decide +kernel, rfl, rfl⟩
theorem d_BH_orderBlocks_15 : ez_at X_BH_orderBlocks 15 (.aload_n 0) 1 16 := ⟨by decide +kernel, rfl⟩
theorem d_BH_orderBlocks_16 : ez_at X_BH_orderBlocks 16 (.getfield 36) 3 19 := ⟨by decide +kernel, rfl⟩
theorem d_BH_orderBlocks_19 : ez_at X_BH_orderBlocks 19 (.aload_n 0) 1 20 := ⟨by decide +kernel, rfl⟩
theorem d_BH_orderBlocks_20 : ez_at X_BH_orderBlocks 20 (.getfield 50) 3 23 := ⟨by decide +kernel, rfl⟩
theorem d_BH_orderBlocks_23 : ez_at X_BH_orderBlocks 23 (.invokevirtual 93) 3 26 := ⟨by decide +kernel, rfl⟩
theorem d_BH_orderBlocks_26 : ez_br X_BH_orderBlocks 26 (.if_icmp .ge 99) 3 29 99 125 := ⟨by decide +kernel, rfl, rfl⟩
theorem d_BH_orderBlocks_29 : ez_at X_BH_orderBlocks 29 (.iconst 0) 1 30 := ⟨by decide +kernel, rfl⟩
theorem d_BH_orderBlocks_30 : ez_at X_BH_orderBlocks 30 (.istore_n 3) 1 31 := ⟨by decide +kernel, rfl⟩
theorem d_BH_orderBlocks_31 : ez_at X_BH_orderBlocks 31 (.iload_n 3) 1 32 := ⟨by decide +kernel, rfl⟩
theorem d_BH_orderBlocks_32 : ez_at X_BH_orderBlocks 32 (.aload_n 0) 1 33 := ⟨by decide +kernel, rfl⟩
theorem d_BH_orderBlocks_33 : ez_at X_BH_orderBlocks 33 (.getfield 50) 3 36 := ⟨by decide +kernel, rfl⟩
theorem d_BH_orderBlocks_36 : ez_at X_BH_orderBlocks 36 (.invokevirtual 93) 3 39 := ⟨by decide +kernel, rfl⟩
theorem d_BH_orderBlocks_39 : ez_br X_BH_orderBlocks 39 (.if_icmp .ge 80) 3 42 80 119 := ⟨by decide +kernel, rfl, rfl⟩
theorem d_BH_orderBlocks_42 : ez_at X_BH_orderBlocks 42 (.aload_n 0) 1 43 := ⟨by decide +kernel, rfl⟩
theorem d_BH_orderBlocks_43 : ez_at X_BH_orderBlocks 43 (.getfield 50) 3 46 := ⟨by decide +kernel, rfl⟩
theorem d_BH_orderBlocks_46 : ez_at X_BH_orderBlocks 46 (.iload_n 3) 1 47 := ⟨by decide +kernel, rfl⟩
theorem d_BH_orderBlocks_47 : ez_at X_BH_orderBlocks 47 (.invokevirtual 96) 3 50 := ⟨by decide +kernel, rfl⟩
theorem d_BH_orderBlocks_50 : ez_at X_BH_orderBlocks 50 (.iload_n 1) 1 51 := ⟨by decide +kernel, rfl⟩
theorem d_BH_orderBlocks_51 : ez_at X_BH_orderBlocks 51 (.iconst (-1)) 1 52 := ⟨by decide +kernel, rfl⟩
theorem d_BH_orderBlocks_52 : ez_at X_BH_orderBlocks 52 (.ixor) 1 53 := ⟨by decide +kernel, rfl⟩
theorem d_BH_orderBlocks_53 : ez_at X_BH_orderBlocks 53 (.iand) 1 54 := ⟨by decide +kernel, rfl⟩
theorem d_BH_orderBlocks_54 : ez_br X_BH_orderBlocks 54 (.ifCond .ne 7) 3 57 7 61 := ⟨by decide +kernel, rfl, rfl⟩
theorem d_BH_orderBlocks_57 : ez_at X_BH_orderBlocks 57 (.iconst 1) 1 58 := ⟨by decide +kernel, rfl⟩
theorem d_BH_orderBlocks_58 : ez_br X_BH_orderBlocks 58 (.goto 4) 3 61 4 62 := ⟨by decide +kernel, rfl, rfl⟩
theorem d_BH_orderBlocks_61 : ez_at X_BH_orderBlocks 61 (.iconst 0) 1 62 := ⟨by decide +kernel, rfl⟩
theorem d_BH_orderBlocks_62 : ez_at X_BH_orderBlocks 62 (.istore 4) 2 64 := ⟨by decide +kernel, rfl⟩
theorem d_BH_orderBlocks_64 : ez_at X_BH_orderBlocks 64 (.iload 4) 2 66 := ⟨by decide +kernel, rfl⟩
theorem d_BH_orderBlocks_66 : ez_br X_BH_orderBlocks 66 (.ifCond .eq 47) 3 69 47 113 := ⟨by decide +kernel, rfl, rfl⟩
theorem d_BH_orderBlocks_69 : ez_at X_BH_orderBlocks 69 (.iload_n 1) 1 70 := ⟨by decide +kernel, rfl⟩
theorem d_BH_orderBlocks_70 : ez_at X_BH_orderBlocks 70 (.iload_n 3) 1 71 := ⟨by decide +kernel, rfl⟩
theorem d_BH_orderBlocks_71 : ez_at X_BH_orderBlocks 71 (.invokestatic 90) 3 74 := ⟨by decide +kernel, rfl⟩
theorem d_BH_orderBlocks_74 : ez_br X_BH_orderBlocks 74 (.ifCond .ne 39) 3 77 39 113 := ⟨by decide +kernel, rfl, rfl⟩
theorem d_BH_orderBlocks_77 : ez_at X_BH_orderBlocks 77 (.aload_n 0) 1 78 := ⟨by decide +kernel, rfl⟩
theorem d_BH_orderBlocks_78 : ez_at X_BH_orderBlocks 78 (.getfield 36) 3 81 := ⟨by decide +kernel, rfl⟩
theorem d_BH_orderBlocks_81 : ez_at X_BH_orderBlocks 81 (.bipush 24) 2 83 := ⟨by decide +kernel, rfl⟩
theorem d_BH_orderBlocks_83 : ez_br X_BH_orderBlocks 83 (.if_icmp .ge 30) 3 86 30 113 := ⟨by decide +kernel, rfl, rfl⟩
theorem d_BH_orderBlocks_86 : ez_at X_BH_orderBlocks 86 (.aload_n 0) 1 87 := ⟨by decide +kernel, rfl⟩
theorem d_BH_orderBlocks_87 : ez_at X_BH_orderBlocks 87 (.getfield 9) 3 90 := ⟨by decide +kernel, rfl⟩
theorem d_BH_orderBlocks_90 : ez_at X_BH_orderBlocks 90 (.aload_n 0) 1 91 := ⟨by decide +kernel, rfl⟩
theorem d_BH_orderBlocks_91 : ez_at X_BH_orderBlocks 91 (.getfield 36) 3 94 := ⟨by decide +kernel, rfl⟩
theorem d_BH_orderBlocks_94 : ez_at X_BH_orderBlocks 94 (.iload_n 3) 1 95 := ⟨by decide +kernel, rfl⟩
theorem d_BH_orderBlocks_95 : ez_at X_BH_orderBlocks 95 (.iastore) 1 96 := ⟨by decide +kernel, rfl⟩
theorem d_BH_orderBlocks_96 : ez_at X_BH_orderBlocks 96 (.aload_n 0) 1 97 := ⟨by decide +kernel, rfl⟩
theorem d_BH_orderBlocks_97 : ez_at X_BH_orderBlocks 97 (.dup) 1 98 := ⟨by decide +kernel, rfl⟩
theorem d_BH_orderBlocks_98 : ez_at X_BH_orderBlocks 98 (.getfield 36) 3 101 := ⟨by decide +kernel, rfl⟩
theorem d_BH_orderBlocks_101 : ez_at X_BH_orderBlocks 101 (.iconst 1) 1 102 := ⟨by decide +kernel, rfl⟩
theorem d_BH_orderBlocks_102 : ez_at X_BH_orderBlocks 102 (.iadd) 1 103 := ⟨by decide +kernel, rfl⟩
theorem d_BH_orderBlocks_103 : ez_at X_BH_orderBlocks 103 (.putfield 36) 3 106 := ⟨by decide +kernel, rfl⟩
theorem d_BH_orderBlocks_106 : ez_at X_BH_orderBlocks 106 (.iload_n 1) 1 107 := ⟨by decide +kernel, rfl⟩
theorem d_BH_orderBlocks_107 : ez_at X_BH_orderBlocks 107 (.iload_n 3) 1 108 := ⟨by decide +kernel, rfl⟩
theorem d_BH_orderBlocks_108 : ez_at X_BH_orderBlocks 108 (.invokestatic 99) 3 111 := ⟨by decide +kernel, rfl⟩
theorem d_BH_orderBlocks_111 : ez_at X_BH_orderBlocks 111 (.ior) 1 112 := ⟨by decide +kernel, rfl⟩
theorem d_BH_orderBlocks_112 : ez_at X_BH_orderBlocks 112 (.istore_n 1) 1 113 := ⟨by decide +kernel, rfl⟩
theorem d_BH_orderBlocks_113 : ez_at X_BH_orderBlocks 113 (.iinc 3 1) 3 116 := ⟨by decide +kernel, rfl⟩
theorem d_BH_orderBlocks_116 : ez_br X_BH_orderBlocks 116 (.goto (-85)) 3 119 (-85) 31 := ⟨by decide +kernel, rfl, rfl⟩
theorem d_BH_orderBlocks_119 : ez_at X_BH_orderBlocks 119 (.iinc 2 1) 3 122 := ⟨by decide +kernel, rfl⟩
theorem d_BH_orderBlocks_122 : ez_br X_BH_orderBlocks 122 (.goto (-113)) 3 125 (-113) 9 := ⟨by decide +kernel, rfl, rfl⟩
theorem d_BH_orderBlocks_125 : ez_at X_BH_orderBlocks 125 (.return_) 1 126 := ⟨by decide +kernel, rfl⟩
theorem d_BH_fillColumns_0 : ez_at X_BH_fillColumns 0 (.iconst 0) 1 1 := ⟨by decide +kernel, rfl⟩
theorem d_BH_fillColumns_1 : ez_at X_BH_fillColumns 1 (.istore_n 2) 1 2 := ⟨by decide +kernel, rfl⟩
theorem d_BH_fillColumns_2 : ez_at X_BH_fillColumns 2 (.iload_n 2) 1 3 := ⟨by decide +kernel, rfl⟩
theorem d_BH_fillColumns_3 : ez_at X_BH_fillColumns 3 (.aload_n 0) 1 4 := ⟨by decide +kernel, rfl⟩
theorem d_BH_fillColumns_4 : ez_at X_BH_fillColumns 4 (.getfield 36) 3 7 := ⟨by decide +kernel, rfl⟩
theorem d_BH_fillColumns_7 : ez_br X_BH_fillColumns 7 (.if_icmp .ge 33) 3 10 33 40 := ⟨by decide +kernel, rfl, rfl⟩
theorem d_BH_fillColumns_10 : ez_at X_BH_fillColumns 10 (.aload_n 0) 1 11 := ⟨by decide +kernel, rfl⟩
theorem d_BH_fillColumns_11 : ez_at X_BH_fillColumns 11 (.getfield 9) 3 14 := ⟨by decide +kernel, rfl⟩
theorem d_BH_fillColumns_14 : ez_at X_BH_fillColumns 14 (.iload_n 2) 1 15 := ⟨by decide +kernel, rfl⟩
theorem d_BH_fillColumns_15 : ez_at X_BH_fillColumns 15 (.iaload) 1 16 := ⟨by decide +kernel, rfl⟩
theorem d_BH_fillColumns_16 : ez_at X_BH_fillColumns 16 (.istore_n 3) 1 17 := ⟨by decide +kernel, rfl⟩
theorem d_BH_fillColumns_17 : ez_at X_BH_fillColumns 17 (.aload_n 0) 1 18 := ⟨by decide +kernel, rfl⟩
theorem d_BH_fillColumns_18 : ez_at X_BH_fillColumns 18 (.getfield 15) 3 21 := ⟨by decide +kernel, rfl⟩
theorem d_BH_fillColumns_21 : ez_at X_BH_fillColumns 21 (.iload_n 1) 1 22 := ⟨by decide +kernel, rfl⟩
theorem d_BH_fillColumns_22 : ez_at X_BH_fillColumns 22 (.bipush 24) 2 24 := ⟨by decide +kernel, rfl⟩
theorem d_BH_fillColumns_24 : ez_at X_BH_fillColumns 24 (.imul) 1 25 := ⟨by decide +kernel, rfl⟩
theorem d_BH_fillColumns_25 : ez_at X_BH_fillColumns 25 (.iload_n 3) 1 26 := ⟨by decide +kernel, rfl⟩
theorem d_BH_fillColumns_26 : ez_at X_BH_fillColumns 26 (.iadd) 1 27 := ⟨by decide +kernel, rfl⟩
theorem d_BH_fillColumns_27 : ez_at X_BH_fillColumns 27 (.aload_n 0) 1 28 := ⟨by decide +kernel, rfl⟩
theorem d_BH_fillColumns_28 : ez_at X_BH_fillColumns 28 (.iload_n 3) 1 29 := ⟨by decide +kernel, rfl⟩
theorem d_BH_fillColumns_29 : ez_at X_BH_fillColumns 29 (.iload_n 1) 1 30 := ⟨by decide +kernel, rfl⟩
theorem d_BH_fillColumns_30 : ez_at X_BH_fillColumns 30 (.invokevirtual 102) 3 33 := ⟨by decide +kernel, rfl⟩
theorem d_BH_fillColumns_33 : ez_at X_BH_fillColumns 33 (.iastore) 1 34 := ⟨by decide +kernel, rfl⟩
theorem d_BH_fillColumns_34 : ez_at X_BH_fillColumns 34 (.iinc 2 1) 3 37 := ⟨by decide +kernel, rfl⟩
theorem d_BH_fillColumns_37 : ez_br X_BH_fillColumns 37 (.goto (-35)) 3 40 (-35) 2 := ⟨by decide +kernel, rfl, rfl⟩
theorem d_BH_fillColumns_40 : ez_at X_BH_fillColumns 40 (.return_) 1 41 := ⟨by decide +kernel, rfl⟩
theorem d_BH_workOutColumn_0 : ez_at X_BH_workOutColumn 0 (.aload_n 0) 1 1 := ⟨by decide +kernel, rfl⟩
theorem d_BH_workOutColumn_1 : ez_at X_BH_workOutColumn 1 (.getfield 50) 3 4 := ⟨by decide +kernel, rfl⟩
theorem d_BH_workOutColumn_4 : ez_at X_BH_workOutColumn 4 (.iload_n 1) 1 5 := ⟨by decide +kernel, rfl⟩
theorem d_BH_workOutColumn_5 : ez_at X_BH_workOutColumn 5 (.invokevirtual 105) 3 8 := ⟨by decide +kernel, rfl⟩
theorem d_BH_workOutColumn_8 : ez_at X_BH_workOutColumn 8 (.istore_n 3) 1 9 := ⟨by decide +kernel, rfl⟩
theorem d_BH_workOutColumn_9 : ez_at X_BH_workOutColumn 9 (.aload_n 0) 1 10 := ⟨by decide +kernel, rfl⟩
theorem d_BH_workOutColumn_10 : ez_at X_BH_workOutColumn 10 (.aload_n 0) 1 11 := ⟨by decide +kernel, rfl⟩
theorem d_BH_workOutColumn_11 : ez_at X_BH_workOutColumn 11 (.getfield 50) 3 14 := ⟨by decide +kernel, rfl⟩
theorem d_BH_workOutColumn_14 : ez_at X_BH_workOutColumn 14 (.iload_n 1) 1 15 := ⟨by decide +kernel, rfl⟩
theorem d_BH_workOutColumn_15 : ez_at X_BH_workOutColumn 15 (.iconst 0) 1 16 := ⟨by decide +kernel, rfl⟩
theorem d_BH_workOutColumn_16 : ez_at X_BH_workOutColumn 16 (.invokevirtual 108) 3 19 := ⟨by decide +kernel, rfl⟩
theorem d_BH_workOutColumn_19 : ez_at X_BH_workOutColumn 19 (.iload_n 2) 1 20 := ⟨by decide +kernel, rfl⟩
theorem d_BH_workOutColumn_20 : ez_at X_BH_workOutColumn 20 (.invokevirtual 73) 3 23 := ⟨by decide +kernel, rfl⟩
theorem d_BH_workOutColumn_23 : ez_at X_BH_workOutColumn 23 (.istore 4) 2 25 := ⟨by decide +kernel, rfl⟩
theorem d_BH_workOutColumn_25 : ez_at X_BH_workOutColumn 25 (.aload_n 0) 1 26 := ⟨by decide +kernel, rfl⟩
theorem d_BH_workOutColumn_26 : ez_at X_BH_workOutColumn 26 (.aload_n 0) 1 27 := ⟨by decide +kernel, rfl⟩
theorem d_BH_workOutColumn_27 : ez_at X_BH_workOutColumn 27 (.getfield 50) 3 30 := ⟨by decide +kernel, rfl⟩
theorem d_BH_workOutColumn_30 : ez_at X_BH_workOutColumn 30 (.iload_n 1) 1 31 := ⟨by decide +kernel, rfl⟩
theorem d_BH_workOutColumn_31 : ez_at X_BH_workOutColumn 31 (.iconst 1) 1 32 := ⟨by decide +kernel, rfl⟩
theorem d_BH_workOutColumn_32 : ez_at X_BH_workOutColumn 32 (.invokevirtual 108) 3 35 := ⟨by decide +kernel, rfl⟩
theorem d_BH_workOutColumn_35 : ez_at X_BH_workOutColumn 35 (.iload_n 2) 1 36 := ⟨by decide +kernel, rfl⟩
theorem d_BH_workOutColumn_36 : ez_at X_BH_workOutColumn 36 (.invokevirtual 73) 3 39 := ⟨by decide +kernel, rfl⟩
theorem d_BH_workOutColumn_39 : ez_at X_BH_workOutColumn 39 (.istore 5) 2 41 := ⟨by decide +kernel, rfl⟩
theorem d_BH_workOutColumn_41 : ez_at X_BH_workOutColumn 41 (.aload_n 0) 1 42 := ⟨by decide +kernel, rfl⟩
theorem d_BH_workOutColumn_42 : ez_at X_BH_workOutColumn 42 (.getfield 50) 3 45 := ⟨by decide +kernel, rfl⟩
theorem d_BH_workOutColumn_45 : ez_at X_BH_workOutColumn 45 (.iload_n 1) 1 46 := ⟨by decide +kernel, rfl⟩
theorem d_BH_workOutColumn_46 : ez_at X_BH_workOutColumn 46 (.invokevirtual 111) 3 49 := ⟨by decide +kernel, rfl⟩
theorem d_BH_workOutColumn_49 : decode X_BH_workOutColumn.2.1 49 = .ok (.tableswitch 87 0 5 #[39, 53, 64, 69, 75, 81], 39) := by decide +kernel
theorem d_BH_workOutColumn_88 : ez_at X_BH_workOutColumn 88 (.iload_n 2) 1 89 := ⟨by decide +kernel, rfl⟩
theorem d_BH_workOutColumn_89 : ez_at X_BH_workOutColumn 89 (.iload_n 3) 1 90 := ⟨by decide +kernel, rfl⟩
theorem d_BH_workOutColumn_90 : ez_at X_BH_workOutColumn 90 (.invokestatic 90) 3 93 := ⟨by decide +kernel, rfl⟩
theorem d_BH_workOutColumn_93 : ez_br X_BH_workOutColumn 93 (.ifCond .eq 7) 3 96 7 100 := ⟨by decide +kernel, rfl, rfl⟩
theorem d_BH_workOutColumn_96 : ez_at X_BH_workOutColumn 96 (.iconst (-1)) 1 97 := ⟨by decide +kernel, rfl⟩
theorem d_BH_workOutColumn_97 : ez_br X_BH_workOutColumn 97 (.goto 4) 3 100 4 101 := ⟨by decide +kernel, rfl, rfl⟩
theorem d_BH_workOutColumn_100 : ez_at X_BH_workOutColumn 100 (.iconst 0) 1 101 := ⟨by decide +kernel, rfl⟩
theorem d_BH_workOutColumn_101 : ez_at X_BH_workOutColumn 101 (.ireturn) 1 102 := ⟨by decide +kernel, rfl⟩
theorem d_BH_workOutColumn_102 : ez_at X_BH_workOutColumn 102 (.iload_n 3) 1 103 := ⟨by decide +kernel, rfl⟩
theorem d_BH_workOutColumn_103 : ez_at X_BH_workOutColumn 103 (.iconst 1) 1 104 := ⟨by decide +kernel, rfl⟩
theorem d_BH_workOutColumn_104 : ez_br X_BH_workOutColumn 104 (.if_icmp .ne 7) 3 107 7 111 := ⟨by decide +kernel, rfl, rfl⟩
theorem d_BH_workOutColumn_107 : ez_at X_BH_workOutColumn 107 (.iconst (-1)) 1 108 := ⟨by decide +kernel, rfl⟩
theorem d_BH_workOutColumn_108 : ez_br X_BH_workOutColumn 108 (.goto 4) 3 111 4 112 := ⟨by decide +kernel, rfl, rfl⟩
theorem d_BH_workOutColumn_111 : ez_at X_BH_workOutColumn 111 (.iconst 0) 1 112 := ⟨by decide +kernel, rfl⟩
theorem d_BH_workOutColumn_112 : ez_at X_BH_workOutColumn 112 (.ireturn) 1 113 := ⟨by decide +kernel, rfl⟩
theorem d_BH_workOutColumn_113 : ez_at X_BH_workOutColumn 113 (.iload 4) 2 115 := ⟨by decide +kernel, rfl⟩
theorem d_BH_workOutColumn_115 : ez_at X_BH_workOutColumn 115 (.iconst (-1)) 1 116 := ⟨by decide +kernel, rfl⟩
theorem d_BH_workOutColumn_116 : ez_at X_BH_workOutColumn 116 (.ixor) 1 117 := ⟨by decide +kernel, rfl⟩
theorem d_BH_workOutColumn_117 : ez_at X_BH_workOutColumn 117 (.ireturn) 1 118 := ⟨by decide +kernel, rfl⟩
theorem d_BH_workOutColumn_118 : ez_at X_BH_workOutColumn 118 (.iload 4) 2 120 := ⟨by decide +kernel, rfl⟩
theorem d_BH_workOutColumn_120 : ez_at X_BH_workOutColumn 120 (.iload 5) 2 122 := ⟨by decide +kernel, rfl⟩
theorem d_BH_workOutColumn_122 : ez_at X_BH_workOutColumn 122 (.iand) 1 123 := ⟨by decide +kernel, rfl⟩
theorem d_BH_workOutColumn_123 : ez_at X_BH_workOutColumn 123 (.ireturn) 1 124 := ⟨by decide +kernel, rfl⟩
theorem d_BH_workOutColumn_124 : ez_at X_BH_workOutColumn 124 (.iload 4) 2 126 := ⟨by decide +kernel, rfl⟩
theorem d_BH_workOutColumn_126 : ez_at X_BH_workOutColumn 126 (.iload 5) 2 128 := ⟨by decide +kernel, rfl⟩
theorem d_BH_workOutColumn_128 : ez_at X_BH_workOutColumn 128 (.ior) 1 129 := ⟨by decide +kernel, rfl⟩
theorem d_BH_workOutColumn_129 : ez_at X_BH_workOutColumn 129 (.ireturn) 1 130 := ⟨by decide +kernel, rfl⟩
theorem d_BH_workOutColumn_130 : ez_at X_BH_workOutColumn 130 (.iload 4) 2 132 := ⟨by decide +kernel, rfl⟩
theorem d_BH_workOutColumn_132 : ez_at X_BH_workOutColumn 132 (.iload 5) 2 134 := ⟨by decide +kernel, rfl⟩
theorem d_BH_workOutColumn_134 : ez_at X_BH_workOutColumn 134 (.ixor) 1 135 := ⟨by decide +kernel, rfl⟩
theorem d_BH_workOutColumn_135 : ez_at X_BH_workOutColumn 135 (.ireturn) 1 136 := ⟨by decide +kernel, rfl⟩
theorem d_BH_workOutColumn_136 : ez_at X_BH_workOutColumn 136 (.iload_n 3) 1 137 := ⟨by decide +kernel, rfl⟩
theorem d_BH_workOutColumn_137 : ez_at X_BH_workOutColumn 137 (.iconst 5) 1 138 := ⟨by decide +kernel, rfl⟩
theorem d_BH_workOutColumn_138 : ez_at X_BH_workOutColumn 138 (.invokestatic 77) 3 141 := ⟨by decide +kernel, rfl⟩
theorem d_BH_workOutColumn_141 : ez_br X_BH_workOutColumn 141 (.ifCond .eq 11) 3 144 11 152 := ⟨by decide +kernel, rfl, rfl⟩
theorem d_BH_workOutColumn_144 : ez_at X_BH_workOutColumn 144 (.getstatic 114) 3 147 := ⟨by decide +kernel, rfl⟩
theorem d_BH_workOutColumn_147 : ez_at X_BH_workOutColumn 147 (.iload_n 3) 1 148 := ⟨by decide +kernel, rfl⟩
theorem d_BH_workOutColumn_148 : ez_at X_BH_workOutColumn 148 (.iaload) 1 149 := ⟨by decide +kernel, rfl⟩
theorem d_BH_workOutColumn_149 : ez_br X_BH_workOutColumn 149 (.goto 4) 3 152 4 153 := ⟨by decide +kernel, rfl, rfl⟩
theorem d_BH_workOutColumn_152 : ez_at X_BH_workOutColumn 152 (.iconst 0) 1 153 := ⟨by decide +kernel, rfl⟩
theorem d_BH_workOutColumn_153 : ez_at X_BH_workOutColumn 153 (.ireturn) 1 154 := ⟨by decide +kernel, rfl⟩
theorem d_BH_columnAt_0 : ez_at X_BH_columnAt 0 (.iload_n 1) 1 1 := ⟨by decide +kernel, rfl⟩
theorem d_BH_columnAt_1 : ez_at X_BH_columnAt 1 (.bipush 24) 2 3 := ⟨by decide +kernel, rfl⟩
theorem d_BH_columnAt_3 : ez_at X_BH_columnAt 3 (.invokestatic 77) 3 6 := ⟨by decide +kernel, rfl⟩
theorem d_BH_columnAt_6 : ez_br X_BH_columnAt 6 (.ifCond .eq 16) 3 9 16 22 := ⟨by decide +kernel, rfl, rfl⟩
theorem d_BH_columnAt_9 : ez_at X_BH_columnAt 9 (.iload_n 2) 1 10 := ⟨by decide +kernel, rfl⟩
theorem d_BH_columnAt_10 : ez_at X_BH_columnAt 10 (.bipush 16) 2 12 := ⟨by decide +kernel, rfl⟩
theorem d_BH_columnAt_12 : ez_at X_BH_columnAt 12 (.invokestatic 77) 3 15 := ⟨by decide +kernel, rfl⟩
theorem d_BH_columnAt_15 : ez_br X_BH_columnAt 15 (.ifCond .eq 7) 3 18 7 22 := ⟨by decide +kernel, rfl, rfl⟩
theorem d_BH_columnAt_18 : ez_at X_BH_columnAt 18 (.iconst 1) 1 19 := ⟨by decide +kernel, rfl⟩
theorem d_BH_columnAt_19 : ez_br X_BH_columnAt 19 (.goto 4) 3 22 4 23 := ⟨by decide +kernel, rfl, rfl⟩
theorem d_BH_columnAt_22 : ez_at X_BH_columnAt 22 (.iconst 0) 1 23 := ⟨by decide +kernel, rfl⟩
theorem d_BH_columnAt_23 : ez_at X_BH_columnAt 23 (.istore_n 3) 1 24 := ⟨by decide +kernel, rfl⟩
theorem d_BH_columnAt_24 : ez_at X_BH_columnAt 24 (.iload_n 3) 1 25 := ⟨by decide +kernel, rfl⟩
theorem d_BH_columnAt_25 : ez_br X_BH_columnAt 25 (.ifCond .eq 17) 3 28 17 42 := ⟨by decide +kernel, rfl, rfl⟩
theorem d_BH_columnAt_28 : ez_at X_BH_columnAt 28 (.aload_n 0) 1 29 := ⟨by decide +kernel, rfl⟩
theorem d_BH_columnAt_29 : ez_at X_BH_columnAt 29 (.getfield 15) 3 32 := ⟨by decide +kernel, rfl⟩
theorem d_BH_columnAt_32 : ez_at X_BH_columnAt 32 (.iload_n 2) 1 33 := ⟨by decide +kernel, rfl⟩
theorem d_BH_columnAt_33 : ez_at X_BH_columnAt 33 (.bipush 24) 2 35 := ⟨by decide +kernel, rfl⟩
theorem d_BH_columnAt_35 : ez_at X_BH_columnAt 35 (.imul) 1 36 := ⟨by decide +kernel, rfl⟩
theorem d_BH_columnAt_36 : ez_at X_BH_columnAt 36 (.iload_n 1) 1 37 := ⟨by decide +kernel, rfl⟩
theorem d_BH_columnAt_37 : ez_at X_BH_columnAt 37 (.iadd) 1 38 := ⟨by decide +kernel, rfl⟩
theorem d_BH_columnAt_38 : ez_at X_BH_columnAt 38 (.iaload) 1 39 := ⟨by decide +kernel, rfl⟩
theorem d_BH_columnAt_39 : ez_br X_BH_columnAt 39 (.goto 4) 3 42 4 43 := ⟨by decide +kernel, rfl, rfl⟩
theorem d_BH_columnAt_42 : ez_at X_BH_columnAt 42 (.iconst 0) 1 43 := ⟨by decide +kernel, rfl⟩
theorem d_BH_columnAt_43 : ez_at X_BH_columnAt 43 (.ireturn) 1 44 := ⟨by decide +kernel, rfl⟩
theorem d_BH_fillTicks_0 : ez_at X_BH_fillTicks 0 (.iconst 0) 1 1 := ⟨by decide +kernel, rfl⟩
theorem d_BH_fillTicks_1 : ez_at X_BH_fillTicks 1 (.istore_n 2) 1 2 := ⟨by decide +kernel, rfl⟩
theorem d_BH_fillTicks_2 : ez_at X_BH_fillTicks 2 (.iload_n 2) 1 3 := ⟨by decide +kernel, rfl⟩
theorem d_BH_fillTicks_3 : ez_at X_BH_fillTicks 3 (.aload_n 0) 1 4 := ⟨by decide +kernel, rfl⟩
theorem d_BH_fillTicks_4 : ez_at X_BH_fillTicks 4 (.getfield 40) 3 7 := ⟨by decide +kernel, rfl⟩
theorem d_BH_fillTicks_7 : ez_br X_BH_fillTicks 7 (.if_icmp .ge 137) 3 10 137 144 := ⟨by decide +kernel, rfl, rfl⟩
theorem d_BH_fillTicks_10 : ez_at X_BH_fillTicks 10 (.iload_n 2) 1 11 := ⟨by decide +kernel, rfl⟩
theorem d_BH_fillTicks_11 : ez_at X_BH_fillTicks 11 (.bipush 32) 2 13 := ⟨by decide +kernel, rfl⟩
theorem d_BH_fillTicks_13 : ez_br X_BH_fillTicks 13 (.if_icmp .ge 131) 3 16 131 144 := ⟨by decide +kernel, rfl, rfl⟩
theorem d_BH_fillTicks_16 : ez_at X_BH_fillTicks 16 (.iconst 0) 1 17 := ⟨by decide +kernel, rfl⟩
theorem d_BH_fillTicks_17 : ez_at X_BH_fillTicks 17 (.istore_n 3) 1 18 := ⟨by decide +kernel, rfl⟩
theorem d_BH_fillTicks_18 : ez_at X_BH_fillTicks 18 (.iconst 0) 1 19 := ⟨by decide +kernel, rfl⟩
theorem d_BH_fillTicks_19 : ez_at X_BH_fillTicks 19 (.istore 4) 2 21 := ⟨by decide +kernel, rfl⟩
theorem d_BH_fillTicks_21 : ez_at X_BH_fillTicks 21 (.iload 4) 2 23 := ⟨by decide +kernel, rfl⟩
theorem d_BH_fillTicks_23 : ez_at X_BH_fillTicks 23 (.iconst 3) 1 24 := ⟨by decide +kernel, rfl⟩
theorem d_BH_fillTicks_24 : ez_br X_BH_fillTicks 24 (.if_icmp .ge 30) 3 27 30 54 := ⟨by decide +kernel, rfl, rfl⟩
theorem d_BH_fillTicks_27 : ez_at X_BH_fillTicks 27 (.iload_n 3) 1 28 := ⟨by decide +kernel, rfl⟩
theorem d_BH_fillTicks_28 : ez_at X_BH_fillTicks 28 (.aload_n 0) 1 29 := ⟨by decide +kernel, rfl⟩
theorem d_BH_fillTicks_29 : ez_at X_BH_fillTicks 29 (.aload_n 0) 1 30 := ⟨by decide +kernel, rfl⟩
theorem d_BH_fillTicks_30 : ez_at X_BH_fillTicks 30 (.getfield 50) 3 33 := ⟨by decide +kernel, rfl⟩
theorem d_BH_fillTicks_33 : ez_at X_BH_fillTicks 33 (.iload 4) 2 35 := ⟨by decide +kernel, rfl⟩
theorem d_BH_fillTicks_35 : ez_at X_BH_fillTicks 35 (.invokevirtual 117) 3 38 := ⟨by decide +kernel, rfl⟩
theorem d_BH_fillTicks_38 : ez_at X_BH_fillTicks 38 (.iload_n 2) 1 39 := ⟨by decide +kernel, rfl⟩
theorem d_BH_fillTicks_39 : ez_at X_BH_fillTicks 39 (.iload_n 1) 1 40 := ⟨by decide +kernel, rfl⟩
theorem d_BH_fillTicks_40 : ez_at X_BH_fillTicks 40 (.invokevirtual 120) 3 43 := ⟨by decide +kernel, rfl⟩
theorem d_BH_fillTicks_43 : ez_at X_BH_fillTicks 43 (.iload 4) 2 45 := ⟨by decide +kernel, rfl⟩
theorem d_BH_fillTicks_45 : ez_at X_BH_fillTicks 45 (.ishl) 1 46 := ⟨by decide +kernel, rfl⟩
theorem d_BH_fillTicks_46 : ez_at X_BH_fillTicks 46 (.ior) 1 47 := ⟨by decide +kernel, rfl⟩
theorem d_BH_fillTicks_47 : ez_at X_BH_fillTicks 47 (.istore_n 3) 1 48 := ⟨by decide +kernel, rfl⟩
theorem d_BH_fillTicks_48 : ez_at X_BH_fillTicks 48 (.iinc 4 1) 3 51 := ⟨by decide +kernel, rfl⟩
theorem d_BH_fillTicks_51 : ez_br X_BH_fillTicks 51 (.goto (-30)) 3 54 (-30) 21 := ⟨by decide +kernel, rfl, rfl⟩
theorem d_BH_fillTicks_54 : ez_at X_BH_fillTicks 54 (.iconst 0) 1 55 := ⟨by decide +kernel, rfl⟩
theorem d_BH_fillTicks_55 : ez_at X_BH_fillTicks 55 (.istore 4) 2 57 := ⟨by decide +kernel, rfl⟩
theorem d_BH_fillTicks_57 : ez_at X_BH_fillTicks 57 (.iconst 0) 1 58 := ⟨by decide +kernel, rfl⟩
theorem d_BH_fillTicks_58 : ez_at X_BH_fillTicks 58 (.istore 5) 2 60 := ⟨by decide +kernel, rfl⟩
theorem d_BH_fillTicks_60 : ez_at X_BH_fillTicks 60 (.iload 5) 2 62 := ⟨by decide +kernel, rfl⟩
theorem d_BH_fillTicks_62 : ez_at X_BH_fillTicks 62 (.aload_n 0) 1 63 := ⟨by decide +kernel, rfl⟩
theorem d_BH_fillTicks_63 : ez_at X_BH_fillTicks 63 (.getfield 50) 3 66 := ⟨by decide +kernel, rfl⟩
theorem d_BH_fillTicks_66 : ez_at X_BH_fillTicks 66 (.invokevirtual 54) 3 69 := ⟨by decide +kernel, rfl⟩
theorem d_BH_fillTicks_69 : ez_br X_BH_fillTicks 69 (.if_icmp .ge 44) 3 72 44 113 := ⟨by decide +kernel, rfl, rfl⟩
theorem d_BH_fillTicks_72 : ez_at X_BH_fillTicks 72 (.aload_n 0) 1 73 := ⟨by decide +kernel, rfl⟩
theorem d_BH_fillTicks_73 : ez_at X_BH_fillTicks 73 (.getfield 50) 3 76 := ⟨by decide +kernel, rfl⟩
theorem d_BH_fillTicks_76 : ez_at X_BH_fillTicks 76 (.aload_n 0) 1 77 := ⟨by decide +kernel, rfl⟩
theorem d_BH_fillTicks_77 : ez_at X_BH_fillTicks 77 (.getfield 50) 3 80 := ⟨by decide +kernel, rfl⟩
theorem d_BH_fillTicks_80 : ez_at X_BH_fillTicks 80 (.iload 5) 2 82 := ⟨by decide +kernel, rfl⟩
theorem d_BH_fillTicks_82 : ez_at X_BH_fillTicks 82 (.invokevirtual 124) 3 85 := ⟨by decide +kernel, rfl⟩
theorem d_BH_fillTicks_85 : ez_at X_BH_fillTicks 85 (.iconst 0) 1 86 := ⟨by decide +kernel, rfl⟩
theorem d_BH_fillTicks_86 : ez_at X_BH_fillTicks 86 (.invokevirtual 108) 3 89 := ⟨by decide +kernel, rfl⟩
theorem d_BH_fillTicks_89 : ez_at X_BH_fillTicks 89 (.istore 6) 2 91 := ⟨by decide +kernel, rfl⟩
theorem d_BH_fillTicks_91 : ez_at X_BH_fillTicks 91 (.iload 4) 2 93 := ⟨by decide +kernel, rfl⟩
theorem d_BH_fillTicks_93 : ez_at X_BH_fillTicks 93 (.aload_n 0) 1 94 := ⟨by decide +kernel, rfl⟩
theorem d_BH_fillTicks_94 : ez_at X_BH_fillTicks 94 (.iload 6) 2 96 := ⟨by decide +kernel, rfl⟩
theorem d_BH_fillTicks_96 : ez_at X_BH_fillTicks 96 (.iload_n 2) 1 97 := ⟨by decide +kernel, rfl⟩
theorem d_BH_fillTicks_97 : ez_at X_BH_fillTicks 97 (.iload_n 1) 1 98 := ⟨by decide +kernel, rfl⟩
theorem d_BH_fillTicks_98 : ez_at X_BH_fillTicks 98 (.invokevirtual 120) 3 101 := ⟨by decide +kernel, rfl⟩
theorem d_BH_fillTicks_101 : ez_at X_BH_fillTicks 101 (.iload 5) 2 103 := ⟨by decide +kernel, rfl⟩
theorem d_BH_fillTicks_103 : ez_at X_BH_fillTicks 103 (.ishl) 1 104 := ⟨by decide +kernel, rfl⟩
theorem d_BH_fillTicks_104 : ez_at X_BH_fillTicks 104 (.ior) 1 105 := ⟨by decide +kernel, rfl⟩
theorem d_BH_fillTicks_105 : ez_at X_BH_fillTicks 105 (.istore 4) 2 107 := ⟨by decide +kernel, rfl⟩
theorem d_BH_fillTicks_107 : ez_at X_BH_fillTicks 107 (.iinc 5 1) 3 110 := ⟨by decide +kernel, rfl⟩
theorem d_BH_fillTicks_110 : ez_br X_BH_fillTicks 110 (.goto (-50)) 3 113 (-50) 60 := ⟨by decide +kernel, rfl, rfl⟩
theorem d_BH_fillTicks_113 : ez_at X_BH_fillTicks 113 (.aload_n 0) 1 114 := ⟨by decide +kernel, rfl⟩
theorem d_BH_fillTicks_114 : ez_at X_BH_fillTicks 114 (.getfield 18) 3 117 := ⟨by decide +kernel, rfl⟩
theorem d_BH_fillTicks_117 : ez_at X_BH_fillTicks 117 (.iload_n 1) 1 118 := ⟨by decide +kernel, rfl⟩
theorem d_BH_fillTicks_118 : ez_at X_BH_fillTicks 118 (.bipush 32) 2 120 := ⟨by decide +kernel, rfl⟩
theorem d_BH_fillTicks_120 : ez_at X_BH_fillTicks 120 (.imul) 1 121 := ⟨by decide +kernel, rfl⟩
theorem d_BH_fillTicks_121 : ez_at X_BH_fillTicks 121 (.iload_n 2) 1 122 := ⟨by decide +kernel, rfl⟩
theorem d_BH_fillTicks_122 : ez_at X_BH_fillTicks 122 (.iadd) 1 123 := ⟨by decide +kernel, rfl⟩
theorem d_BH_fillTicks_123 : ez_at X_BH_fillTicks 123 (.iload_n 3) 1 124 := ⟨by decide +kernel, rfl⟩
theorem d_BH_fillTicks_124 : ez_at X_BH_fillTicks 124 (.iastore) 1 125 := ⟨by decide +kernel, rfl⟩
theorem d_BH_fillTicks_125 : ez_at X_BH_fillTicks 125 (.aload_n 0) 1 126 := ⟨by decide +kernel, rfl⟩
theorem d_BH_fillTicks_126 : ez_at X_BH_fillTicks 126 (.getfield 21) 3 129 := ⟨by decide +kernel, rfl⟩
theorem d_BH_fillTicks_129 : ez_at X_BH_fillTicks 129 (.iload_n 1) 1 130 := ⟨by decide +kernel, rfl⟩
theorem d_BH_fillTicks_130 : ez_at X_BH_fillTicks 130 (.bipush 32) 2 132 := ⟨by decide +kernel, rfl⟩
theorem d_BH_fillTicks_132 : ez_at X_BH_fillTicks 132 (.imul) 1 133 := ⟨by decide +kernel, rfl⟩
theorem d_BH_fillTicks_133 : ez_at X_BH_fillTicks 133 (.iload_n 2) 1 134 := ⟨by decide +kernel, rfl⟩
theorem d_BH_fillTicks_134 : ez_at X_BH_fillTicks 134 (.iadd) 1 135 := ⟨by decide +kernel, rfl⟩
theorem d_BH_fillTicks_135 : ez_at X_BH_fillTicks 135 (.iload 4) 2 137 := ⟨by decide +kernel, rfl⟩
theorem d_BH_fillTicks_137 : ez_at X_BH_fillTicks 137 (.iastore) 1 138 := ⟨by decide +kernel, rfl⟩
theorem d_BH_fillTicks_138 : ez_at X_BH_fillTicks 138 (.iinc 2 1) 3 141 := ⟨by decide +kernel, rfl⟩
theorem d_BH_fillTicks_141 : ez_br X_BH_fillTicks 141 (.goto (-139)) 3 144 (-139) 2 := ⟨by decide +kernel, rfl, rfl⟩
theorem d_BH_fillTicks_144 : ez_at X_BH_fillTicks 144 (.return_) 1 145 := ⟨by decide +kernel, rfl⟩
theorem d_BH_findReached_0 : ez_at X_BH_findReached 0 (.aload_n 0) 1 1 := ⟨by decide +kernel, rfl⟩
theorem d_BH_findReached_1 : ez_at X_BH_findReached 1 (.getfield 24) 3 4 := ⟨by decide +kernel, rfl⟩
theorem d_BH_findReached_4 : ez_at X_BH_findReached 4 (.iconst 0) 1 5 := ⟨by decide +kernel, rfl⟩
theorem d_BH_findReached_5 : ez_at X_BH_findReached 5 (.iconst 0) 1 6 := ⟨by decide +kernel, rfl⟩
theorem d_BH_findReached_6 : ez_at X_BH_findReached 6 (.iastore) 1 7 := ⟨by decide +kernel, rfl⟩
theorem d_BH_findReached_7 : ez_at X_BH_findReached 7 (.iconst 1) 1 8 := ⟨by decide +kernel, rfl⟩
theorem d_BH_findReached_8 : ez_at X_BH_findReached 8 (.istore_n 2) 1 9 := ⟨by decide +kernel, rfl⟩
theorem d_BH_findReached_9 : ez_at X_BH_findReached 9 (.aload_n 0) 1 10 := ⟨by decide +kernel, rfl⟩
theorem d_BH_findReached_10 : ez_at X_BH_findReached 10 (.iconst 0) 1 11 := ⟨by decide +kernel, rfl⟩
theorem d_BH_findReached_11 : ez_at X_BH_findReached 11 (.invokestatic 99) 3 14 := ⟨by decide +kernel, rfl⟩
theorem d_BH_findReached_14 : ez_at X_BH_findReached 14 (.putfield 43) 3 17 := ⟨by decide +kernel, rfl⟩
theorem d_BH_findReached_17 : ez_at X_BH_findReached 17 (.iconst 0) 1 18 := ⟨by decide +kernel, rfl⟩
theorem d_BH_findReached_18 : ez_at X_BH_findReached 18 (.istore_n 3) 1 19 := ⟨by decide +kernel, rfl⟩
theorem d_BH_findReached_19 : ez_at X_BH_findReached 19 (.iload_n 3) 1 20 := ⟨by decide +kernel, rfl⟩
theorem d_BH_findReached_20 : ez_at X_BH_findReached 20 (.iload_n 2) 1 21 := ⟨by decide +kernel, rfl⟩
theorem d_BH_findReached_21 : ez_br X_BH_findReached 21 (.if_icmp .ge 101) 3 24 101 122 := ⟨by decide +kernel, rfl, rfl⟩
theorem d_BH_findReached_24 : ez_at X_BH_findReached 24 (.iload_n 3) 1 25 := ⟨by decide +kernel, rfl⟩
theorem d_BH_findReached_25 : ez_at X_BH_findReached 25 (.bipush 32) 2 27 := ⟨by decide +kernel, rfl⟩
theorem d_BH_findReached_27 : ez_br X_BH_findReached 27 (.if_icmp .ge 95) 3 30 95 122 := ⟨by decide +kernel, rfl, rfl⟩
theorem d_BH_findReached_30 : ez_at X_BH_findReached 30 (.iconst 0) 1 31 := ⟨by decide +kernel, rfl⟩
theorem d_BH_findReached_31 : ez_at X_BH_findReached 31 (.istore 4) 2 33 := ⟨by decide +kernel, rfl⟩
theorem d_BH_findReached_33 : ez_at X_BH_findReached 33 (.iload 4) 2 35 := ⟨by decide +kernel, rfl⟩
theorem d_BH_findReached_35 : ez_at X_BH_findReached 35 (.bipush 16) 2 37 := ⟨by decide +kernel, rfl⟩
theorem d_BH_findReached_37 : ez_br X_BH_findReached 37 (.if_icmp .ge 79) 3 40 79 116 := ⟨by decide +kernel, rfl, rfl⟩
theorem d_BH_findReached_40 : ez_at X_BH_findReached 40 (.iload_n 1) 1 41 := ⟨by decide +kernel, rfl⟩
theorem d_BH_findReached_41 : ez_at X_BH_findReached 41 (.iload 4) 2 43 := ⟨by decide +kernel, rfl⟩
theorem d_BH_findReached_43 : ez_at X_BH_findReached 43 (.invokestatic 90) 3 46 := ⟨by decide +kernel, rfl⟩
theorem d_BH_findReached_46 : ez_br X_BH_findReached 46 (.ifCond .eq 18) 3 49 18 64 := ⟨by decide +kernel, rfl, rfl⟩
theorem d_BH_findReached_49 : ez_at X_BH_findReached 49 (.aload_n 0) 1 50 := ⟨by decide +kernel, rfl⟩
theorem d_BH_findReached_50 : ez_at X_BH_findReached 50 (.aload_n 0) 1 51 := ⟨by decide +kernel, rfl⟩
theorem d_BH_findReached_51 : ez_at X_BH_findReached 51 (.getfield 24) 3 54 := ⟨by decide +kernel, rfl⟩
theorem d_BH_findReached_54 : ez_at X_BH_findReached 54 (.iload_n 3) 1 55 := ⟨by decide +kernel, rfl⟩
theorem d_BH_findReached_55 : ez_at X_BH_findReached 55 (.iaload) 1 56 := ⟨by decide +kernel, rfl⟩
theorem d_BH_findReached_56 : ez_at X_BH_findReached 56 (.iload 4) 2 58 := ⟨by decide +kernel, rfl⟩
theorem d_BH_findReached_58 : ez_at X_BH_findReached 58 (.invokevirtual 127) 3 61 := ⟨by decide +kernel, rfl⟩
theorem d_BH_findReached_61 : ez_br X_BH_findReached 61 (.goto 4) 3 64 4 65 := ⟨by decide +kernel, rfl, rfl⟩
theorem d_BH_findReached_64 : ez_at X_BH_findReached 64 (.iconst 0) 1 65 := ⟨by decide +kernel, rfl⟩
theorem d_BH_findReached_65 : ez_at X_BH_findReached 65 (.istore 5) 2 67 := ⟨by decide +kernel, rfl⟩
theorem d_BH_findReached_67 : ez_at X_BH_findReached 67 (.aload_n 0) 1 68 := ⟨by decide +kernel, rfl⟩
theorem d_BH_findReached_68 : ez_at X_BH_findReached 68 (.getfield 43) 3 71 := ⟨by decide +kernel, rfl⟩
theorem d_BH_findReached_71 : ez_at X_BH_findReached 71 (.iload 5) 2 73 := ⟨by decide +kernel, rfl⟩
theorem d_BH_findReached_73 : ez_at X_BH_findReached 73 (.invokestatic 90) 3 76 := ⟨by decide +kernel, rfl⟩
theorem d_BH_findReached_76 : ez_br X_BH_findReached 76 (.ifCond .ne 34) 3 79 34 110 := ⟨by decide +kernel, rfl, rfl⟩
theorem d_BH_findReached_79 : ez_at X_BH_findReached 79 (.iload_n 2) 1 80 := ⟨by decide +kernel, rfl⟩
theorem d_BH_findReached_80 : ez_at X_BH_findReached 80 (.bipush 32) 2 82 := ⟨by decide +kernel, rfl⟩
theorem d_BH_findReached_82 : ez_br X_BH_findReached 82 (.if_icmp .ge 28) 3 85 28 110 := ⟨by decide +kernel, rfl, rfl⟩
theorem d_BH_findReached_85 : ez_at X_BH_findReached 85 (.aload_n 0) 1 86 := ⟨by decide +kernel, rfl⟩
theorem d_BH_findReached_86 : ez_at X_BH_findReached 86 (.dup) 1 87 := ⟨by decide +kernel, rfl⟩
theorem d_BH_findReached_87 : ez_at X_BH_findReached 87 (.getfield 43) 3 90 := ⟨by decide +kernel, rfl⟩
theorem d_BH_findReached_90 : ez_at X_BH_findReached 90 (.iload 5) 2 92 := ⟨by decide +kernel, rfl⟩
theorem d_BH_findReached_92 : ez_at X_BH_findReached 92 (.invokestatic 99) 3 95 := ⟨by decide +kernel, rfl⟩
theorem d_BH_findReached_95 : ez_at X_BH_findReached 95 (.ior) 1 96 := ⟨by decide +kernel, rfl⟩
theorem d_BH_findReached_96 : ez_at X_BH_findReached 96 (.putfield 43) 3 99 := ⟨by decide +kernel, rfl⟩
theorem d_BH_findReached_99 : ez_at X_BH_findReached 99 (.aload_n 0) 1 100 := ⟨by decide +kernel, rfl⟩
theorem d_BH_findReached_100 : ez_at X_BH_findReached 100 (.getfield 24) 3 103 := ⟨by decide +kernel, rfl⟩
theorem d_BH_findReached_103 : ez_at X_BH_findReached 103 (.iload_n 2) 1 104 := ⟨by decide +kernel, rfl⟩
theorem d_BH_findReached_104 : ez_at X_BH_findReached 104 (.iload 5) 2 106 := ⟨by decide +kernel, rfl⟩
theorem d_BH_findReached_106 : ez_at X_BH_findReached 106 (.iastore) 1 107 := ⟨by decide +kernel, rfl⟩
theorem d_BH_findReached_107 : ez_at X_BH_findReached 107 (.iinc 2 1) 3 110 := ⟨by decide +kernel, rfl⟩
theorem d_BH_findReached_110 : ez_at X_BH_findReached 110 (.iinc 4 1) 3 113 := ⟨by decide +kernel, rfl⟩
theorem d_BH_findReached_113 : ez_br X_BH_findReached 113 (.goto (-80)) 3 116 (-80) 33 := ⟨by decide +kernel, rfl, rfl⟩
theorem d_BH_findReached_116 : ez_at X_BH_findReached 116 (.iinc 3 1) 3 119 := ⟨by decide +kernel, rfl⟩
theorem d_BH_findReached_119 : ez_br X_BH_findReached 119 (.goto (-100)) 3 122 (-100) 19 := ⟨by decide +kernel, rfl, rfl⟩
theorem d_BH_findReached_122 : ez_at X_BH_findReached 122 (.return_) 1 123 := ⟨by decide +kernel, rfl⟩
theorem d_BH_countClasses_0 : ez_at X_BH_countClasses 0 (.aload_n 0) 1 1 := ⟨by decide +kernel, rfl⟩
theorem d_BH_countClasses_1 : ez_at X_BH_countClasses 1 (.getfield 27) 3 4 := ⟨by decide +kernel, rfl⟩
theorem d_BH_countClasses_4 : ez_at X_BH_countClasses 4 (.iconst 0) 1 5 := ⟨by decide +kernel, rfl⟩
theorem d_BH_countClasses_5 : ez_at X_BH_countClasses 5 (.invokestatic 130) 3 8 := ⟨by decide +kernel, rfl⟩
theorem d_BH_countClasses_8 : ez_at X_BH_countClasses 8 (.iconst 1) 1 9 := ⟨by decide +kernel, rfl⟩
theorem d_BH_countClasses_9 : ez_at X_BH_countClasses 9 (.istore_n 2) 1 10 := ⟨by decide +kernel, rfl⟩
theorem d_BH_countClasses_10 : ez_at X_BH_countClasses 10 (.iconst 0) 1 11 := ⟨by decide +kernel, rfl⟩
theorem d_BH_countClasses_11 : ez_at X_BH_countClasses 11 (.istore_n 3) 1 12 := ⟨by decide +kernel, rfl⟩
theorem d_BH_countClasses_12 : ez_at X_BH_countClasses 12 (.iload_n 3) 1 13 := ⟨by decide +kernel, rfl⟩
theorem d_BH_countClasses_13 : ez_at X_BH_countClasses 13 (.bipush 16) 2 15 := ⟨by decide +kernel, rfl⟩
theorem d_BH_countClasses_15 : ez_br X_BH_countClasses 15 (.if_icmp .ge 23) 3 18 23 38 := ⟨by decide +kernel, rfl, rfl⟩
theorem d_BH_countClasses_18 : ez_at X_BH_countClasses 18 (.iload_n 1) 1 19 := ⟨by decide +kernel, rfl⟩
theorem d_BH_countClasses_19 : ez_at X_BH_countClasses 19 (.iload_n 3) 1 20 := ⟨by decide +kernel, rfl⟩
theorem d_BH_countClasses_20 : ez_at X_BH_countClasses 20 (.invokestatic 90) 3 23 := ⟨by decide +kernel, rfl⟩
theorem d_BH_countClasses_23 : ez_br X_BH_countClasses 23 (.ifCond .eq 9) 3 26 9 32 := ⟨by decide +kernel, rfl, rfl⟩
theorem d_BH_countClasses_26 : ez_at X_BH_countClasses 26 (.aload_n 0) 1 27 := ⟨by decide +kernel, rfl⟩
theorem d_BH_countClasses_27 : ez_at X_BH_countClasses 27 (.iload_n 3) 1 28 := ⟨by decide +kernel, rfl⟩
theorem d_BH_countClasses_28 : ez_at X_BH_countClasses 28 (.invokevirtual 136) 3 31 := ⟨by decide +kernel, rfl⟩
theorem d_BH_countClasses_31 : ez_at X_BH_countClasses 31 (.istore_n 2) 1 32 := ⟨by decide +kernel, rfl⟩
theorem d_BH_countClasses_32 : ez_at X_BH_countClasses 32 (.iinc 3 1) 3 35 := ⟨by decide +kernel, rfl⟩
theorem d_BH_countClasses_35 : ez_br X_BH_countClasses 35 (.goto (-23)) 3 38 (-23) 12 := ⟨by decide +kernel, rfl, rfl⟩
theorem d_BH_countClasses_38 : ez_at X_BH_countClasses 38 (.iconst 1) 1 39 := ⟨by decide +kernel, rfl⟩
theorem d_BH_countClasses_39 : ez_at X_BH_countClasses 39 (.istore_n 3) 1 40 := ⟨by decide +kernel, rfl⟩
theorem d_BH_countClasses_40 : ez_at X_BH_countClasses 40 (.iconst 0) 1 41 := ⟨by decide +kernel, rfl⟩
theorem d_BH_countClasses_41 : ez_at X_BH_countClasses 41 (.istore 4) 2 43 := ⟨by decide +kernel, rfl⟩
theorem d_BH_countClasses_43 : ez_at X_BH_countClasses 43 (.iload 4) 2 45 := ⟨by decide +kernel, rfl⟩
theorem d_BH_countClasses_45 : ez_at X_BH_countClasses 45 (.bipush 32) 2 47 := ⟨by decide +kernel, rfl⟩
theorem d_BH_countClasses_47 : ez_br X_BH_countClasses 47 (.if_icmp .ge 60) 3 50 60 107 := ⟨by decide +kernel, rfl, rfl⟩
theorem d_BH_countClasses_50 : ez_at X_BH_countClasses 50 (.iload_n 3) 1 51 := ⟨by decide +kernel, rfl⟩
theorem d_BH_countClasses_51 : ez_br X_BH_countClasses 51 (.ifCond .eq 56) 3 54 56 107 := ⟨by decide +kernel, rfl, rfl⟩
theorem d_BH_countClasses_54 : ez_at X_BH_countClasses 54 (.iload_n 2) 1 55 := ⟨by decide +kernel, rfl⟩
theorem d_BH_countClasses_55 : ez_at X_BH_countClasses 55 (.istore 5) 2 57 := ⟨by decide +kernel, rfl⟩
theorem d_BH_countClasses_57 : ez_at X_BH_countClasses 57 (.iconst 0) 1 58 := ⟨by decide +kernel, rfl⟩
theorem d_BH_countClasses_58 : ez_at X_BH_countClasses 58 (.istore 6) 2 60 := ⟨by decide +kernel, rfl⟩
theorem d_BH_countClasses_60 : ez_at X_BH_countClasses 60 (.iload 6) 2 62 := ⟨by decide +kernel, rfl⟩
theorem d_BH_countClasses_62 : ez_at X_BH_countClasses 62 (.bipush 16) 2 64 := ⟨by decide +kernel, rfl⟩
theorem d_BH_countClasses_64 : ez_br X_BH_countClasses 64 (.if_icmp .ge 25) 3 67 25 89 := ⟨by decide +kernel, rfl, rfl⟩
theorem d_BH_countClasses_67 : ez_at X_BH_countClasses 67 (.iload_n 1) 1 68 := ⟨by decide +kernel, rfl⟩
theorem d_BH_countClasses_68 : ez_at X_BH_countClasses 68 (.iload 6) 2 70 := ⟨by decide +kernel, rfl⟩
theorem d_BH_countClasses_70 : ez_at X_BH_countClasses 70 (.invokestatic 90) 3 73 := ⟨by decide +kernel, rfl⟩
theorem d_BH_countClasses_73 : ez_br X_BH_countClasses 73 (.ifCond .eq 10) 3 76 10 83 := ⟨by decide +kernel, rfl, rfl⟩
theorem d_BH_countClasses_76 : ez_at X_BH_countClasses 76 (.aload_n 0) 1 77 := ⟨by decide +kernel, rfl⟩
theorem d_BH_countClasses_77 : ez_at X_BH_countClasses 77 (.iload 6) 2 79 := ⟨by decide +kernel, rfl⟩
theorem d_BH_countClasses_79 : ez_at X_BH_countClasses 79 (.invokevirtual 139) 3 82 := ⟨by decide +kernel, rfl⟩
theorem d_BH_countClasses_82 : ez_at X_BH_countClasses 82 (.istore_n 2) 1 83 := ⟨by decide +kernel, rfl⟩
theorem d_BH_countClasses_83 : ez_at X_BH_countClasses 83 (.iinc 6 1) 3 86 := ⟨by decide +kernel, rfl⟩
theorem d_BH_countClasses_86 : ez_br X_BH_countClasses 86 (.goto (-26)) 3 89 (-26) 60 := ⟨by decide +kernel, rfl, rfl⟩
theorem d_BH_countClasses_89 : ez_at X_BH_countClasses 89 (.iload_n 2) 1 90 := ⟨by decide +kernel, rfl⟩
theorem d_BH_countClasses_90 : ez_at X_BH_countClasses 90 (.iload 5) 2 92 := ⟨by decide +kernel, rfl⟩
theorem d_BH_countClasses_92 : ez_br X_BH_countClasses 92 (.if_icmp .eq 7) 3 95 7 99 := ⟨by decide +kernel, rfl, rfl⟩
theorem d_BH_countClasses_95 : ez_at X_BH_countClasses 95 (.iconst 1) 1 96 := ⟨by decide +kernel, rfl⟩
theorem d_BH_countClasses_96 : ez_br X_BH_countClasses 96 (.goto 4) 3 99 4 100 := ⟨by decide +kernel, rfl, rfl⟩
theorem d_BH_countClasses_99 : ez_at X_BH_countClasses 99 (.iconst 0) 1 100 := ⟨by decide +kernel, rfl⟩
theorem d_BH_countClasses_100 : ez_at X_BH_countClasses 100 (.istore_n 3) 1 101 := ⟨by decide +kernel, rfl⟩
theorem d_BH_countClasses_101 : ez_at X_BH_countClasses 101 (.iinc 4 1) 3 104 := ⟨by decide +kernel, rfl⟩
theorem d_BH_countClasses_104 : ez_br X_BH_countClasses 104 (.goto (-61)) 3 107 (-61) 43 := ⟨by decide +kernel, rfl, rfl⟩
theorem d_BH_countClasses_107 : ez_at X_BH_countClasses 107 (.iload_n 2) 1 108 := ⟨by decide +kernel, rfl⟩
theorem d_BH_countClasses_108 : ez_at X_BH_countClasses 108 (.ireturn) 1 109 := ⟨by decide +kernel, rfl⟩
theorem d_BH_partByOuts_0 : ez_at X_BH_partByOuts 0 (.iconst 0) 1 1 := ⟨by decide +kernel, rfl⟩
theorem d_BH_partByOuts_1 : ez_at X_BH_partByOuts 1 (.istore_n 2) 1 2 := ⟨by decide +kernel, rfl⟩
theorem d_BH_partByOuts_2 : ez_at X_BH_partByOuts 2 (.iload_n 2) 1 3 := ⟨by decide +kernel, rfl⟩
theorem d_BH_partByOuts_3 : ez_at X_BH_partByOuts 3 (.bipush 32) 2 5 := ⟨by decide +kernel, rfl⟩
theorem d_BH_partByOuts_5 : ez_br X_BH_partByOuts 5 (.if_icmp .ge 21) 3 8 21 26 := ⟨by decide +kernel, rfl, rfl⟩
theorem d_BH_partByOuts_8 : ez_at X_BH_partByOuts 8 (.aload_n 0) 1 9 := ⟨by decide +kernel, rfl⟩
theorem d_BH_partByOuts_9 : ez_at X_BH_partByOuts 9 (.getfield 30) 3 12 := ⟨by decide +kernel, rfl⟩
theorem d_BH_partByOuts_12 : ez_at X_BH_partByOuts 12 (.iload_n 2) 1 13 := ⟨by decide +kernel, rfl⟩
theorem d_BH_partByOuts_13 : ez_at X_BH_partByOuts 13 (.aload_n 0) 1 14 := ⟨by decide +kernel, rfl⟩
theorem d_BH_partByOuts_14 : ez_at X_BH_partByOuts 14 (.iload_n 2) 1 15 := ⟨by decide +kernel, rfl⟩
theorem d_BH_partByOuts_15 : ez_at X_BH_partByOuts 15 (.iload_n 1) 1 16 := ⟨by decide +kernel, rfl⟩
theorem d_BH_partByOuts_16 : ez_at X_BH_partByOuts 16 (.invokevirtual 142) 3 19 := ⟨by decide +kernel, rfl⟩
theorem d_BH_partByOuts_19 : ez_at X_BH_partByOuts 19 (.iastore) 1 20 := ⟨by decide +kernel, rfl⟩
theorem d_BH_partByOuts_20 : ez_at X_BH_partByOuts 20 (.iinc 2 1) 3 23 := ⟨by decide +kernel, rfl⟩
theorem d_BH_partByOuts_23 : ez_br X_BH_partByOuts 23 (.goto (-21)) 3 26 (-21) 2 := ⟨by decide +kernel, rfl, rfl⟩
theorem d_BH_partByOuts_26 : ez_at X_BH_partByOuts 26 (.aload_n 0) 1 27 := ⟨by decide +kernel, rfl⟩
theorem d_BH_partByOuts_27 : ez_at X_BH_partByOuts 27 (.invokevirtual 145) 3 30 := ⟨by decide +kernel, rfl⟩
theorem d_BH_partByOuts_30 : ez_at X_BH_partByOuts 30 (.ireturn) 1 31 := ⟨by decide +kernel, rfl⟩
theorem d_BH_partByNextClass_0 : ez_at X_BH_partByNextClass 0 (.iconst 0) 1 1 := ⟨by decide +kernel, rfl⟩
theorem d_BH_partByNextClass_1 : ez_at X_BH_partByNextClass 1 (.istore_n 2) 1 2 := ⟨by decide +kernel, rfl⟩
theorem d_BH_partByNextClass_2 : ez_at X_BH_partByNextClass 2 (.iload_n 2) 1 3 := ⟨by decide +kernel, rfl⟩
theorem d_BH_partByNextClass_3 : ez_at X_BH_partByNextClass 3 (.bipush 32) 2 5 := ⟨by decide +kernel, rfl⟩
theorem d_BH_partByNextClass_5 : ez_br X_BH_partByNextClass 5 (.if_icmp .ge 41) 3 8 41 46 := ⟨by decide +kernel, rfl, rfl⟩
theorem d_BH_partByNextClass_8 : ez_at X_BH_partByNextClass 8 (.aload_n 0) 1 9 := ⟨by decide +kernel, rfl⟩
theorem d_BH_partByNextClass_9 : ez_at X_BH_partByNextClass 9 (.iload_n 2) 1 10 := ⟨by decide +kernel, rfl⟩
theorem d_BH_partByNextClass_10 : ez_at X_BH_partByNextClass 10 (.iload_n 1) 1 11 := ⟨by decide +kernel, rfl⟩
theorem d_BH_partByNextClass_11 : ez_at X_BH_partByNextClass 11 (.invokevirtual 127) 3 14 := ⟨by decide +kernel, rfl⟩
theorem d_BH_partByNextClass_14 : ez_at X_BH_partByNextClass 14 (.istore_n 3) 1 15 := ⟨by decide +kernel, rfl⟩
theorem d_BH_partByNextClass_15 : ez_at X_BH_partByNextClass 15 (.aload_n 0) 1 16 := ⟨by decide +kernel, rfl⟩
theorem d_BH_partByNextClass_16 : ez_at X_BH_partByNextClass 16 (.getfield 30) 3 19 := ⟨by decide +kernel, rfl⟩
theorem d_BH_partByNextClass_19 : ez_at X_BH_partByNextClass 19 (.iload_n 2) 1 20 := ⟨by decide +kernel, rfl⟩
theorem d_BH_partByNextClass_20 : ez_at X_BH_partByNextClass 20 (.iload_n 3) 1 21 := ⟨by decide +kernel, rfl⟩
theorem d_BH_partByNextClass_21 : ez_at X_BH_partByNextClass 21 (.bipush 32) 2 23 := ⟨by decide +kernel, rfl⟩
theorem d_BH_partByNextClass_23 : ez_at X_BH_partByNextClass 23 (.invokestatic 77) 3 26 := ⟨by decide +kernel, rfl⟩
theorem d_BH_partByNextClass_26 : ez_br X_BH_partByNextClass 26 (.ifCond .eq 12) 3 29 12 38 := ⟨by decide +kernel, rfl, rfl⟩
theorem d_BH_partByNextClass_29 : ez_at X_BH_partByNextClass 29 (.aload_n 0) 1 30 := ⟨by decide +kernel, rfl⟩
theorem d_BH_partByNextClass_30 : ez_at X_BH_partByNextClass 30 (.getfield 27) 3 33 := ⟨by decide +kernel, rfl⟩
theorem d_BH_partByNextClass_33 : ez_at X_BH_partByNextClass 33 (.iload_n 3) 1 34 := ⟨by decide +kernel, rfl⟩
theorem d_BH_partByNextClass_34 : ez_at X_BH_partByNextClass 34 (.iaload) 1 35 := ⟨by decide +kernel, rfl⟩
theorem d_BH_partByNextClass_35 : ez_br X_BH_partByNextClass 35 (.goto 4) 3 38 4 39 := ⟨by decide +kernel, rfl, rfl⟩
theorem d_BH_partByNextClass_38 : ez_at X_BH_partByNextClass 38 (.iconst 0) 1 39 := ⟨by decide +kernel, rfl⟩
theorem d_BH_partByNextClass_39 : ez_at X_BH_partByNextClass 39 (.iastore) 1 40 := ⟨by decide +kernel, rfl⟩
theorem d_BH_partByNextClass_40 : ez_at X_BH_partByNextClass 40 (.iinc 2 1) 3 43 := ⟨by decide +kernel, rfl⟩
theorem d_BH_partByNextClass_43 : ez_br X_BH_partByNextClass 43 (.goto (-41)) 3 46 (-41) 2 := ⟨by decide +kernel, rfl, rfl⟩
theorem d_BH_partByNextClass_46 : ez_at X_BH_partByNextClass 46 (.aload_n 0) 1 47 := ⟨by decide +kernel, rfl⟩
theorem d_BH_partByNextClass_47 : ez_at X_BH_partByNextClass 47 (.invokevirtual 145) 3 50 := ⟨by decide +kernel, rfl⟩
theorem d_BH_partByNextClass_50 : ez_at X_BH_partByNextClass 50 (.ireturn) 1 51 := ⟨by decide +kernel, rfl⟩
theorem d_BH_partByKeys_0 : ez_at X_BH_partByKeys 0 (.iconst 0) 1 1 := ⟨by decide +kernel, rfl⟩
theorem d_BH_partByKeys_1 : ez_at X_BH_partByKeys 1 (.istore_n 1) 1 2 := ⟨by decide +kernel, rfl⟩
theorem d_BH_partByKeys_2 : ez_at X_BH_partByKeys 2 (.iconst 0) 1 3 := ⟨by decide +kernel, rfl⟩
theorem d_BH_partByKeys_3 : ez_at X_BH_partByKeys 3 (.istore_n 2) 1 4 := ⟨by decide +kernel, rfl⟩
theorem d_BH_partByKeys_4 : ez_at X_BH_partByKeys 4 (.iload_n 2) 1 5 := ⟨by decide +kernel, rfl⟩
theorem d_BH_partByKeys_5 : ez_at X_BH_partByKeys 5 (.bipush 32) 2 7 := ⟨by decide +kernel, rfl⟩
theorem d_BH_partByKeys_7 : ez_br X_BH_partByKeys 7 (.if_icmp .ge 60) 3 10 60 67 := ⟨by decide +kernel, rfl, rfl⟩
theorem d_BH_partByKeys_10 : ez_at X_BH_partByKeys 10 (.aload_n 0) 1 11 := ⟨by decide +kernel, rfl⟩
theorem d_BH_partByKeys_11 : ez_at X_BH_partByKeys 11 (.getfield 43) 3 14 := ⟨by decide +kernel, rfl⟩
theorem d_BH_partByKeys_14 : ez_at X_BH_partByKeys 14 (.iload_n 2) 1 15 := ⟨by decide +kernel, rfl⟩
theorem d_BH_partByKeys_15 : ez_at X_BH_partByKeys 15 (.invokestatic 90) 3 18 := ⟨by decide +kernel, rfl⟩
theorem d_BH_partByKeys_18 : ez_br X_BH_partByKeys 18 (.ifCond .eq 43) 3 21 43 61 := ⟨by decide +kernel, rfl, rfl⟩
theorem d_BH_partByKeys_21 : ez_at X_BH_partByKeys 21 (.aload_n 0) 1 22 := ⟨by decide +kernel, rfl⟩
theorem d_BH_partByKeys_22 : ez_at X_BH_partByKeys 22 (.iload_n 2) 1 23 := ⟨by decide +kernel, rfl⟩
theorem d_BH_partByKeys_23 : ez_at X_BH_partByKeys 23 (.invokevirtual 148) 3 26 := ⟨by decide +kernel, rfl⟩
theorem d_BH_partByKeys_26 : ez_at X_BH_partByKeys 26 (.istore_n 3) 1 27 := ⟨by decide +kernel, rfl⟩
theorem d_BH_partByKeys_27 : ez_at X_BH_partByKeys 27 (.aload_n 0) 1 28 := ⟨by decide +kernel, rfl⟩
theorem d_BH_partByKeys_28 : ez_at X_BH_partByKeys 28 (.getfield 33) 3 31 := ⟨by decide +kernel, rfl⟩
theorem d_BH_partByKeys_31 : ez_at X_BH_partByKeys 31 (.iload_n 2) 1 32 := ⟨by decide +kernel, rfl⟩
theorem d_BH_partByKeys_32 : ez_at X_BH_partByKeys 32 (.iload_n 3) 1 33 := ⟨by decide +kernel, rfl⟩
theorem d_BH_partByKeys_33 : ez_at X_BH_partByKeys 33 (.iload_n 2) 1 34 := ⟨by decide +kernel, rfl⟩
theorem d_BH_partByKeys_34 : ez_br X_BH_partByKeys 34 (.if_icmp .ge 12) 3 37 12 46 := ⟨by decide +kernel, rfl, rfl⟩
theorem d_BH_partByKeys_37 : ez_at X_BH_partByKeys 37 (.aload_n 0) 1 38 := ⟨by decide +kernel, rfl⟩
theorem d_BH_partByKeys_38 : ez_at X_BH_partByKeys 38 (.getfield 33) 3 41 := ⟨by decide +kernel, rfl⟩
theorem d_BH_partByKeys_41 : ez_at X_BH_partByKeys 41 (.iload_n 3) 1 42 := ⟨by decide +kernel, rfl⟩
theorem d_BH_partByKeys_42 : ez_at X_BH_partByKeys 42 (.iaload) 1 43 := ⟨by decide +kernel, rfl⟩
theorem d_BH_partByKeys_43 : ez_br X_BH_partByKeys 43 (.goto 4) 3 46 4 47 := ⟨by decide +kernel, rfl, rfl⟩
theorem d_BH_partByKeys_46 : ez_at X_BH_partByKeys 46 (.iload_n 1) 1 47 := ⟨by decide +kernel, rfl⟩
theorem d_BH_partByKeys_47 : ez_at X_BH_partByKeys 47 (.iastore) 1 48 := ⟨by decide +kernel, rfl⟩
theorem d_BH_partByKeys_48 : ez_at X_BH_partByKeys 48 (.iload_n 1) 1 49 := ⟨by decide +kernel, rfl⟩
theorem d_BH_partByKeys_49 : ez_at X_BH_partByKeys 49 (.iload_n 3) 1 50 := ⟨by decide +kernel, rfl⟩
theorem d_BH_partByKeys_50 : ez_at X_BH_partByKeys 50 (.iload_n 2) 1 51 := ⟨by decide +kernel, rfl⟩
theorem d_BH_partByKeys_51 : ez_br X_BH_partByKeys 51 (.if_icmp .ge 7) 3 54 7 58 := ⟨by decide +kernel, rfl, rfl⟩
theorem d_BH_partByKeys_54 : ez_at X_BH_partByKeys 54 (.iconst 0) 1 55 := ⟨by decide +kernel, rfl⟩
theorem d_BH_partByKeys_55 : ez_br X_BH_partByKeys 55 (.goto 4) 3 58 4 59 := ⟨by decide +kernel, rfl, rfl⟩
theorem d_BH_partByKeys_58 : ez_at X_BH_partByKeys 58 (.iconst 1) 1 59 := ⟨by decide +kernel, rfl⟩
theorem d_BH_partByKeys_59 : ez_at X_BH_partByKeys 59 (.iadd) 1 60 := ⟨by decide +kernel, rfl⟩
theorem d_BH_partByKeys_60 : ez_at X_BH_partByKeys 60 (.istore_n 1) 1 61 := ⟨by decide +kernel, rfl⟩
theorem d_BH_partByKeys_61 : ez_at X_BH_partByKeys 61 (.iinc 2 1) 3 64 := ⟨by decide +kernel, rfl⟩
theorem d_BH_partByKeys_64 : ez_br X_BH_partByKeys 64 (.goto (-60)) 3 67 (-60) 4 := ⟨by decide +kernel, rfl, rfl⟩
theorem d_BH_partByKeys_67 : ez_at X_BH_partByKeys 67 (.aload_n 0) 1 68 := ⟨by decide +kernel, rfl⟩
theorem d_BH_partByKeys_68 : ez_at X_BH_partByKeys 68 (.getfield 33) 3 71 := ⟨by decide +kernel, rfl⟩
theorem d_BH_partByKeys_71 : ez_at X_BH_partByKeys 71 (.iconst 0) 1 72 := ⟨by decide +kernel, rfl⟩
theorem d_BH_partByKeys_72 : ez_at X_BH_partByKeys 72 (.aload_n 0) 1 73 := ⟨by decide +kernel, rfl⟩
theorem d_BH_partByKeys_73 : ez_at X_BH_partByKeys 73 (.getfield 27) 3 76 := ⟨by decide +kernel, rfl⟩
theorem d_BH_partByKeys_76 : ez_at X_BH_partByKeys 76 (.iconst 0) 1 77 := ⟨by decide +kernel, rfl⟩
theorem d_BH_partByKeys_77 : ez_at X_BH_partByKeys 77 (.bipush 32) 2 79 := ⟨by decide +kernel, rfl⟩
theorem d_BH_partByKeys_79 : ez_at X_BH_partByKeys 79 (.invokestatic 151) 3 82 := ⟨by decide +kernel, rfl⟩
theorem d_BH_partByKeys_82 : ez_at X_BH_partByKeys 82 (.iload_n 1) 1 83 := ⟨by decide +kernel, rfl⟩
theorem d_BH_partByKeys_83 : ez_at X_BH_partByKeys 83 (.ireturn) 1 84 := ⟨by decide +kernel, rfl⟩
theorem d_BH_firstLike_0 : ez_at X_BH_firstLike 0 (.iconst 0) 1 1 := ⟨by decide +kernel, rfl⟩
theorem d_BH_firstLike_1 : ez_at X_BH_firstLike 1 (.istore_n 2) 1 2 := ⟨by decide +kernel, rfl⟩
theorem d_BH_firstLike_2 : ez_at X_BH_firstLike 2 (.iload_n 2) 1 3 := ⟨by decide +kernel, rfl⟩
theorem d_BH_firstLike_3 : ez_at X_BH_firstLike 3 (.iload_n 1) 1 4 := ⟨by decide +kernel, rfl⟩
theorem d_BH_firstLike_4 : ez_br X_BH_firstLike 4 (.if_icmp .ge 62) 3 7 62 66 := ⟨by decide +kernel, rfl, rfl⟩
theorem d_BH_firstLike_7 : ez_at X_BH_firstLike 7 (.aload_n 0) 1 8 := ⟨by decide +kernel, rfl⟩
theorem d_BH_firstLike_8 : ez_at X_BH_firstLike 8 (.getfield 27) 3 11 := ⟨by decide +kernel, rfl⟩
theorem d_BH_firstLike_11 : ez_at X_BH_firstLike 11 (.iload_n 2) 1 12 := ⟨by decide +kernel, rfl⟩
theorem d_BH_firstLike_12 : ez_at X_BH_firstLike 12 (.iaload) 1 13 := ⟨by decide +kernel, rfl⟩
theorem d_BH_firstLike_13 : ez_at X_BH_firstLike 13 (.aload_n 0) 1 14 := ⟨by decide +kernel, rfl⟩
theorem d_BH_firstLike_14 : ez_at X_BH_firstLike 14 (.getfield 27) 3 17 := ⟨by decide +kernel, rfl⟩
theorem d_BH_firstLike_17 : ez_at X_BH_firstLike 17 (.iload_n 1) 1 18 := ⟨by decide +kernel, rfl⟩
theorem d_BH_firstLike_18 : ez_at X_BH_firstLike 18 (.iaload) 1 19 := ⟨by decide +kernel, rfl⟩
theorem d_BH_firstLike_19 : ez_br X_BH_firstLike 19 (.if_icmp .ne 22) 3 22 22 41 := ⟨by decide +kernel, rfl, rfl⟩
theorem d_BH_firstLike_22 : ez_at X_BH_firstLike 22 (.aload_n 0) 1 23 := ⟨by decide +kernel, rfl⟩
theorem d_BH_firstLike_23 : ez_at X_BH_firstLike 23 (.getfield 30) 3 26 := ⟨by decide +kernel, rfl⟩
theorem d_BH_firstLike_26 : ez_at X_BH_firstLike 26 (.iload_n 2) 1 27 := ⟨by decide +kernel, rfl⟩
theorem d_BH_firstLike_27 : ez_at X_BH_firstLike 27 (.iaload) 1 28 := ⟨by decide +kernel, rfl⟩
theorem d_BH_firstLike_28 : ez_at X_BH_firstLike 28 (.aload_n 0) 1 29 := ⟨by decide +kernel, rfl⟩
theorem d_BH_firstLike_29 : ez_at X_BH_firstLike 29 (.getfield 30) 3 32 := ⟨by decide +kernel, rfl⟩
theorem d_BH_firstLike_32 : ez_at X_BH_firstLike 32 (.iload_n 1) 1 33 := ⟨by decide +kernel, rfl⟩
theorem d_BH_firstLike_33 : ez_at X_BH_firstLike 33 (.iaload) 1 34 := ⟨by decide +kernel, rfl⟩
theorem d_BH_firstLike_34 : ez_br X_BH_firstLike 34 (.if_icmp .ne 7) 3 37 7 41 := ⟨by decide +kernel, rfl, rfl⟩
theorem d_BH_firstLike_37 : ez_at X_BH_firstLike 37 (.iconst 1) 1 38 := ⟨by decide +kernel, rfl⟩
theorem d_BH_firstLike_38 : ez_br X_BH_firstLike 38 (.goto 4) 3 41 4 42 := ⟨by decide +kernel, rfl, rfl⟩
theorem d_BH_firstLike_41 : ez_at X_BH_firstLike 41 (.iconst 0) 1 42 := ⟨by decide +kernel, rfl⟩
theorem d_BH_firstLike_42 : ez_at X_BH_firstLike 42 (.istore_n 3) 1 43 := ⟨by decide +kernel, rfl⟩
theorem d_BH_firstLike_43 : ez_at X_BH_firstLike 43 (.iload_n 3) 1 44 := ⟨by decide +kernel, rfl⟩
theorem d_BH_firstLike_44 : ez_br X_BH_firstLike 44 (.ifCond .eq 16) 3 47 16 60 := ⟨by decide +kernel, rfl, rfl⟩
theorem d_BH_firstLike_47 : ez_at X_BH_firstLike 47 (.aload_n 0) 1 48 := ⟨by decide +kernel, rfl⟩
theorem d_BH_firstLike_48 : ez_at X_BH_firstLike 48 (.getfield 43) 3 51 := ⟨by decide +kernel, rfl⟩
theorem d_BH_firstLike_51 : ez_at X_BH_firstLike 51 (.iload_n 2) 1 52 := ⟨by decide +kernel, rfl⟩
theorem d_BH_firstLike_52 : ez_at X_BH_firstLike 52 (.invokestatic 90) 3 55 := ⟨by decide +kernel, rfl⟩
theorem d_BH_firstLike_55 : ez_br X_BH_firstLike 55 (.ifCond .eq 5) 3 58 5 60 := ⟨by decide +kernel, rfl, rfl⟩
theorem d_BH_firstLike_58 : ez_at X_BH_firstLike 58 (.iload_n 2) 1 59 := ⟨by decide +kernel, rfl⟩
theorem d_BH_firstLike_59 : ez_at X_BH_firstLike 59 (.ireturn) 1 60 := ⟨by decide +kernel, rfl⟩
theorem d_BH_firstLike_60 : ez_at X_BH_firstLike 60 (.iinc 2 1) 3 63 := ⟨by decide +kernel, rfl⟩
theorem d_BH_firstLike_63 : ez_br X_BH_firstLike 63 (.goto (-61)) 3 66 (-61) 2 := ⟨by decide +kernel, rfl, rfl⟩
theorem d_BH_firstLike_66 : ez_at X_BH_firstLike 66 (.iload_n 1) 1 67 := ⟨by decide +kernel, rfl⟩
theorem d_BH_firstLike_67 : ez_at X_BH_firstLike 67 (.ireturn) 1 68 := ⟨by decide +kernel, rfl⟩
end
section
/-! ===== decoded: PS ===== -/
theorem d_PS_init_0 : ez_at X_PS_init 0 (.aload_n 0) 1 1 := ⟨by decide +kernel, rfl⟩
theorem d_PS_init_1 : ez_at X_PS_init 1 (.invokespecial 3) 3 4 := ⟨by decide +kernel, rfl⟩
theorem d_PS_init_4 : ez_at X_PS_init 4 (.aload_n 0) 1 5 := ⟨by decide +kernel, rfl⟩
theorem d_PS_init_5 : ez_at X_PS_init 5 (.bipush 32) 2 7 := ⟨by decide +kernel, rfl⟩
theorem d_PS_init_7 : ez_at X_PS_init 7 (.newarray .int) 2 9 := ⟨by decide +kernel, rfl⟩
theorem d_PS_init_9 : ez_at X_PS_init 9 (.putfield 9) 3 12 := ⟨by decide +kernel, rfl⟩
theorem d_PS_init_12 : ez_at X_PS_init 12 (.aload_n 0) 1 13 := ⟨by decide +kernel, rfl⟩
theorem d_PS_init_13 : ez_at X_PS_init 13 (.sipush 1024) 3 16 := ⟨by decide +kernel, rfl⟩
theorem d_PS_init_16 : ez_at X_PS_init 16 (.newarray .int) 2 18 := ⟨by decide +kernel, rfl⟩
theorem d_PS_init_18 : ez_at X_PS_init 18 (.putfield 15) 3 21 := ⟨by decide +kernel, rfl⟩
theorem d_PS_init_21 : ez_at X_PS_init 21 (.aload_n 0) 1 22 := ⟨by decide +kernel, rfl⟩
theorem d_PS_init_22 : ez_at X_PS_init 22 (.sipush 1024) 3 25 := ⟨by decide +kernel, rfl⟩
theorem d_PS_init_25 : ez_at X_PS_init 25 (.newarray .int) 2 27 := ⟨by decide +kernel, rfl⟩
theorem d_PS_init_27 : ez_at X_PS_init 27 (.putfield 18) 3 30 := ⟨by decide +kernel, rfl⟩
theorem d_PS_init_30 : ez_at X_PS_init 30 (.aload_n 0) 1 31 := ⟨by decide +kernel, rfl⟩
theorem d_PS_init_31 : ez_at X_PS_init 31 (.sipush 1024) 3 34 := ⟨by decide +kernel, rfl⟩
theorem d_PS_init_34 : ez_at X_PS_init 34 (.newarray .int) 2 36 := ⟨by decide +kernel, rfl⟩
theorem d_PS_init_36 : ez_at X_PS_init 36 (.putfield 21) 3 39 := ⟨by decide +kernel, rfl⟩
theorem d_PS_init_39 : ez_at X_PS_init 39 (.aload_n 0) 1 40 := ⟨by decide +kernel, rfl⟩
theorem d_PS_init_40 : ez_at X_PS_init 40 (.iconst 0) 1 41 := ⟨by decide +kernel, rfl⟩
theorem d_PS_init_41 : ez_at X_PS_init 41 (.putfield 24) 3 44 := ⟨by decide +kernel, rfl⟩
theorem d_PS_init_44 : ez_at X_PS_init 44 (.aload_n 0) 1 45 := ⟨by decide +kernel, rfl⟩
theorem d_PS_init_45 : ez_at X_PS_init 45 (.iconst 0) 1 46 := ⟨by decide +kernel, rfl⟩
theorem d_PS_init_46 : ez_at X_PS_init 46 (.putfield 28) 3 49 := ⟨by decide +kernel, rfl⟩
theorem d_PS_init_49 : ez_at X_PS_init 49 (.aload_n 0) 1 50 := ⟨by decide +kernel, rfl⟩
theorem d_PS_init_50 : ez_at X_PS_init 50 (.iconst 0) 1 51 := ⟨by decide +kernel, rfl⟩
theorem d_PS_init_51 : ez_at X_PS_init 51 (.putfield 31) 3 54 := ⟨by decide +kernel, rfl⟩
theorem d_PS_init_54 : ez_at X_PS_init 54 (.aload_n 0) 1 55 := ⟨by decide +kernel, rfl⟩
theorem d_PS_init_55 : ez_at X_PS_init 55 (.iconst 0) 1 56 := ⟨by decide +kernel, rfl⟩
theorem d_PS_init_56 : ez_at X_PS_init 56 (.putfield 34) 3 59 := ⟨by decide +kernel, rfl⟩
theorem d_PS_init_59 : ez_at X_PS_init 59 (.aload_n 0) 1 60 := ⟨by decide +kernel, rfl⟩
theorem d_PS_init_60 : ez_at X_PS_init 60 (.iconst (-1)) 1 61 := ⟨by decide +kernel, rfl⟩
theorem d_PS_init_61 : ez_at X_PS_init 61 (.putfield 37) 3 64 := ⟨by decide +kernel, rfl⟩
theorem d_PS_init_64 : ez_at X_PS_init 64 (.aload_n 0) 1 65 := ⟨by decide +kernel, rfl⟩
theorem d_PS_init_65 : ez_at X_PS_init 65 (.iconst (-1)) 1 66 := ⟨by decide +kernel, rfl⟩
theorem d_PS_init_66 : ez_at X_PS_init 66 (.putfield 40) 3 69 := ⟨by decide +kernel, rfl⟩
theorem d_PS_init_69 : ez_at X_PS_init 69 (.aload_n 0) 1 70 := ⟨by decide +kernel, rfl⟩
theorem d_PS_init_70 : ez_at X_PS_init 70 (.iconst 0) 1 71 := ⟨by decide +kernel, rfl⟩
theorem d_PS_init_71 : ez_at X_PS_init 71 (.putfield 43) 3 74 := ⟨by decide +kernel, rfl⟩
theorem d_PS_init_74 : ez_at X_PS_init 74 (.aload_n 0) 1 75 := ⟨by decide +kernel, rfl⟩
theorem d_PS_init_75 : ez_at X_PS_init 75 (.aload_n 1) 1 76 := ⟨by decide +kernel, rfl⟩
theorem d_PS_init_76 : ez_at X_PS_init 76 (.putfield 47) 3 79 := ⟨by decide +kernel, rfl⟩
theorem d_PS_init_79 : ez_at X_PS_init 79 (.aload_n 0) 1 80 := ⟨by decide +kernel, rfl⟩
theorem d_PS_init_80 : ez_at X_PS_init 80 (.aload_n 2) 1 81 := ⟨by decide +kernel, rfl⟩
theorem d_PS_init_81 : ez_at X_PS_init 81 (.putfield 51) 3 84 := ⟨by decide +kernel, rfl⟩
theorem d_PS_init_84 : ez_at X_PS_init 84 (.return_) 1 85 := ⟨by decide +kernel, rfl⟩
theorem d_PS_forget_0 : ez_at X_PS_forget 0 (.aload_n 0) 1 1 := ⟨by decide +kernel, rfl⟩
theorem d_PS_forget_1 : ez_at X_PS_forget 1 (.iconst 0) 1 2 := ⟨by decide +kernel, rfl⟩
theorem d_PS_forget_2 : ez_at X_PS_forget 2 (.putfield 43) 3 5 := ⟨by decide +kernel, rfl⟩
theorem d_PS_forget_5 : ez_at X_PS_forget 5 (.return_) 1 6 := ⟨by decide +kernel, rfl⟩
theorem d_PS_learn_0 : ez_at X_PS_learn 0 (.aload_n 0) 1 1 := ⟨by decide +kernel, rfl⟩
theorem d_PS_learn_1 : ez_at X_PS_learn 1 (.getfield 43) 3 4 := ⟨by decide +kernel, rfl⟩
theorem d_PS_learn_4 : ez_br X_PS_learn 4 (.ifCond .eq 4) 3 7 4 8 := ⟨by decide +kernel, rfl, rfl⟩
theorem d_PS_learn_7 : ez_at X_PS_learn 7 (.return_) 1 8 := ⟨by decide +kernel, rfl⟩
theorem d_PS_learn_8 : ez_at X_PS_learn 8 (.aload_n 0) 1 9 := ⟨by decide +kernel, rfl⟩
theorem d_PS_learn_9 : ez_at X_PS_learn 9 (.getfield 9) 3 12 := ⟨by decide +kernel, rfl⟩
theorem d_PS_learn_12 : ez_at X_PS_learn 12 (.iconst 0) 1 13 := ⟨by decide +kernel, rfl⟩
theorem d_PS_learn_13 : ez_at X_PS_learn 13 (.invokestatic 54) 3 16 := ⟨by decide +kernel, rfl⟩
theorem d_PS_learn_16 : ez_at X_PS_learn 16 (.aload_n 0) 1 17 := ⟨by decide +kernel, rfl⟩
theorem d_PS_learn_17 : ez_at X_PS_learn 17 (.iconst 0) 1 18 := ⟨by decide +kernel, rfl⟩
theorem d_PS_learn_18 : ez_at X_PS_learn 18 (.putfield 24) 3 21 := ⟨by decide +kernel, rfl⟩
theorem d_PS_learn_21 : ez_at X_PS_learn 21 (.aload_n 0) 1 22 := ⟨by decide +kernel, rfl⟩
theorem d_PS_learn_22 : ez_at X_PS_learn 22 (.iconst 0) 1 23 := ⟨by decide +kernel, rfl⟩
theorem d_PS_learn_23 : ez_at X_PS_learn 23 (.putfield 28) 3 26 := ⟨by decide +kernel, rfl⟩
theorem d_PS_learn_26 : ez_at X_PS_learn 26 (.aload_n 0) 1 27 := ⟨by decide +kernel, rfl⟩
theorem d_PS_learn_27 : ez_at X_PS_learn 27 (.iconst (-1)) 1 28 := ⟨by decide +kernel, rfl⟩
theorem d_PS_learn_28 : ez_at X_PS_learn 28 (.putfield 37) 3 31 := ⟨by decide +kernel, rfl⟩
theorem d_PS_learn_31 : ez_at X_PS_learn 31 (.aload_n 0) 1 32 := ⟨by decide +kernel, rfl⟩
theorem d_PS_learn_32 : ez_at X_PS_learn 32 (.iconst (-1)) 1 33 := ⟨by decide +kernel, rfl⟩
theorem d_PS_learn_33 : ez_at X_PS_learn 33 (.putfield 40) 3 36 := ⟨by decide +kernel, rfl⟩
theorem d_PS_learn_36 : ez_at X_PS_learn 36 (.aload_n 0) 1 37 := ⟨by decide +kernel, rfl⟩
theorem d_PS_learn_37 : ez_at X_PS_learn 37 (.iconst 0) 1 38 := ⟨by decide +kernel, rfl⟩
theorem d_PS_learn_38 : ez_at X_PS_learn 38 (.iconst 0) 1 39 := ⟨by decide +kernel, rfl⟩
theorem d_PS_learn_39 : ez_at X_PS_learn 39 (.iconst 0) 1 40 := ⟨by decide +kernel, rfl⟩
theorem d_PS_learn_40 : ez_at X_PS_learn 40 (.iconst 0) 1 41 := ⟨by decide +kernel, rfl⟩
theorem d_PS_learn_41 : ez_at X_PS_learn 41 (.invokevirtual 60) 3 44 := ⟨by decide +kernel, rfl⟩
theorem d_PS_learn_44 : ez_at X_PS_learn 44 (.iconst 0) 1 45 := ⟨by decide +kernel, rfl⟩
theorem d_PS_learn_45 : ez_at X_PS_learn 45 (.istore_n 2) 1 46 := ⟨by decide +kernel, rfl⟩
theorem d_PS_learn_46 : ez_at X_PS_learn 46 (.iload_n 2) 1 47 := ⟨by decide +kernel, rfl⟩
theorem d_PS_learn_47 : ez_at X_PS_learn 47 (.aload_n 0) 1 48 := ⟨by decide +kernel, rfl⟩
theorem d_PS_learn_48 : ez_at X_PS_learn 48 (.getfield 24) 3 51 := ⟨by decide +kernel, rfl⟩
theorem d_PS_learn_51 : ez_br X_PS_learn 51 (.if_icmp .ge 22) 3 54 22 73 := ⟨by decide +kernel, rfl, rfl⟩
theorem d_PS_learn_54 : ez_at X_PS_learn 54 (.iload_n 2) 1 55 := ⟨by decide +kernel, rfl⟩
theorem d_PS_learn_55 : ez_at X_PS_learn 55 (.sipush 1024) 3 58 := ⟨by decide +kernel, rfl⟩
theorem d_PS_learn_58 : ez_br X_PS_learn 58 (.if_icmp .ge 15) 3 61 15 73 := ⟨by decide +kernel, rfl, rfl⟩
theorem d_PS_learn_61 : ez_at X_PS_learn 61 (.aload_n 0) 1 62 := ⟨by decide +kernel, rfl⟩
theorem d_PS_learn_62 : ez_at X_PS_learn 62 (.iload_n 2) 1 63 := ⟨by decide +kernel, rfl⟩
theorem d_PS_learn_63 : ez_at X_PS_learn 63 (.iload_n 1) 1 64 := ⟨by decide +kernel, rfl⟩
theorem d_PS_learn_64 : ez_at X_PS_learn 64 (.invokevirtual 64) 3 67 := ⟨by decide +kernel, rfl⟩
theorem d_PS_learn_67 : ez_at X_PS_learn 67 (.iinc 2 1) 3 70 := ⟨by decide +kernel, rfl⟩
theorem d_PS_learn_70 : ez_br X_PS_learn 70 (.goto (-24)) 3 73 (-24) 46 := ⟨by decide +kernel, rfl, rfl⟩
theorem d_PS_learn_73 : ez_at X_PS_learn 73 (.aload_n 0) 1 74 := ⟨by decide +kernel, rfl⟩
theorem d_PS_learn_74 : ez_at X_PS_learn 74 (.iconst 1) 1 75 := ⟨by decide +kernel, rfl⟩
theorem d_PS_learn_75 : ez_at X_PS_learn 75 (.putfield 43) 3 78 := ⟨by decide +kernel, rfl⟩
theorem d_PS_learn_78 : ez_at X_PS_learn 78 (.return_) 1 79 := ⟨by decide +kernel, rfl⟩
theorem d_PS_countPairs_0 : ez_at X_PS_countPairs 0 (.aload_n 0) 1 1 := ⟨by decide +kernel, rfl⟩
theorem d_PS_countPairs_1 : ez_at X_PS_countPairs 1 (.getfield 24) 3 4 := ⟨by decide +kernel, rfl⟩
theorem d_PS_countPairs_4 : ez_at X_PS_countPairs 4 (.ireturn) 1 5 := ⟨by decide +kernel, rfl⟩
theorem d_PS_countShown_0 : ez_at X_PS_countShown 0 (.aload_n 0) 1 1 := ⟨by decide +kernel, rfl⟩
theorem d_PS_countShown_1 : ez_at X_PS_countShown 1 (.getfield 28) 3 4 := ⟨by decide +kernel, rfl⟩
theorem d_PS_countShown_4 : ez_at X_PS_countShown 4 (.ireturn) 1 5 := ⟨by decide +kernel, rfl⟩
theorem d_PS_shownRow_0 : ez_at X_PS_shownRow 0 (.iload_n 1) 1 1 := ⟨by decide +kernel, rfl⟩
theorem d_PS_shownRow_1 : ez_at X_PS_shownRow 1 (.aload_n 0) 1 2 := ⟨by decide +kernel, rfl⟩
theorem d_PS_shownRow_2 : ez_at X_PS_shownRow 2 (.getfield 28) 3 5 := ⟨by decide +kernel, rfl⟩
theorem d_PS_shownRow_5 : ez_at X_PS_shownRow 5 (.iconst 1) 1 6 := ⟨by decide +kernel, rfl⟩
theorem d_PS_shownRow_6 : ez_at X_PS_shownRow 6 (.isub) 1 7 := ⟨by decide +kernel, rfl⟩
theorem d_PS_shownRow_7 : ez_br X_PS_shownRow 7 (.if_icmp .lt 8) 3 10 8 15 := ⟨by decide +kernel, rfl, rfl⟩
theorem d_PS_shownRow_10 : ez_at X_PS_shownRow 10 (.aload_n 0) 1 11 := ⟨by decide +kernel, rfl⟩
theorem d_PS_shownRow_11 : ez_at X_PS_shownRow 11 (.getfield 34) 3 14 := ⟨by decide +kernel, rfl⟩
theorem d_PS_shownRow_14 : ez_at X_PS_shownRow 14 (.ireturn) 1 15 := ⟨by decide +kernel, rfl⟩
theorem d_PS_shownRow_15 : ez_at X_PS_shownRow 15 (.aload_n 0) 1 16 := ⟨by decide +kernel, rfl⟩
theorem d_PS_shownRow_16 : ez_at X_PS_shownRow 16 (.getfield 31) 3 19 := ⟨by decide +kernel, rfl⟩
theorem d_PS_shownRow_19 : ez_at X_PS_shownRow 19 (.istore_n 2) 1 20 := ⟨by decide +kernel, rfl⟩
theorem d_PS_shownRow_20 : ez_at X_PS_shownRow 20 (.aload_n 0) 1 21 := ⟨by decide +kernel, rfl⟩
theorem d_PS_shownRow_21 : ez_at X_PS_shownRow 21 (.getfield 28) 3 24 := ⟨by decide +kernel, rfl⟩
theorem d_PS_shownRow_24 : ez_at X_PS_shownRow 24 (.iconst 2) 1 25 := ⟨by decide +kernel, rfl⟩
theorem d_PS_shownRow_25 : ez_at X_PS_shownRow 25 (.isub) 1 26 := ⟨by decide +kernel, rfl⟩
theorem d_PS_shownRow_26 : ez_at X_PS_shownRow 26 (.istore_n 3) 1 27 := ⟨by decide +kernel, rfl⟩
theorem d_PS_shownRow_27 : ez_at X_PS_shownRow 27 (.iload_n 3) 1 28 := ⟨by decide +kernel, rfl⟩
theorem d_PS_shownRow_28 : ez_at X_PS_shownRow 28 (.iload_n 1) 1 29 := ⟨by decide +kernel, rfl⟩
theorem d_PS_shownRow_29 : ez_br X_PS_shownRow 29 (.if_icmp .le 16) 3 32 16 45 := ⟨by decide +kernel, rfl, rfl⟩
theorem d_PS_shownRow_32 : ez_at X_PS_shownRow 32 (.aload_n 0) 1 33 := ⟨by decide +kernel, rfl⟩
theorem d_PS_shownRow_33 : ez_at X_PS_shownRow 33 (.getfield 18) 3 36 := ⟨by decide +kernel, rfl⟩
theorem d_PS_shownRow_36 : ez_at X_PS_shownRow 36 (.iload_n 2) 1 37 := ⟨by decide +kernel, rfl⟩
theorem d_PS_shownRow_37 : ez_at X_PS_shownRow 37 (.iaload) 1 38 := ⟨by decide +kernel, rfl⟩
theorem d_PS_shownRow_38 : ez_at X_PS_shownRow 38 (.istore_n 2) 1 39 := ⟨by decide +kernel, rfl⟩
theorem d_PS_shownRow_39 : ez_at X_PS_shownRow 39 (.iinc 3 (-1)) 3 42 := ⟨by decide +kernel, rfl⟩
theorem d_PS_shownRow_42 : ez_br X_PS_shownRow 42 (.goto (-15)) 3 45 (-15) 27 := ⟨by decide +kernel, rfl, rfl⟩
theorem d_PS_shownRow_45 : ez_at X_PS_shownRow 45 (.aload_n 0) 1 46 := ⟨by decide +kernel, rfl⟩
theorem d_PS_shownRow_46 : ez_at X_PS_shownRow 46 (.getfield 21) 3 49 := ⟨by decide +kernel, rfl⟩
theorem d_PS_shownRow_49 : ez_at X_PS_shownRow 49 (.iload_n 2) 1 50 := ⟨by decide +kernel, rfl⟩
theorem d_PS_shownRow_50 : ez_at X_PS_shownRow 50 (.iaload) 1 51 := ⟨by decide +kernel, rfl⟩
theorem d_PS_shownRow_51 : ez_at X_PS_shownRow 51 (.ireturn) 1 52 := ⟨by decide +kernel, rfl⟩
theorem d_PS_lastOuts_0 : ez_at X_PS_lastOuts 0 (.iload_n 1) 1 1 := ⟨by decide +kernel, rfl⟩
theorem d_PS_lastOuts_1 : ez_br X_PS_lastOuts 1 (.ifCond .ne 10) 3 4 10 11 := ⟨by decide +kernel, rfl, rfl⟩
theorem d_PS_lastOuts_4 : ez_at X_PS_lastOuts 4 (.aload_n 0) 1 5 := ⟨by decide +kernel, rfl⟩
theorem d_PS_lastOuts_5 : ez_at X_PS_lastOuts 5 (.getfield 37) 3 8 := ⟨by decide +kernel, rfl⟩
theorem d_PS_lastOuts_8 : ez_br X_PS_lastOuts 8 (.goto 7) 3 11 7 15 := ⟨by decide +kernel, rfl, rfl⟩
theorem d_PS_lastOuts_11 : ez_at X_PS_lastOuts 11 (.aload_n 0) 1 12 := ⟨by decide +kernel, rfl⟩
theorem d_PS_lastOuts_12 : ez_at X_PS_lastOuts 12 (.getfield 40) 3 15 := ⟨by decide +kernel, rfl⟩
theorem d_PS_lastOuts_15 : ez_at X_PS_lastOuts 15 (.ireturn) 1 16 := ⟨by decide +kernel, rfl⟩
theorem d_PS_goOnFrom_0 : ez_at X_PS_goOnFrom 0 (.aload_n 0) 1 1 := ⟨by decide +kernel, rfl⟩
theorem d_PS_goOnFrom_1 : ez_at X_PS_goOnFrom 1 (.getfield 15) 3 4 := ⟨by decide +kernel, rfl⟩
theorem d_PS_goOnFrom_4 : ez_at X_PS_goOnFrom 4 (.iload_n 1) 1 5 := ⟨by decide +kernel, rfl⟩
theorem d_PS_goOnFrom_5 : ez_at X_PS_goOnFrom 5 (.iaload) 1 6 := ⟨by decide +kernel, rfl⟩
theorem d_PS_goOnFrom_6 : ez_at X_PS_goOnFrom 6 (.bipush 32) 2 8 := ⟨by decide +kernel, rfl⟩
theorem d_PS_goOnFrom_8 : ez_at X_PS_goOnFrom 8 (.idiv) 1 9 := ⟨by decide +kernel, rfl⟩
theorem d_PS_goOnFrom_9 : ez_at X_PS_goOnFrom 9 (.istore_n 3) 1 10 := ⟨by decide +kernel, rfl⟩
theorem d_PS_goOnFrom_10 : ez_at X_PS_goOnFrom 10 (.aload_n 0) 1 11 := ⟨by decide +kernel, rfl⟩
theorem d_PS_goOnFrom_11 : ez_at X_PS_goOnFrom 11 (.getfield 15) 3 14 := ⟨by decide +kernel, rfl⟩
theorem d_PS_goOnFrom_14 : ez_at X_PS_goOnFrom 14 (.iload_n 1) 1 15 := ⟨by decide +kernel, rfl⟩
theorem d_PS_goOnFrom_15 : ez_at X_PS_goOnFrom 15 (.iaload) 1 16 := ⟨by decide +kernel, rfl⟩
theorem d_PS_goOnFrom_16 : ez_at X_PS_goOnFrom 16 (.bipush 32) 2 18 := ⟨by decide +kernel, rfl⟩
theorem d_PS_goOnFrom_18 : ez_at X_PS_goOnFrom 18 (.irem) 1 19 := ⟨by decide +kernel, rfl⟩
theorem d_PS_goOnFrom_19 : ez_at X_PS_goOnFrom 19 (.istore 4) 2 21 := ⟨by decide +kernel, rfl⟩
theorem d_PS_goOnFrom_21 : ez_at X_PS_goOnFrom 21 (.iconst 0) 1 22 := ⟨by decide +kernel, rfl⟩
theorem d_PS_goOnFrom_22 : ez_at X_PS_goOnFrom 22 (.istore 5) 2 24 := ⟨by decide +kernel, rfl⟩
theorem d_PS_goOnFrom_24 : ez_at X_PS_goOnFrom 24 (.iload 5) 2 26 := ⟨by decide +kernel, rfl⟩
theorem d_PS_goOnFrom_26 : ez_at X_PS_goOnFrom 26 (.bipush 16) 2 28 := ⟨by decide +kernel, rfl⟩
theorem d_PS_goOnFrom_28 : ez_br X_PS_goOnFrom 28 (.if_icmp .ge 113) 3 31 113 141 := ⟨by decide +kernel, rfl, rfl⟩
theorem d_PS_goOnFrom_31 : ez_at X_PS_goOnFrom 31 (.iload_n 2) 1 32 := ⟨by decide +kernel, rfl⟩
theorem d_PS_goOnFrom_32 : ez_at X_PS_goOnFrom 32 (.iload 5) 2 34 := ⟨by decide +kernel, rfl⟩
theorem d_PS_goOnFrom_34 : ez_at X_PS_goOnFrom 34 (.invokestatic 68) 3 37 := ⟨by decide +kernel, rfl⟩
theorem d_PS_goOnFrom_37 : ez_br X_PS_goOnFrom 37 (.ifCond .eq 98) 3 40 98 135 := ⟨by decide +kernel, rfl, rfl⟩
theorem d_PS_goOnFrom_40 : ez_at X_PS_goOnFrom 40 (.aload_n 0) 1 41 := ⟨by decide +kernel, rfl⟩
theorem d_PS_goOnFrom_41 : ez_at X_PS_goOnFrom 41 (.getfield 28) 3 44 := ⟨by decide +kernel, rfl⟩
theorem d_PS_goOnFrom_44 : ez_br X_PS_goOnFrom 44 (.ifCond .ne 63) 3 47 63 107 := ⟨by decide +kernel, rfl, rfl⟩
theorem d_PS_goOnFrom_47 : ez_at X_PS_goOnFrom 47 (.aload_n 0) 1 48 := ⟨by decide +kernel, rfl⟩
theorem d_PS_goOnFrom_48 : ez_at X_PS_goOnFrom 48 (.getfield 47) 3 51 := ⟨by decide +kernel, rfl⟩
theorem d_PS_goOnFrom_51 : ez_at X_PS_goOnFrom 51 (.iload_n 3) 1 52 := ⟨by decide +kernel, rfl⟩
theorem d_PS_goOnFrom_52 : ez_at X_PS_goOnFrom 52 (.iload 5) 2 54 := ⟨by decide +kernel, rfl⟩
theorem d_PS_goOnFrom_54 : ez_at X_PS_goOnFrom 54 (.invokevirtual 72) 3 57 := ⟨by decide +kernel, rfl⟩
theorem d_PS_goOnFrom_57 : ez_at X_PS_goOnFrom 57 (.aload_n 0) 1 58 := ⟨by decide +kernel, rfl⟩
theorem d_PS_goOnFrom_58 : ez_at X_PS_goOnFrom 58 (.getfield 51) 3 61 := ⟨by decide +kernel, rfl⟩
theorem d_PS_goOnFrom_61 : ez_at X_PS_goOnFrom 61 (.iload 4) 2 63 := ⟨by decide +kernel, rfl⟩
theorem d_PS_goOnFrom_63 : ez_at X_PS_goOnFrom 63 (.iload 5) 2 65 := ⟨by decide +kernel, rfl⟩
theorem d_PS_goOnFrom_65 : ez_at X_PS_goOnFrom 65 (.invokevirtual 72) 3 68 := ⟨by decide +kernel, rfl⟩
theorem d_PS_goOnFrom_68 : ez_br X_PS_goOnFrom 68 (.if_icmp .eq 39) 3 71 39 107 := ⟨by decide +kernel, rfl, rfl⟩
theorem d_PS_goOnFrom_71 : ez_at X_PS_goOnFrom 71 (.aload_n 0) 1 72 := ⟨by decide +kernel, rfl⟩
theorem d_PS_goOnFrom_72 : ez_at X_PS_goOnFrom 72 (.aload_n 0) 1 73 := ⟨by decide +kernel, rfl⟩
theorem d_PS_goOnFrom_73 : ez_at X_PS_goOnFrom 73 (.getfield 47) 3 76 := ⟨by decide +kernel, rfl⟩
theorem d_PS_goOnFrom_76 : ez_at X_PS_goOnFrom 76 (.iload_n 3) 1 77 := ⟨by decide +kernel, rfl⟩
theorem d_PS_goOnFrom_77 : ez_at X_PS_goOnFrom 77 (.iload 5) 2 79 := ⟨by decide +kernel, rfl⟩
theorem d_PS_goOnFrom_79 : ez_at X_PS_goOnFrom 79 (.invokevirtual 72) 3 82 := ⟨by decide +kernel, rfl⟩
theorem d_PS_goOnFrom_82 : ez_at X_PS_goOnFrom 82 (.putfield 37) 3 85 := ⟨by decide +kernel, rfl⟩
theorem d_PS_goOnFrom_85 : ez_at X_PS_goOnFrom 85 (.aload_n 0) 1 86 := ⟨by decide +kernel, rfl⟩
theorem d_PS_goOnFrom_86 : ez_at X_PS_goOnFrom 86 (.aload_n 0) 1 87 := ⟨by decide +kernel, rfl⟩
theorem d_PS_goOnFrom_87 : ez_at X_PS_goOnFrom 87 (.getfield 51) 3 90 := ⟨by decide +kernel, rfl⟩
theorem d_PS_goOnFrom_90 : ez_at X_PS_goOnFrom 90 (.iload 4) 2 92 := ⟨by decide +kernel, rfl⟩
theorem d_PS_goOnFrom_92 : ez_at X_PS_goOnFrom 92 (.iload 5) 2 94 := ⟨by decide +kernel, rfl⟩
theorem d_PS_goOnFrom_94 : ez_at X_PS_goOnFrom 94 (.invokevirtual 72) 3 97 := ⟨by decide +kernel, rfl⟩
theorem d_PS_goOnFrom_97 : ez_at X_PS_goOnFrom 97 (.putfield 40) 3 100 := ⟨by decide +kernel, rfl⟩
theorem d_PS_goOnFrom_100 : ez_at X_PS_goOnFrom 100 (.aload_n 0) 1 101 := ⟨by decide +kernel, rfl⟩
theorem d_PS_goOnFrom_101 : ez_at X_PS_goOnFrom 101 (.iload_n 1) 1 102 := ⟨by decide +kernel, rfl⟩
theorem d_PS_goOnFrom_102 : ez_at X_PS_goOnFrom 102 (.iload 5) 2 104 := ⟨by decide +kernel, rfl⟩
theorem d_PS_goOnFrom_104 : ez_at X_PS_goOnFrom 104 (.invokevirtual 78) 3 107 := ⟨by decide +kernel, rfl⟩
theorem d_PS_goOnFrom_107 : ez_at X_PS_goOnFrom 107 (.aload_n 0) 1 108 := ⟨by decide +kernel, rfl⟩
theorem d_PS_goOnFrom_108 : ez_at X_PS_goOnFrom 108 (.aload_n 0) 1 109 := ⟨by decide +kernel, rfl⟩
theorem d_PS_goOnFrom_109 : ez_at X_PS_goOnFrom 109 (.getfield 47) 3 112 := ⟨by decide +kernel, rfl⟩
theorem d_PS_goOnFrom_112 : ez_at X_PS_goOnFrom 112 (.iload_n 3) 1 113 := ⟨by decide +kernel, rfl⟩
theorem d_PS_goOnFrom_113 : ez_at X_PS_goOnFrom 113 (.iload 5) 2 115 := ⟨by decide +kernel, rfl⟩
theorem d_PS_goOnFrom_115 : ez_at X_PS_goOnFrom 115 (.invokevirtual 81) 3 118 := ⟨by decide +kernel, rfl⟩
theorem d_PS_goOnFrom_118 : ez_at X_PS_goOnFrom 118 (.aload_n 0) 1 119 := ⟨by decide +kernel, rfl⟩
theorem d_PS_goOnFrom_119 : ez_at X_PS_goOnFrom 119 (.getfield 51) 3 122 := ⟨by decide +kernel, rfl⟩
theorem d_PS_goOnFrom_122 : ez_at X_PS_goOnFrom 122 (.iload 4) 2 124 := ⟨by decide +kernel, rfl⟩
theorem d_PS_goOnFrom_124 : ez_at X_PS_goOnFrom 124 (.iload 5) 2 126 := ⟨by decide +kernel, rfl⟩
theorem d_PS_goOnFrom_126 : ez_at X_PS_goOnFrom 126 (.invokevirtual 81) 3 129 := ⟨by decide +kernel, rfl⟩
theorem d_PS_goOnFrom_129 : ez_at X_PS_goOnFrom 129 (.iload_n 1) 1 130 := ⟨by decide +kernel, rfl⟩
theorem d_PS_goOnFrom_130 : ez_at X_PS_goOnFrom 130 (.iload 5) 2 132 := ⟨by decide +kernel, rfl⟩
theorem d_PS_goOnFrom_132 : ez_at X_PS_goOnFrom 132 (.invokevirtual 60) 3 135 := ⟨by decide +kernel, rfl⟩
theorem d_PS_goOnFrom_135 : ez_at X_PS_goOnFrom 135 (.iinc 5 1) 3 138 := ⟨by decide +kernel, rfl⟩
theorem d_PS_goOnFrom_138 : ez_br X_PS_goOnFrom 138 (.goto (-114)) 3 141 (-114) 24 := ⟨by decide +kernel, rfl, rfl⟩
theorem d_PS_goOnFrom_141 : ez_at X_PS_goOnFrom 141 (.return_) 1 142 := ⟨by decide +kernel, rfl⟩
theorem d_PS_meet_0 : ez_at X_PS_meet 0 (.iload_n 1) 1 1 := ⟨by decide +kernel, rfl⟩
theorem d_PS_meet_1 : ez_at X_PS_meet 1 (.bipush 32) 2 3 := ⟨by decide +kernel, rfl⟩
theorem d_PS_meet_3 : ez_at X_PS_meet 3 (.invokestatic 84) 3 6 := ⟨by decide +kernel, rfl⟩
theorem d_PS_meet_6 : ez_br X_PS_meet 6 (.ifCond .eq 20) 3 9 20 26 := ⟨by decide +kernel, rfl, rfl⟩
theorem d_PS_meet_9 : ez_at X_PS_meet 9 (.aload_n 0) 1 10 := ⟨by decide +kernel, rfl⟩
theorem d_PS_meet_10 : ez_at X_PS_meet 10 (.getfield 9) 3 13 := ⟨by decide +kernel, rfl⟩
theorem d_PS_meet_13 : ez_at X_PS_meet 13 (.iload_n 1) 1 14 := ⟨by decide +kernel, rfl⟩
theorem d_PS_meet_14 : ez_at X_PS_meet 14 (.iaload) 1 15 := ⟨by decide +kernel, rfl⟩
theorem d_PS_meet_15 : ez_at X_PS_meet 15 (.iload_n 2) 1 16 := ⟨by decide +kernel, rfl⟩
theorem d_PS_meet_16 : ez_at X_PS_meet 16 (.invokestatic 68) 3 19 := ⟨by decide +kernel, rfl⟩
theorem d_PS_meet_19 : ez_br X_PS_meet 19 (.ifCond .ne 7) 3 22 7 26 := ⟨by decide +kernel, rfl, rfl⟩
theorem d_PS_meet_22 : ez_at X_PS_meet 22 (.iconst 1) 1 23 := ⟨by decide +kernel, rfl⟩
theorem d_PS_meet_23 : ez_br X_PS_meet 23 (.goto 4) 3 26 4 27 := ⟨by decide +kernel, rfl, rfl⟩
theorem d_PS_meet_26 : ez_at X_PS_meet 26 (.iconst 0) 1 27 := ⟨by decide +kernel, rfl⟩
theorem d_PS_meet_27 : ez_at X_PS_meet 27 (.istore 5) 2 29 := ⟨by decide +kernel, rfl⟩
theorem d_PS_meet_29 : ez_at X_PS_meet 29 (.iload 5) 2 31 := ⟨by decide +kernel, rfl⟩
theorem d_PS_meet_31 : ez_br X_PS_meet 31 (.ifCond .eq 72) 3 34 72 103 := ⟨by decide +kernel, rfl, rfl⟩
theorem d_PS_meet_34 : ez_at X_PS_meet 34 (.aload_n 0) 1 35 := ⟨by decide +kernel, rfl⟩
theorem d_PS_meet_35 : ez_at X_PS_meet 35 (.getfield 24) 3 38 := ⟨by decide +kernel, rfl⟩
theorem d_PS_meet_38 : ez_at X_PS_meet 38 (.sipush 1024) 3 41 := ⟨by decide +kernel, rfl⟩
theorem d_PS_meet_41 : ez_br X_PS_meet 41 (.if_icmp .ge 62) 3 44 62 103 := ⟨by decide +kernel, rfl, rfl⟩
theorem d_PS_meet_44 : ez_at X_PS_meet 44 (.aload_n 0) 1 45 := ⟨by decide +kernel, rfl⟩
theorem d_PS_meet_45 : ez_at X_PS_meet 45 (.getfield 9) 3 48 := ⟨by decide +kernel, rfl⟩
theorem d_PS_meet_48 : ez_at X_PS_meet 48 (.iload_n 1) 1 49 := ⟨by decide +kernel, rfl⟩
theorem d_PS_meet_49 : ez_at X_PS_meet 49 (.dup2) 1 50 := ⟨by decide +kernel, rfl⟩
theorem d_PS_meet_50 : ez_at X_PS_meet 50 (.iaload) 1 51 := ⟨by decide +kernel, rfl⟩
theorem d_PS_meet_51 : ez_at X_PS_meet 51 (.iload_n 2) 1 52 := ⟨by decide +kernel, rfl⟩
theorem d_PS_meet_52 : ez_at X_PS_meet 52 (.invokestatic 87) 3 55 := ⟨by decide +kernel, rfl⟩
theorem d_PS_meet_55 : ez_at X_PS_meet 55 (.ior) 1 56 := ⟨by decide +kernel, rfl⟩
theorem d_PS_meet_56 : ez_at X_PS_meet 56 (.iastore) 1 57 := ⟨by decide +kernel, rfl⟩
theorem d_PS_meet_57 : ez_at X_PS_meet 57 (.aload_n 0) 1 58 := ⟨by decide +kernel, rfl⟩
theorem d_PS_meet_58 : ez_at X_PS_meet 58 (.getfield 15) 3 61 := ⟨by decide +kernel, rfl⟩
theorem d_PS_meet_61 : ez_at X_PS_meet 61 (.aload_n 0) 1 62 := ⟨by decide +kernel, rfl⟩
theorem d_PS_meet_62 : ez_at X_PS_meet 62 (.getfield 24) 3 65 := ⟨by decide +kernel, rfl⟩
theorem d_PS_meet_65 : ez_at X_PS_meet 65 (.iload_n 1) 1 66 := ⟨by decide +kernel, rfl⟩
theorem d_PS_meet_66 : ez_at X_PS_meet 66 (.bipush 32) 2 68 := ⟨by decide +kernel, rfl⟩
theorem d_PS_meet_68 : ez_at X_PS_meet 68 (.imul) 1 69 := ⟨by decide +kernel, rfl⟩
theorem d_PS_meet_69 : ez_at X_PS_meet 69 (.iload_n 2) 1 70 := ⟨by decide +kernel, rfl⟩
theorem d_PS_meet_70 : ez_at X_PS_meet 70 (.iadd) 1 71 := ⟨by decide +kernel, rfl⟩
theorem d_PS_meet_71 : ez_at X_PS_meet 71 (.iastore) 1 72 := ⟨by decide +kernel, rfl⟩
theorem d_PS_meet_72 : ez_at X_PS_meet 72 (.aload_n 0) 1 73 := ⟨by decide +kernel, rfl⟩
theorem d_PS_meet_73 : ez_at X_PS_meet 73 (.getfield 18) 3 76 := ⟨by decide +kernel, rfl⟩
theorem d_PS_meet_76 : ez_at X_PS_meet 76 (.aload_n 0) 1 77 := ⟨by decide +kernel, rfl⟩
theorem d_PS_meet_77 : ez_at X_PS_meet 77 (.getfield 24) 3 80 := ⟨by decide +kernel, rfl⟩
theorem d_PS_meet_80 : ez_at X_PS_meet 80 (.iload_n 3) 1 81 := ⟨by decide +kernel, rfl⟩
theorem d_PS_meet_81 : ez_at X_PS_meet 81 (.iastore) 1 82 := ⟨by decide +kernel, rfl⟩
theorem d_PS_meet_82 : ez_at X_PS_meet 82 (.aload_n 0) 1 83 := ⟨by decide +kernel, rfl⟩
theorem d_PS_meet_83 : ez_at X_PS_meet 83 (.getfield 21) 3 86 := ⟨by decide +kernel, rfl⟩
theorem d_PS_meet_86 : ez_at X_PS_meet 86 (.aload_n 0) 1 87 := ⟨by decide +kernel, rfl⟩
theorem d_PS_meet_87 : ez_at X_PS_meet 87 (.getfield 24) 3 90 := ⟨by decide +kernel, rfl⟩
theorem d_PS_meet_90 : ez_at X_PS_meet 90 (.iload 4) 2 92 := ⟨by decide +kernel, rfl⟩
theorem d_PS_meet_92 : ez_at X_PS_meet 92 (.iastore) 1 93 := ⟨by decide +kernel, rfl⟩
theorem d_PS_meet_93 : ez_at X_PS_meet 93 (.aload_n 0) 1 94 := ⟨by decide +kernel, rfl⟩
theorem d_PS_meet_94 : ez_at X_PS_meet 94 (.dup) 1 95 := ⟨by decide +kernel, rfl⟩
theorem d_PS_meet_95 : ez_at X_PS_meet 95 (.getfield 24) 3 98 := ⟨by decide +kernel, rfl⟩
theorem d_PS_meet_98 : ez_at X_PS_meet 98 (.iconst 1) 1 99 := ⟨by decide +kernel, rfl⟩
theorem d_PS_meet_99 : ez_at X_PS_meet 99 (.iadd) 1 100 := ⟨by decide +kernel, rfl⟩
theorem d_PS_meet_100 : ez_at X_PS_meet 100 (.putfield 24) 3 103 := ⟨by decide +kernel, rfl⟩
theorem d_PS_meet_103 : ez_at X_PS_meet 103 (.return_) 1 104 := ⟨by decide +kernel, rfl⟩
theorem d_PS_keepShown_0 : ez_at X_PS_keepShown 0 (.aload_n 0) 1 1 := ⟨by decide +kernel, rfl⟩
theorem d_PS_keepShown_1 : ez_at X_PS_keepShown 1 (.iload_n 1) 1 2 := ⟨by decide +kernel, rfl⟩
theorem d_PS_keepShown_2 : ez_at X_PS_keepShown 2 (.putfield 31) 3 5 := ⟨by decide +kernel, rfl⟩
theorem d_PS_keepShown_5 : ez_at X_PS_keepShown 5 (.aload_n 0) 1 6 := ⟨by decide +kernel, rfl⟩
theorem d_PS_keepShown_6 : ez_at X_PS_keepShown 6 (.iload_n 2) 1 7 := ⟨by decide +kernel, rfl⟩
theorem d_PS_keepShown_7 : ez_at X_PS_keepShown 7 (.putfield 34) 3 10 := ⟨by decide +kernel, rfl⟩
theorem d_PS_keepShown_10 : ez_at X_PS_keepShown 10 (.aload_n 0) 1 11 := ⟨by decide +kernel, rfl⟩
theorem d_PS_keepShown_11 : ez_at X_PS_keepShown 11 (.iconst 1) 1 12 := ⟨by decide +kernel, rfl⟩
theorem d_PS_keepShown_12 : ez_at X_PS_keepShown 12 (.putfield 28) 3 15 := ⟨by decide +kernel, rfl⟩
theorem d_PS_keepShown_15 : ez_at X_PS_keepShown 15 (.iload_n 1) 1 16 := ⟨by decide +kernel, rfl⟩
theorem d_PS_keepShown_16 : ez_at X_PS_keepShown 16 (.istore_n 3) 1 17 := ⟨by decide +kernel, rfl⟩
theorem d_PS_keepShown_17 : ez_at X_PS_keepShown 17 (.iload_n 3) 1 18 := ⟨by decide +kernel, rfl⟩
theorem d_PS_keepShown_18 : ez_br X_PS_keepShown 18 (.ifCond .le 33) 3 21 33 51 := ⟨by decide +kernel, rfl, rfl⟩
theorem d_PS_keepShown_21 : ez_at X_PS_keepShown 21 (.aload_n 0) 1 22 := ⟨by decide +kernel, rfl⟩
theorem d_PS_keepShown_22 : ez_at X_PS_keepShown 22 (.getfield 28) 3 25 := ⟨by decide +kernel, rfl⟩
theorem d_PS_keepShown_25 : ez_at X_PS_keepShown 25 (.sipush 1024) 3 28 := ⟨by decide +kernel, rfl⟩
theorem d_PS_keepShown_28 : ez_br X_PS_keepShown 28 (.if_icmp .ge 23) 3 31 23 51 := ⟨by decide +kernel, rfl, rfl⟩
theorem d_PS_keepShown_31 : ez_at X_PS_keepShown 31 (.aload_n 0) 1 32 := ⟨by decide +kernel, rfl⟩
theorem d_PS_keepShown_32 : ez_at X_PS_keepShown 32 (.dup) 1 33 := ⟨by decide +kernel, rfl⟩
theorem d_PS_keepShown_33 : ez_at X_PS_keepShown 33 (.getfield 28) 3 36 := ⟨by decide +kernel, rfl⟩
theorem d_PS_keepShown_36 : ez_at X_PS_keepShown 36 (.iconst 1) 1 37 := ⟨by decide +kernel, rfl⟩
theorem d_PS_keepShown_37 : ez_at X_PS_keepShown 37 (.iadd) 1 38 := ⟨by decide +kernel, rfl⟩
theorem d_PS_keepShown_38 : ez_at X_PS_keepShown 38 (.putfield 28) 3 41 := ⟨by decide +kernel, rfl⟩
theorem d_PS_keepShown_41 : ez_at X_PS_keepShown 41 (.aload_n 0) 1 42 := ⟨by decide +kernel, rfl⟩
theorem d_PS_keepShown_42 : ez_at X_PS_keepShown 42 (.getfield 18) 3 45 := ⟨by decide +kernel, rfl⟩
theorem d_PS_keepShown_45 : ez_at X_PS_keepShown 45 (.iload_n 3) 1 46 := ⟨by decide +kernel, rfl⟩
theorem d_PS_keepShown_46 : ez_at X_PS_keepShown 46 (.iaload) 1 47 := ⟨by decide +kernel, rfl⟩
theorem d_PS_keepShown_47 : ez_at X_PS_keepShown 47 (.istore_n 3) 1 48 := ⟨by decide +kernel, rfl⟩
theorem d_PS_keepShown_48 : ez_br X_PS_keepShown 48 (.goto (-31)) 3 51 (-31) 17 := ⟨by decide +kernel, rfl, rfl⟩
theorem d_PS_keepShown_51 : ez_at X_PS_keepShown 51 (.return_) 1 52 := ⟨by decide +kernel, rfl⟩
end
section
/-! ===== decoded: MT ===== -/
theorem d_MT_init_0 : ez_at X_MT_init 0 (.aload_n 0) 1 1 := ⟨by decide +kernel, rfl⟩
theorem d_MT_init_1 : ez_at X_MT_init 1 (.invokespecial 3) 3 4 := ⟨by decide +kernel, rfl⟩
theorem d_MT_init_4 : ez_at X_MT_init 4 (.aload_n 0) 1 5 := ⟨by decide +kernel, rfl⟩
theorem d_MT_init_5 : ez_at X_MT_init 5 (.bipush 24) 2 7 := ⟨by decide +kernel, rfl⟩
theorem d_MT_init_7 : ez_at X_MT_init 7 (.newarray .int) 2 9 := ⟨by decide +kernel, rfl⟩
theorem d_MT_init_9 : ez_at X_MT_init 9 (.putfield 9) 3 12 := ⟨by decide +kernel, rfl⟩
theorem d_MT_init_12 : ez_at X_MT_init 12 (.aload_n 0) 1 13 := ⟨by decide +kernel, rfl⟩
theorem d_MT_init_13 : ez_at X_MT_init 13 (.bipush 24) 2 15 := ⟨by decide +kernel, rfl⟩
theorem d_MT_init_15 : ez_at X_MT_init 15 (.newarray .int) 2 17 := ⟨by decide +kernel, rfl⟩
theorem d_MT_init_17 : ez_at X_MT_init 17 (.putfield 15) 3 20 := ⟨by decide +kernel, rfl⟩
theorem d_MT_init_20 : ez_at X_MT_init 20 (.aload_n 0) 1 21 := ⟨by decide +kernel, rfl⟩
theorem d_MT_init_21 : ez_at X_MT_init 21 (.bipush 24) 2 23 := ⟨by decide +kernel, rfl⟩
theorem d_MT_init_23 : ez_at X_MT_init 23 (.newarray .int) 2 25 := ⟨by decide +kernel, rfl⟩
theorem d_MT_init_25 : ez_at X_MT_init 25 (.putfield 18) 3 28 := ⟨by decide +kernel, rfl⟩
theorem d_MT_init_28 : ez_at X_MT_init 28 (.aload_n 0) 1 29 := ⟨by decide +kernel, rfl⟩
theorem d_MT_init_29 : ez_at X_MT_init 29 (.iconst 0) 1 30 := ⟨by decide +kernel, rfl⟩
theorem d_MT_init_30 : ez_at X_MT_init 30 (.putfield 21) 3 33 := ⟨by decide +kernel, rfl⟩
theorem d_MT_init_33 : ez_at X_MT_init 33 (.aload_n 0) 1 34 := ⟨by decide +kernel, rfl⟩
theorem d_MT_init_34 : ez_at X_MT_init 34 (.aload_n 1) 1 35 := ⟨by decide +kernel, rfl⟩
theorem d_MT_init_35 : ez_at X_MT_init 35 (.putfield 25) 3 38 := ⟨by decide +kernel, rfl⟩
theorem d_MT_init_38 : ez_at X_MT_init 38 (.aload_n 0) 1 39 := ⟨by decide +kernel, rfl⟩
theorem d_MT_init_39 : ez_at X_MT_init 39 (.aload_n 2) 1 40 := ⟨by decide +kernel, rfl⟩
theorem d_MT_init_40 : ez_at X_MT_init 40 (.putfield 29) 3 43 := ⟨by decide +kernel, rfl⟩
theorem d_MT_init_43 : ez_at X_MT_init 43 (.return_) 1 44 := ⟨by decide +kernel, rfl⟩
theorem d_MT_matchAll_0 : ez_at X_MT_matchAll 0 (.aload_n 0) 1 1 := ⟨by decide +kernel, rfl⟩
theorem d_MT_matchAll_1 : ez_at X_MT_matchAll 1 (.getfield 9) 3 4 := ⟨by decide +kernel, rfl⟩
theorem d_MT_matchAll_4 : ez_at X_MT_matchAll 4 (.iconst (-1)) 1 5 := ⟨by decide +kernel, rfl⟩
theorem d_MT_matchAll_5 : ez_at X_MT_matchAll 5 (.invokestatic 32) 3 8 := ⟨by decide +kernel, rfl⟩
theorem d_MT_matchAll_8 : ez_at X_MT_matchAll 8 (.aload_n 0) 1 9 := ⟨by decide +kernel, rfl⟩
theorem d_MT_matchAll_9 : ez_at X_MT_matchAll 9 (.getfield 15) 3 12 := ⟨by decide +kernel, rfl⟩
theorem d_MT_matchAll_12 : ez_at X_MT_matchAll 12 (.iconst (-1)) 1 13 := ⟨by decide +kernel, rfl⟩
theorem d_MT_matchAll_13 : ez_at X_MT_matchAll 13 (.invokestatic 32) 3 16 := ⟨by decide +kernel, rfl⟩
theorem d_MT_matchAll_16 : ez_at X_MT_matchAll 16 (.aload_n 0) 1 17 := ⟨by decide +kernel, rfl⟩
theorem d_MT_matchAll_17 : ez_at X_MT_matchAll 17 (.iconst 0) 1 18 := ⟨by decide +kernel, rfl⟩
theorem d_MT_matchAll_18 : ez_at X_MT_matchAll 18 (.putfield 21) 3 21 := ⟨by decide +kernel, rfl⟩
theorem d_MT_matchAll_21 : ez_at X_MT_matchAll 21 (.iconst 0) 1 22 := ⟨by decide +kernel, rfl⟩
theorem d_MT_matchAll_22 : ez_at X_MT_matchAll 22 (.istore_n 1) 1 23 := ⟨by decide +kernel, rfl⟩
theorem d_MT_matchAll_23 : ez_at X_MT_matchAll 23 (.iload_n 1) 1 24 := ⟨by decide +kernel, rfl⟩
theorem d_MT_matchAll_24 : ez_at X_MT_matchAll 24 (.iconst 3) 1 25 := ⟨by decide +kernel, rfl⟩
theorem d_MT_matchAll_25 : ez_br X_MT_matchAll 25 (.if_icmp .ge 34) 3 28 34 59 := ⟨by decide +kernel, rfl, rfl⟩
theorem d_MT_matchAll_28 : ez_at X_MT_matchAll 28 (.aload_n 0) 1 29 := ⟨by decide +kernel, rfl⟩
theorem d_MT_matchAll_29 : ez_at X_MT_matchAll 29 (.aload_n 0) 1 30 := ⟨by decide +kernel, rfl⟩
theorem d_MT_matchAll_30 : ez_at X_MT_matchAll 30 (.getfield 25) 3 33 := ⟨by decide +kernel, rfl⟩
theorem d_MT_matchAll_33 : ez_at X_MT_matchAll 33 (.iload_n 1) 1 34 := ⟨by decide +kernel, rfl⟩
theorem d_MT_matchAll_34 : ez_at X_MT_matchAll 34 (.invokevirtual 38) 3 37 := ⟨by decide +kernel, rfl⟩
theorem d_MT_matchAll_37 : ez_at X_MT_matchAll 37 (.aload_n 0) 1 38 := ⟨by decide +kernel, rfl⟩
theorem d_MT_matchAll_38 : ez_at X_MT_matchAll 38 (.getfield 29) 3 41 := ⟨by decide +kernel, rfl⟩
theorem d_MT_matchAll_41 : ez_at X_MT_matchAll 41 (.iload_n 1) 1 42 := ⟨by decide +kernel, rfl⟩
theorem d_MT_matchAll_42 : ez_at X_MT_matchAll 42 (.invokevirtual 38) 3 45 := ⟨by decide +kernel, rfl⟩
theorem d_MT_matchAll_45 : ez_at X_MT_matchAll 45 (.invokevirtual 44) 3 48 := ⟨by decide +kernel, rfl⟩
theorem d_MT_matchAll_48 : ez_br X_MT_matchAll 48 (.ifCond .ne 5) 3 51 5 53 := ⟨by decide +kernel, rfl, rfl⟩
theorem d_MT_matchAll_51 : ez_at X_MT_matchAll 51 (.iconst 0) 1 52 := ⟨by decide +kernel, rfl⟩
theorem d_MT_matchAll_52 : ez_at X_MT_matchAll 52 (.ireturn) 1 53 := ⟨by decide +kernel, rfl⟩
theorem d_MT_matchAll_53 : ez_at X_MT_matchAll 53 (.iinc 1 1) 3 56 := ⟨by decide +kernel, rfl⟩
theorem d_MT_matchAll_56 : ez_br X_MT_matchAll 56 (.goto (-33)) 3 59 (-33) 23 := ⟨by decide +kernel, rfl, rfl⟩
theorem d_MT_matchAll_59 : ez_at X_MT_matchAll 59 (.iconst 0) 1 60 := ⟨by decide +kernel, rfl⟩
theorem d_MT_matchAll_60 : ez_at X_MT_matchAll 60 (.istore_n 1) 1 61 := ⟨by decide +kernel, rfl⟩
theorem d_MT_matchAll_61 : ez_at X_MT_matchAll 61 (.iload_n 1) 1 62 := ⟨by decide +kernel, rfl⟩
theorem d_MT_matchAll_62 : ez_at X_MT_matchAll 62 (.aload_n 0) 1 63 := ⟨by decide +kernel, rfl⟩
theorem d_MT_matchAll_63 : ez_at X_MT_matchAll 63 (.getfield 21) 3 66 := ⟨by decide +kernel, rfl⟩
theorem d_MT_matchAll_66 : ez_br X_MT_matchAll 66 (.if_icmp .ge 72) 3 69 72 138 := ⟨by decide +kernel, rfl, rfl⟩
theorem d_MT_matchAll_69 : ez_at X_MT_matchAll 69 (.iload_n 1) 1 70 := ⟨by decide +kernel, rfl⟩
theorem d_MT_matchAll_70 : ez_at X_MT_matchAll 70 (.bipush 24) 2 72 := ⟨by decide +kernel, rfl⟩
theorem d_MT_matchAll_72 : ez_br X_MT_matchAll 72 (.if_icmp .ge 66) 3 75 66 138 := ⟨by decide +kernel, rfl, rfl⟩
theorem d_MT_matchAll_75 : ez_at X_MT_matchAll 75 (.aload_n 0) 1 76 := ⟨by decide +kernel, rfl⟩
theorem d_MT_matchAll_76 : ez_at X_MT_matchAll 76 (.getfield 18) 3 79 := ⟨by decide +kernel, rfl⟩
theorem d_MT_matchAll_79 : ez_at X_MT_matchAll 79 (.iload_n 1) 1 80 := ⟨by decide +kernel, rfl⟩
theorem d_MT_matchAll_80 : ez_at X_MT_matchAll 80 (.iaload) 1 81 := ⟨by decide +kernel, rfl⟩
theorem d_MT_matchAll_81 : ez_at X_MT_matchAll 81 (.istore_n 2) 1 82 := ⟨by decide +kernel, rfl⟩
theorem d_MT_matchAll_82 : ez_at X_MT_matchAll 82 (.aload_n 0) 1 83 := ⟨by decide +kernel, rfl⟩
theorem d_MT_matchAll_83 : ez_at X_MT_matchAll 83 (.iload_n 2) 1 84 := ⟨by decide +kernel, rfl⟩
theorem d_MT_matchAll_84 : ez_at X_MT_matchAll 84 (.invokevirtual 48) 3 87 := ⟨by decide +kernel, rfl⟩
theorem d_MT_matchAll_87 : ez_at X_MT_matchAll 87 (.istore_n 3) 1 88 := ⟨by decide +kernel, rfl⟩
theorem d_MT_matchAll_88 : ez_at X_MT_matchAll 88 (.iconst 0) 1 89 := ⟨by decide +kernel, rfl⟩
theorem d_MT_matchAll_89 : ez_at X_MT_matchAll 89 (.istore 4) 2 91 := ⟨by decide +kernel, rfl⟩
theorem d_MT_matchAll_91 : ez_at X_MT_matchAll 91 (.iload 4) 2 93 := ⟨by decide +kernel, rfl⟩
theorem d_MT_matchAll_93 : ez_at X_MT_matchAll 93 (.iconst 2) 1 94 := ⟨by decide +kernel, rfl⟩
theorem d_MT_matchAll_94 : ez_br X_MT_matchAll 94 (.if_icmp .ge 38) 3 97 38 132 := ⟨by decide +kernel, rfl, rfl⟩
theorem d_MT_matchAll_97 : ez_at X_MT_matchAll 97 (.aload_n 0) 1 98 := ⟨by decide +kernel, rfl⟩
theorem d_MT_matchAll_98 : ez_at X_MT_matchAll 98 (.aload_n 0) 1 99 := ⟨by decide +kernel, rfl⟩
theorem d_MT_matchAll_99 : ez_at X_MT_matchAll 99 (.getfield 25) 3 102 := ⟨by decide +kernel, rfl⟩
theorem d_MT_matchAll_102 : ez_at X_MT_matchAll 102 (.iload_n 2) 1 103 := ⟨by decide +kernel, rfl⟩
theorem d_MT_matchAll_103 : ez_at X_MT_matchAll 103 (.iload 4) 2 105 := ⟨by decide +kernel, rfl⟩
theorem d_MT_matchAll_105 : ez_at X_MT_matchAll 105 (.invokevirtual 51) 3 108 := ⟨by decide +kernel, rfl⟩
theorem d_MT_matchAll_108 : ez_at X_MT_matchAll 108 (.aload_n 0) 1 109 := ⟨by decide +kernel, rfl⟩
theorem d_MT_matchAll_109 : ez_at X_MT_matchAll 109 (.getfield 29) 3 112 := ⟨by decide +kernel, rfl⟩
theorem d_MT_matchAll_112 : ez_at X_MT_matchAll 112 (.iload_n 3) 1 113 := ⟨by decide +kernel, rfl⟩
theorem d_MT_matchAll_113 : ez_at X_MT_matchAll 113 (.iload 4) 2 115 := ⟨by decide +kernel, rfl⟩
theorem d_MT_matchAll_115 : ez_at X_MT_matchAll 115 (.invokevirtual 51) 3 118 := ⟨by decide +kernel, rfl⟩
theorem d_MT_matchAll_118 : ez_at X_MT_matchAll 118 (.invokevirtual 44) 3 121 := ⟨by decide +kernel, rfl⟩
theorem d_MT_matchAll_121 : ez_br X_MT_matchAll 121 (.ifCond .ne 5) 3 124 5 126 := ⟨by decide +kernel, rfl, rfl⟩
theorem d_MT_matchAll_124 : ez_at X_MT_matchAll 124 (.iconst 0) 1 125 := ⟨by decide +kernel, rfl⟩
theorem d_MT_matchAll_125 : ez_at X_MT_matchAll 125 (.ireturn) 1 126 := ⟨by decide +kernel, rfl⟩
theorem d_MT_matchAll_126 : ez_at X_MT_matchAll 126 (.iinc 4 1) 3 129 := ⟨by decide +kernel, rfl⟩
theorem d_MT_matchAll_129 : ez_br X_MT_matchAll 129 (.goto (-38)) 3 132 (-38) 91 := ⟨by decide +kernel, rfl, rfl⟩
theorem d_MT_matchAll_132 : ez_at X_MT_matchAll 132 (.iinc 1 1) 3 135 := ⟨by decide +kernel, rfl⟩
theorem d_MT_matchAll_135 : ez_br X_MT_matchAll 135 (.goto (-74)) 3 138 (-74) 61 := ⟨by decide +kernel, rfl, rfl⟩
theorem d_MT_matchAll_138 : ez_at X_MT_matchAll 138 (.iconst 1) 1 139 := ⟨by decide +kernel, rfl⟩
theorem d_MT_matchAll_139 : ez_at X_MT_matchAll 139 (.ireturn) 1 140 := ⟨by decide +kernel, rfl⟩
theorem d_MT_partnerOf_0 : ez_at X_MT_partnerOf 0 (.iload_n 1) 1 1 := ⟨by decide +kernel, rfl⟩
theorem d_MT_partnerOf_1 : ez_at X_MT_partnerOf 1 (.bipush 24) 2 3 := ⟨by decide +kernel, rfl⟩
theorem d_MT_partnerOf_3 : ez_at X_MT_partnerOf 3 (.invokestatic 55) 3 6 := ⟨by decide +kernel, rfl⟩
theorem d_MT_partnerOf_6 : ez_br X_MT_partnerOf 6 (.ifCond .eq 12) 3 9 12 18 := ⟨by decide +kernel, rfl, rfl⟩
theorem d_MT_partnerOf_9 : ez_at X_MT_partnerOf 9 (.aload_n 0) 1 10 := ⟨by decide +kernel, rfl⟩
theorem d_MT_partnerOf_10 : ez_at X_MT_partnerOf 10 (.getfield 9) 3 13 := ⟨by decide +kernel, rfl⟩
theorem d_MT_partnerOf_13 : ez_at X_MT_partnerOf 13 (.iload_n 1) 1 14 := ⟨by decide +kernel, rfl⟩
theorem d_MT_partnerOf_14 : ez_at X_MT_partnerOf 14 (.iaload) 1 15 := ⟨by decide +kernel, rfl⟩
theorem d_MT_partnerOf_15 : ez_br X_MT_partnerOf 15 (.goto 4) 3 18 4 19 := ⟨by decide +kernel, rfl, rfl⟩
theorem d_MT_partnerOf_18 : ez_at X_MT_partnerOf 18 (.iconst (-1)) 1 19 := ⟨by decide +kernel, rfl⟩
theorem d_MT_partnerOf_19 : ez_at X_MT_partnerOf 19 (.ireturn) 1 20 := ⟨by decide +kernel, rfl⟩
theorem d_MT_matchBoth_0 : ez_at X_MT_matchBoth 0 (.iload_n 1) 1 1 := ⟨by decide +kernel, rfl⟩
theorem d_MT_matchBoth_1 : ez_at X_MT_matchBoth 1 (.bipush 24) 2 3 := ⟨by decide +kernel, rfl⟩
theorem d_MT_matchBoth_3 : ez_at X_MT_matchBoth 3 (.invokestatic 55) 3 6 := ⟨by decide +kernel, rfl⟩
theorem d_MT_matchBoth_6 : ez_br X_MT_matchBoth 6 (.ifCond .eq 12) 3 9 12 18 := ⟨by decide +kernel, rfl, rfl⟩
theorem d_MT_matchBoth_9 : ez_at X_MT_matchBoth 9 (.iload_n 2) 1 10 := ⟨by decide +kernel, rfl⟩
theorem d_MT_matchBoth_10 : ez_at X_MT_matchBoth 10 (.bipush 24) 2 12 := ⟨by decide +kernel, rfl⟩
theorem d_MT_matchBoth_12 : ez_at X_MT_matchBoth 12 (.invokestatic 55) 3 15 := ⟨by decide +kernel, rfl⟩
theorem d_MT_matchBoth_15 : ez_br X_MT_matchBoth 15 (.ifCond .ne 14) 3 18 14 29 := ⟨by decide +kernel, rfl, rfl⟩
theorem d_MT_matchBoth_18 : ez_at X_MT_matchBoth 18 (.iload_n 1) 1 19 := ⟨by decide +kernel, rfl⟩
theorem d_MT_matchBoth_19 : ez_at X_MT_matchBoth 19 (.iload_n 2) 1 20 := ⟨by decide +kernel, rfl⟩
theorem d_MT_matchBoth_20 : ez_br X_MT_matchBoth 20 (.if_icmp .ne 7) 3 23 7 27 := ⟨by decide +kernel, rfl, rfl⟩
theorem d_MT_matchBoth_23 : ez_at X_MT_matchBoth 23 (.iconst 1) 1 24 := ⟨by decide +kernel, rfl⟩
theorem d_MT_matchBoth_24 : ez_br X_MT_matchBoth 24 (.goto 4) 3 27 4 28 := ⟨by decide +kernel, rfl, rfl⟩
theorem d_MT_matchBoth_27 : ez_at X_MT_matchBoth 27 (.iconst 0) 1 28 := ⟨by decide +kernel, rfl⟩
theorem d_MT_matchBoth_28 : ez_at X_MT_matchBoth 28 (.ireturn) 1 29 := ⟨by decide +kernel, rfl⟩
theorem d_MT_matchBoth_29 : ez_at X_MT_matchBoth 29 (.aload_n 0) 1 30 := ⟨by decide +kernel, rfl⟩
theorem d_MT_matchBoth_30 : ez_at X_MT_matchBoth 30 (.getfield 9) 3 33 := ⟨by decide +kernel, rfl⟩
theorem d_MT_matchBoth_33 : ez_at X_MT_matchBoth 33 (.iload_n 1) 1 34 := ⟨by decide +kernel, rfl⟩
theorem d_MT_matchBoth_34 : ez_at X_MT_matchBoth 34 (.iaload) 1 35 := ⟨by decide +kernel, rfl⟩
theorem d_MT_matchBoth_35 : ez_at X_MT_matchBoth 35 (.iload_n 2) 1 36 := ⟨by decide +kernel, rfl⟩
theorem d_MT_matchBoth_36 : ez_br X_MT_matchBoth 36 (.if_icmp .ne 5) 3 39 5 41 := ⟨by decide +kernel, rfl, rfl⟩
theorem d_MT_matchBoth_39 : ez_at X_MT_matchBoth 39 (.iconst 1) 1 40 := ⟨by decide +kernel, rfl⟩
theorem d_MT_matchBoth_40 : ez_at X_MT_matchBoth 40 (.ireturn) 1 41 := ⟨by decide +kernel, rfl⟩
theorem d_MT_matchBoth_41 : ez_at X_MT_matchBoth 41 (.aload_n 0) 1 42 := ⟨by decide +kernel, rfl⟩
theorem d_MT_matchBoth_42 : ez_at X_MT_matchBoth 42 (.getfield 9) 3 45 := ⟨by decide +kernel, rfl⟩
theorem d_MT_matchBoth_45 : ez_at X_MT_matchBoth 45 (.iload_n 1) 1 46 := ⟨by decide +kernel, rfl⟩
theorem d_MT_matchBoth_46 : ez_at X_MT_matchBoth 46 (.iaload) 1 47 := ⟨by decide +kernel, rfl⟩
theorem d_MT_matchBoth_47 : ez_at X_MT_matchBoth 47 (.iconst (-1)) 1 48 := ⟨by decide +kernel, rfl⟩
theorem d_MT_matchBoth_48 : ez_br X_MT_matchBoth 48 (.if_icmp .ne 17) 3 51 17 65 := ⟨by decide +kernel, rfl, rfl⟩
theorem d_MT_matchBoth_51 : ez_at X_MT_matchBoth 51 (.aload_n 0) 1 52 := ⟨by decide +kernel, rfl⟩
theorem d_MT_matchBoth_52 : ez_at X_MT_matchBoth 52 (.getfield 15) 3 55 := ⟨by decide +kernel, rfl⟩
theorem d_MT_matchBoth_55 : ez_at X_MT_matchBoth 55 (.iload_n 2) 1 56 := ⟨by decide +kernel, rfl⟩
theorem d_MT_matchBoth_56 : ez_at X_MT_matchBoth 56 (.iaload) 1 57 := ⟨by decide +kernel, rfl⟩
theorem d_MT_matchBoth_57 : ez_at X_MT_matchBoth 57 (.iconst (-1)) 1 58 := ⟨by decide +kernel, rfl⟩
theorem d_MT_matchBoth_58 : ez_br X_MT_matchBoth 58 (.if_icmp .ne 7) 3 61 7 65 := ⟨by decide +kernel, rfl, rfl⟩
theorem d_MT_matchBoth_61 : ez_at X_MT_matchBoth 61 (.iconst 1) 1 62 := ⟨by decide +kernel, rfl⟩
theorem d_MT_matchBoth_62 : ez_br X_MT_matchBoth 62 (.goto 4) 3 65 4 66 := ⟨by decide +kernel, rfl, rfl⟩
theorem d_MT_matchBoth_65 : ez_at X_MT_matchBoth 65 (.iconst 0) 1 66 := ⟨by decide +kernel, rfl⟩
theorem d_MT_matchBoth_66 : ez_at X_MT_matchBoth 66 (.istore_n 3) 1 67 := ⟨by decide +kernel, rfl⟩
theorem d_MT_matchBoth_67 : ez_at X_MT_matchBoth 67 (.iload_n 3) 1 68 := ⟨by decide +kernel, rfl⟩
theorem d_MT_matchBoth_68 : ez_br X_MT_matchBoth 68 (.ifCond .eq 21) 3 71 21 89 := ⟨by decide +kernel, rfl, rfl⟩
theorem d_MT_matchBoth_71 : ez_at X_MT_matchBoth 71 (.aload_n 0) 1 72 := ⟨by decide +kernel, rfl⟩
theorem d_MT_matchBoth_72 : ez_at X_MT_matchBoth 72 (.iload_n 1) 1 73 := ⟨by decide +kernel, rfl⟩
theorem d_MT_matchBoth_73 : ez_at X_MT_matchBoth 73 (.iload_n 2) 1 74 := ⟨by decide +kernel, rfl⟩
theorem d_MT_matchBoth_74 : ez_at X_MT_matchBoth 74 (.invokevirtual 58) 3 77 := ⟨by decide +kernel, rfl⟩
theorem d_MT_matchBoth_77 : ez_br X_MT_matchBoth 77 (.ifCond .eq 12) 3 80 12 89 := ⟨by decide +kernel, rfl, rfl⟩
theorem d_MT_matchBoth_80 : ez_at X_MT_matchBoth 80 (.aload_n 0) 1 81 := ⟨by decide +kernel, rfl⟩
theorem d_MT_matchBoth_81 : ez_at X_MT_matchBoth 81 (.getfield 21) 3 84 := ⟨by decide +kernel, rfl⟩
theorem d_MT_matchBoth_84 : ez_at X_MT_matchBoth 84 (.bipush 24) 2 86 := ⟨by decide +kernel, rfl⟩
theorem d_MT_matchBoth_86 : ez_br X_MT_matchBoth 86 (.if_icmp .lt 5) 3 89 5 91 := ⟨by decide +kernel, rfl, rfl⟩
theorem d_MT_matchBoth_89 : ez_at X_MT_matchBoth 89 (.iconst 0) 1 90 := ⟨by decide +kernel, rfl⟩
theorem d_MT_matchBoth_90 : ez_at X_MT_matchBoth 90 (.ireturn) 1 91 := ⟨by decide +kernel, rfl⟩
theorem d_MT_matchBoth_91 : ez_at X_MT_matchBoth 91 (.aload_n 0) 1 92 := ⟨by decide +kernel, rfl⟩
theorem d_MT_matchBoth_92 : ez_at X_MT_matchBoth 92 (.getfield 9) 3 95 := ⟨by decide +kernel, rfl⟩
theorem d_MT_matchBoth_95 : ez_at X_MT_matchBoth 95 (.iload_n 1) 1 96 := ⟨by decide +kernel, rfl⟩
theorem d_MT_matchBoth_96 : ez_at X_MT_matchBoth 96 (.iload_n 2) 1 97 := ⟨by decide +kernel, rfl⟩
theorem d_MT_matchBoth_97 : ez_at X_MT_matchBoth 97 (.iastore) 1 98 := ⟨by decide +kernel, rfl⟩
theorem d_MT_matchBoth_98 : ez_at X_MT_matchBoth 98 (.aload_n 0) 1 99 := ⟨by decide +kernel, rfl⟩
theorem d_MT_matchBoth_99 : ez_at X_MT_matchBoth 99 (.getfield 15) 3 102 := ⟨by decide +kernel, rfl⟩
theorem d_MT_matchBoth_102 : ez_at X_MT_matchBoth 102 (.iload_n 2) 1 103 := ⟨by decide +kernel, rfl⟩
theorem d_MT_matchBoth_103 : ez_at X_MT_matchBoth 103 (.iload_n 1) 1 104 := ⟨by decide +kernel, rfl⟩
theorem d_MT_matchBoth_104 : ez_at X_MT_matchBoth 104 (.iastore) 1 105 := ⟨by decide +kernel, rfl⟩
theorem d_MT_matchBoth_105 : ez_at X_MT_matchBoth 105 (.aload_n 0) 1 106 := ⟨by decide +kernel, rfl⟩
theorem d_MT_matchBoth_106 : ez_at X_MT_matchBoth 106 (.getfield 18) 3 109 := ⟨by decide +kernel, rfl⟩
theorem d_MT_matchBoth_109 : ez_at X_MT_matchBoth 109 (.aload_n 0) 1 110 := ⟨by decide +kernel, rfl⟩
theorem d_MT_matchBoth_110 : ez_at X_MT_matchBoth 110 (.getfield 21) 3 113 := ⟨by decide +kernel, rfl⟩
theorem d_MT_matchBoth_113 : ez_at X_MT_matchBoth 113 (.iload_n 1) 1 114 := ⟨by decide +kernel, rfl⟩
theorem d_MT_matchBoth_114 : ez_at X_MT_matchBoth 114 (.iastore) 1 115 := ⟨by decide +kernel, rfl⟩
theorem d_MT_matchBoth_115 : ez_at X_MT_matchBoth 115 (.aload_n 0) 1 116 := ⟨by decide +kernel, rfl⟩
theorem d_MT_matchBoth_116 : ez_at X_MT_matchBoth 116 (.dup) 1 117 := ⟨by decide +kernel, rfl⟩
theorem d_MT_matchBoth_117 : ez_at X_MT_matchBoth 117 (.getfield 21) 3 120 := ⟨by decide +kernel, rfl⟩
theorem d_MT_matchBoth_120 : ez_at X_MT_matchBoth 120 (.iconst 1) 1 121 := ⟨by decide +kernel, rfl⟩
theorem d_MT_matchBoth_121 : ez_at X_MT_matchBoth 121 (.iadd) 1 122 := ⟨by decide +kernel, rfl⟩
theorem d_MT_matchBoth_122 : ez_at X_MT_matchBoth 122 (.putfield 21) 3 125 := ⟨by decide +kernel, rfl⟩
theorem d_MT_matchBoth_125 : ez_at X_MT_matchBoth 125 (.iconst 1) 1 126 := ⟨by decide +kernel, rfl⟩
theorem d_MT_matchBoth_126 : ez_at X_MT_matchBoth 126 (.ireturn) 1 127 := ⟨by decide +kernel, rfl⟩
theorem d_MT_areOfOneSort_0 : ez_at X_MT_areOfOneSort 0 (.aload_n 0) 1 1 := ⟨by decide +kernel, rfl⟩
theorem d_MT_areOfOneSort_1 : ez_at X_MT_areOfOneSort 1 (.getfield 25) 3 4 := ⟨by decide +kernel, rfl⟩
theorem d_MT_areOfOneSort_4 : ez_at X_MT_areOfOneSort 4 (.iload_n 1) 1 5 := ⟨by decide +kernel, rfl⟩
theorem d_MT_areOfOneSort_5 : ez_at X_MT_areOfOneSort 5 (.invokevirtual 61) 3 8 := ⟨by decide +kernel, rfl⟩
theorem d_MT_areOfOneSort_8 : ez_at X_MT_areOfOneSort 8 (.istore_n 3) 1 9 := ⟨by decide +kernel, rfl⟩
theorem d_MT_areOfOneSort_9 : ez_at X_MT_areOfOneSort 9 (.iload_n 3) 1 10 := ⟨by decide +kernel, rfl⟩
theorem d_MT_areOfOneSort_10 : ez_br X_MT_areOfOneSort 10 (.ifCond .eq 8) 3 13 8 18 := ⟨by decide +kernel, rfl, rfl⟩
theorem d_MT_areOfOneSort_13 : ez_at X_MT_areOfOneSort 13 (.iload_n 3) 1 14 := ⟨by decide +kernel, rfl⟩
theorem d_MT_areOfOneSort_14 : ez_at X_MT_areOfOneSort 14 (.iconst 1) 1 15 := ⟨by decide +kernel, rfl⟩
theorem d_MT_areOfOneSort_15 : ez_br X_MT_areOfOneSort 15 (.if_icmp .ne 7) 3 18 7 22 := ⟨by decide +kernel, rfl, rfl⟩
theorem d_MT_areOfOneSort_18 : ez_at X_MT_areOfOneSort 18 (.iconst 1) 1 19 := ⟨by decide +kernel, rfl⟩
theorem d_MT_areOfOneSort_19 : ez_br X_MT_areOfOneSort 19 (.goto 4) 3 22 4 23 := ⟨by decide +kernel, rfl, rfl⟩
theorem d_MT_areOfOneSort_22 : ez_at X_MT_areOfOneSort 22 (.iconst 0) 1 23 := ⟨by decide +kernel, rfl⟩
theorem d_MT_areOfOneSort_23 : ez_at X_MT_areOfOneSort 23 (.istore 4) 2 25 := ⟨by decide +kernel, rfl⟩
theorem d_MT_areOfOneSort_25 : ez_at X_MT_areOfOneSort 25 (.iload_n 3) 1 26 := ⟨by decide +kernel, rfl⟩
theorem d_MT_areOfOneSort_26 : ez_at X_MT_areOfOneSort 26 (.aload_n 0) 1 27 := ⟨by decide +kernel, rfl⟩
theorem d_MT_areOfOneSort_27 : ez_at X_MT_areOfOneSort 27 (.getfield 29) 3 30 := ⟨by decide +kernel, rfl⟩
theorem d_MT_areOfOneSort_30 : ez_at X_MT_areOfOneSort 30 (.iload_n 2) 1 31 := ⟨by decide +kernel, rfl⟩
theorem d_MT_areOfOneSort_31 : ez_at X_MT_areOfOneSort 31 (.invokevirtual 61) 3 34 := ⟨by decide +kernel, rfl⟩
theorem d_MT_areOfOneSort_34 : ez_br X_MT_areOfOneSort 34 (.if_icmp .ne 31) 3 37 31 65 := ⟨by decide +kernel, rfl, rfl⟩
theorem d_MT_areOfOneSort_37 : ez_at X_MT_areOfOneSort 37 (.iload 4) 2 39 := ⟨by decide +kernel, rfl⟩
theorem d_MT_areOfOneSort_39 : ez_br X_MT_areOfOneSort 39 (.ifCond .eq 22) 3 42 22 61 := ⟨by decide +kernel, rfl, rfl⟩
theorem d_MT_areOfOneSort_42 : ez_at X_MT_areOfOneSort 42 (.aload_n 0) 1 43 := ⟨by decide +kernel, rfl⟩
theorem d_MT_areOfOneSort_43 : ez_at X_MT_areOfOneSort 43 (.getfield 25) 3 46 := ⟨by decide +kernel, rfl⟩
theorem d_MT_areOfOneSort_46 : ez_at X_MT_areOfOneSort 46 (.iload_n 1) 1 47 := ⟨by decide +kernel, rfl⟩
theorem d_MT_areOfOneSort_47 : ez_at X_MT_areOfOneSort 47 (.invokevirtual 64) 3 50 := ⟨by decide +kernel, rfl⟩
theorem d_MT_areOfOneSort_50 : ez_at X_MT_areOfOneSort 50 (.aload_n 0) 1 51 := ⟨by decide +kernel, rfl⟩
theorem d_MT_areOfOneSort_51 : ez_at X_MT_areOfOneSort 51 (.getfield 29) 3 54 := ⟨by decide +kernel, rfl⟩
theorem d_MT_areOfOneSort_54 : ez_at X_MT_areOfOneSort 54 (.iload_n 2) 1 55 := ⟨by decide +kernel, rfl⟩
theorem d_MT_areOfOneSort_55 : ez_at X_MT_areOfOneSort 55 (.invokevirtual 64) 3 58 := ⟨by decide +kernel, rfl⟩
theorem d_MT_areOfOneSort_58 : ez_br X_MT_areOfOneSort 58 (.if_icmp .ne 7) 3 61 7 65 := ⟨by decide +kernel, rfl, rfl⟩
theorem d_MT_areOfOneSort_61 : ez_at X_MT_areOfOneSort 61 (.iconst 1) 1 62 := ⟨by decide +kernel, rfl⟩
theorem d_MT_areOfOneSort_62 : ez_br X_MT_areOfOneSort 62 (.goto 4) 3 65 4 66 := ⟨by decide +kernel, rfl, rfl⟩
theorem d_MT_areOfOneSort_65 : ez_at X_MT_areOfOneSort 65 (.iconst 0) 1 66 := ⟨by decide +kernel, rfl⟩
theorem d_MT_areOfOneSort_66 : ez_at X_MT_areOfOneSort 66 (.ireturn) 1 67 := ⟨by decide +kernel, rfl⟩
end
section
/-! ===== decoded: EE ===== -/
theorem d_EE_init_0 : ez_at X_EE_init 0 (.aload_n 0) 1 1 := ⟨by decide +kernel, rfl⟩
theorem d_EE_init_1 : ez_at X_EE_init 1 (.invokespecial 1) 3 4 := ⟨by decide +kernel, rfl⟩
theorem d_EE_init_4 : ez_at X_EE_init 4 (.aload_n 0) 1 5 := ⟨by decide +kernel, rfl⟩
theorem d_EE_init_5 : ez_at X_EE_init 5 (.iconst 1) 1 6 := ⟨by decide +kernel, rfl⟩
theorem d_EE_init_6 : ez_at X_EE_init 6 (.iconst 4) 1 7 := ⟨by decide +kernel, rfl⟩
theorem d_EE_init_7 : ez_at X_EE_init 7 (.iload_n 1) 1 8 := ⟨by decide +kernel, rfl⟩
theorem d_EE_init_8 : ez_at X_EE_init 8 (.invokestatic 9) 3 11 := ⟨by decide +kernel, rfl⟩
theorem d_EE_init_11 : ez_at X_EE_init 11 (.invokestatic 15) 3 14 := ⟨by decide +kernel, rfl⟩
theorem d_EE_init_14 : ez_at X_EE_init 14 (.putfield 18) 3 17 := ⟨by decide +kernel, rfl⟩
theorem d_EE_init_17 : ez_at X_EE_init 17 (.aload_n 0) 1 18 := ⟨by decide +kernel, rfl⟩
theorem d_EE_init_18 : ez_at X_EE_init 18 (.iconst 1) 1 19 := ⟨by decide +kernel, rfl⟩
theorem d_EE_init_19 : ez_at X_EE_init 19 (.aload_n 0) 1 20 := ⟨by decide +kernel, rfl⟩
theorem d_EE_init_20 : ez_at X_EE_init 20 (.getfield 18) 3 23 := ⟨by decide +kernel, rfl⟩
theorem d_EE_init_23 : ez_at X_EE_init 23 (.ishl) 1 24 := ⟨by decide +kernel, rfl⟩
theorem d_EE_init_24 : ez_at X_EE_init 24 (.putfield 22) 3 27 := ⟨by decide +kernel, rfl⟩
theorem d_EE_init_27 : ez_at X_EE_init 27 (.aload_n 0) 1 28 := ⟨by decide +kernel, rfl⟩
theorem d_EE_init_28 : ez_at X_EE_init 28 (.new 25) 3 31 := ⟨by decide +kernel, rfl⟩
theorem d_EE_init_31 : ez_at X_EE_init 31 (.dup) 1 32 := ⟨by decide +kernel, rfl⟩
theorem d_EE_init_32 : ez_at X_EE_init 32 (.invokespecial 27) 3 35 := ⟨by decide +kernel, rfl⟩
theorem d_EE_init_35 : ez_at X_EE_init 35 (.putfield 28) 3 38 := ⟨by decide +kernel, rfl⟩
theorem d_EE_init_38 : ez_at X_EE_init 38 (.aload_n 0) 1 39 := ⟨by decide +kernel, rfl⟩
theorem d_EE_init_39 : ez_at X_EE_init 39 (.new 25) 3 42 := ⟨by decide +kernel, rfl⟩
theorem d_EE_init_42 : ez_at X_EE_init 42 (.dup) 1 43 := ⟨by decide +kernel, rfl⟩
theorem d_EE_init_43 : ez_at X_EE_init 43 (.invokespecial 27) 3 46 := ⟨by decide +kernel, rfl⟩
theorem d_EE_init_46 : ez_at X_EE_init 46 (.putfield 32) 3 49 := ⟨by decide +kernel, rfl⟩
theorem d_EE_init_49 : ez_at X_EE_init 49 (.aload_n 0) 1 50 := ⟨by decide +kernel, rfl⟩
theorem d_EE_init_50 : ez_at X_EE_init 50 (.new 35) 3 53 := ⟨by decide +kernel, rfl⟩
theorem d_EE_init_53 : ez_at X_EE_init 53 (.dup) 1 54 := ⟨by decide +kernel, rfl⟩
theorem d_EE_init_54 : ez_at X_EE_init 54 (.aload_n 0) 1 55 := ⟨by decide +kernel, rfl⟩
theorem d_EE_init_55 : ez_at X_EE_init 55 (.getfield 28) 3 58 := ⟨by decide +kernel, rfl⟩
theorem d_EE_init_58 : ez_at X_EE_init 58 (.invokespecial 37) 3 61 := ⟨by decide +kernel, rfl⟩
theorem d_EE_init_61 : ez_at X_EE_init 61 (.putfield 40) 3 64 := ⟨by decide +kernel, rfl⟩
theorem d_EE_init_64 : ez_at X_EE_init 64 (.aload_n 0) 1 65 := ⟨by decide +kernel, rfl⟩
theorem d_EE_init_65 : ez_at X_EE_init 65 (.new 35) 3 68 := ⟨by decide +kernel, rfl⟩
theorem d_EE_init_68 : ez_at X_EE_init 68 (.dup) 1 69 := ⟨by decide +kernel, rfl⟩
theorem d_EE_init_69 : ez_at X_EE_init 69 (.aload_n 0) 1 70 := ⟨by decide +kernel, rfl⟩
theorem d_EE_init_70 : ez_at X_EE_init 70 (.getfield 32) 3 73 := ⟨by decide +kernel, rfl⟩
theorem d_EE_init_73 : ez_at X_EE_init 73 (.invokespecial 37) 3 76 := ⟨by decide +kernel, rfl⟩
theorem d_EE_init_76 : ez_at X_EE_init 76 (.putfield 44) 3 79 := ⟨by decide +kernel, rfl⟩
theorem d_EE_init_79 : ez_at X_EE_init 79 (.aload_n 0) 1 80 := ⟨by decide +kernel, rfl⟩
theorem d_EE_init_80 : ez_at X_EE_init 80 (.new 47) 3 83 := ⟨by decide +kernel, rfl⟩
theorem d_EE_init_83 : ez_at X_EE_init 83 (.dup) 1 84 := ⟨by decide +kernel, rfl⟩
theorem d_EE_init_84 : ez_at X_EE_init 84 (.aload_n 0) 1 85 := ⟨by decide +kernel, rfl⟩
theorem d_EE_init_85 : ez_at X_EE_init 85 (.getfield 40) 3 88 := ⟨by decide +kernel, rfl⟩
theorem d_EE_init_88 : ez_at X_EE_init 88 (.aload_n 0) 1 89 := ⟨by decide +kernel, rfl⟩
theorem d_EE_init_89 : ez_at X_EE_init 89 (.getfield 44) 3 92 := ⟨by decide +kernel, rfl⟩
theorem d_EE_init_92 : ez_at X_EE_init 92 (.invokespecial 49) 3 95 := ⟨by decide +kernel, rfl⟩
theorem d_EE_init_95 : ez_at X_EE_init 95 (.putfield 52) 3 98 := ⟨by decide +kernel, rfl⟩
theorem d_EE_init_98 : ez_at X_EE_init 98 (.aload_n 0) 1 99 := ⟨by decide +kernel, rfl⟩
theorem d_EE_init_99 : ez_at X_EE_init 99 (.new 56) 3 102 := ⟨by decide +kernel, rfl⟩
theorem d_EE_init_102 : ez_at X_EE_init 102 (.dup) 1 103 := ⟨by decide +kernel, rfl⟩
theorem d_EE_init_103 : ez_at X_EE_init 103 (.aload_n 0) 1 104 := ⟨by decide +kernel, rfl⟩
theorem d_EE_init_104 : ez_at X_EE_init 104 (.getfield 28) 3 107 := ⟨by decide +kernel, rfl⟩
theorem d_EE_init_107 : ez_at X_EE_init 107 (.aload_n 0) 1 108 := ⟨by decide +kernel, rfl⟩
theorem d_EE_init_108 : ez_at X_EE_init 108 (.getfield 32) 3 111 := ⟨by decide +kernel, rfl⟩
theorem d_EE_init_111 : ez_at X_EE_init 111 (.invokespecial 58) 3 114 := ⟨by decide +kernel, rfl⟩
theorem d_EE_init_114 : ez_at X_EE_init 114 (.putfield 61) 3 117 := ⟨by decide +kernel, rfl⟩
theorem d_EE_init_117 : ez_at X_EE_init 117 (.aload_n 0) 1 118 := ⟨by decide +kernel, rfl⟩
theorem d_EE_init_118 : ez_at X_EE_init 118 (.iconst 0) 1 119 := ⟨by decide +kernel, rfl⟩
theorem d_EE_init_119 : ez_at X_EE_init 119 (.putfield 65) 3 122 := ⟨by decide +kernel, rfl⟩
theorem d_EE_init_122 : ez_at X_EE_init 122 (.return_) 1 123 := ⟨by decide +kernel, rfl⟩
theorem d_EE_block_0 : ez_at X_EE_block 0 (.aload_n 0) 1 1 := ⟨by decide +kernel, rfl⟩
theorem d_EE_block_1 : ez_at X_EE_block 1 (.iload_n 1) 1 2 := ⟨by decide +kernel, rfl⟩
theorem d_EE_block_2 : ez_at X_EE_block 2 (.invokevirtual 68) 3 5 := ⟨by decide +kernel, rfl⟩
theorem d_EE_block_5 : ez_at X_EE_block 5 (.astore 4) 2 7 := ⟨by decide +kernel, rfl⟩
theorem d_EE_block_7 : ez_at X_EE_block 7 (.iload_n 2) 1 8 := ⟨by decide +kernel, rfl⟩
theorem d_EE_block_8 : ez_at X_EE_block 8 (.bipush 7) 2 10 := ⟨by decide +kernel, rfl⟩
theorem d_EE_block_10 : ez_at X_EE_block 10 (.invokestatic 72) 3 13 := ⟨by decide +kernel, rfl⟩
theorem d_EE_block_13 : ez_br X_EE_block 13 (.ifCond .eq 12) 3 16 12 25 := ⟨by decide +kernel, rfl, rfl⟩
theorem d_EE_block_16 : ez_at X_EE_block 16 (.aload_n 0) 1 17 := ⟨by decide +kernel, rfl⟩
theorem d_EE_block_17 : ez_at X_EE_block 17 (.iload_n 2) 1 18 := ⟨by decide +kernel, rfl⟩
theorem d_EE_block_18 : ez_at X_EE_block 18 (.iload_n 3) 1 19 := ⟨by decide +kernel, rfl⟩
theorem d_EE_block_19 : ez_at X_EE_block 19 (.invokevirtual 76) 3 22 := ⟨by decide +kernel, rfl⟩
theorem d_EE_block_22 : ez_br X_EE_block 22 (.ifCond .ne 13) 3 25 13 35 := ⟨by decide +kernel, rfl, rfl⟩
theorem d_EE_block_25 : ez_at X_EE_block 25 (.new 79) 3 28 := ⟨by decide +kernel, rfl⟩
theorem d_EE_block_28 : ez_at X_EE_block 28 (.dup) 1 29 := ⟨by decide +kernel, rfl⟩
theorem d_EE_block_29 : ez_at X_EE_block 29 (.ldc 81) 2 31 := ⟨by decide +kernel, rfl⟩
theorem d_EE_block_31 : ez_at X_EE_block 31 (.invokespecial 83) 3 34 := ⟨by decide +kernel, rfl⟩
theorem d_EE_block_34 : ez_at X_EE_block 34 (.athrow) 1 35 := ⟨by decide +kernel, rfl⟩
theorem d_EE_block_35 : ez_at X_EE_block 35 (.aload 4) 2 37 := ⟨by decide +kernel, rfl⟩
theorem d_EE_block_37 : ez_at X_EE_block 37 (.iload_n 2) 1 38 := ⟨by decide +kernel, rfl⟩
theorem d_EE_block_38 : ez_at X_EE_block 38 (.invokevirtual 86) 3 41 := ⟨by decide +kernel, rfl⟩
theorem d_EE_block_41 : ez_br X_EE_block 41 (.ifCond .ne 13) 3 44 13 54 := ⟨by decide +kernel, rfl, rfl⟩
theorem d_EE_block_44 : ez_at X_EE_block 44 (.new 90) 3 47 := ⟨by decide +kernel, rfl⟩
theorem d_EE_block_47 : ez_at X_EE_block 47 (.dup) 1 48 := ⟨by decide +kernel, rfl⟩
theorem d_EE_block_48 : ez_at X_EE_block 48 (.ldc 92) 2 50 := ⟨by decide +kernel, rfl⟩
theorem d_EE_block_50 : ez_at X_EE_block 50 (.invokespecial 94) 3 53 := ⟨by decide +kernel, rfl⟩
theorem d_EE_block_53 : ez_at X_EE_block 53 (.athrow) 1 54 := ⟨by decide +kernel, rfl⟩
theorem d_EE_block_54 : ez_at X_EE_block 54 (.aload_n 0) 1 55 := ⟨by decide +kernel, rfl⟩
theorem d_EE_block_55 : ez_at X_EE_block 55 (.invokevirtual 95) 3 58 := ⟨by decide +kernel, rfl⟩
theorem d_EE_block_58 : ez_at X_EE_block 58 (.aload 4) 2 60 := ⟨by decide +kernel, rfl⟩
theorem d_EE_block_60 : ez_at X_EE_block 60 (.iload_n 2) 1 61 := ⟨by decide +kernel, rfl⟩
theorem d_EE_block_61 : ez_at X_EE_block 61 (.iload_n 3) 1 62 := ⟨by decide +kernel, rfl⟩
theorem d_EE_block_62 : ez_at X_EE_block 62 (.invokevirtual 98) 3 65 := ⟨by decide +kernel, rfl⟩
theorem d_EE_block_65 : ez_at X_EE_block 65 (.ireturn) 1 66 := ⟨by decide +kernel, rfl⟩
theorem d_EE_wire_0 : ez_at X_EE_wire 0 (.aload_n 0) 1 1 := ⟨by decide +kernel, rfl⟩
theorem d_EE_wire_1 : ez_at X_EE_wire 1 (.iload_n 1) 1 2 := ⟨by decide +kernel, rfl⟩
theorem d_EE_wire_2 : ez_at X_EE_wire 2 (.invokevirtual 68) 3 5 := ⟨by decide +kernel, rfl⟩
theorem d_EE_wire_5 : ez_at X_EE_wire 5 (.astore 5) 2 7 := ⟨by decide +kernel, rfl⟩
theorem d_EE_wire_7 : ez_at X_EE_wire 7 (.aload 5) 2 9 := ⟨by decide +kernel, rfl⟩
theorem d_EE_wire_9 : ez_at X_EE_wire 9 (.iload_n 2) 1 10 := ⟨by decide +kernel, rfl⟩
theorem d_EE_wire_10 : ez_at X_EE_wire 10 (.invokevirtual 101) 3 13 := ⟨by decide +kernel, rfl⟩
theorem d_EE_wire_13 : ez_br X_EE_wire 13 (.ifCond .eq 21) 3 16 21 34 := ⟨by decide +kernel, rfl, rfl⟩
theorem d_EE_wire_16 : ez_at X_EE_wire 16 (.iload_n 3) 1 17 := ⟨by decide +kernel, rfl⟩
theorem d_EE_wire_17 : ez_at X_EE_wire 17 (.iconst 2) 1 18 := ⟨by decide +kernel, rfl⟩
theorem d_EE_wire_18 : ez_at X_EE_wire 18 (.invokestatic 72) 3 21 := ⟨by decide +kernel, rfl⟩
theorem d_EE_wire_21 : ez_br X_EE_wire 21 (.ifCond .eq 13) 3 24 13 34 := ⟨by decide +kernel, rfl, rfl⟩
theorem d_EE_wire_24 : ez_at X_EE_wire 24 (.aload 5) 2 26 := ⟨by decide +kernel, rfl⟩
theorem d_EE_wire_26 : ez_at X_EE_wire 26 (.iload 4) 2 28 := ⟨by decide +kernel, rfl⟩
theorem d_EE_wire_28 : ez_at X_EE_wire 28 (.invokevirtual 104) 3 31 := ⟨by decide +kernel, rfl⟩
theorem d_EE_wire_31 : ez_br X_EE_wire 31 (.ifCond .ne 13) 3 34 13 44 := ⟨by decide +kernel, rfl, rfl⟩
theorem d_EE_wire_34 : ez_at X_EE_wire 34 (.new 79) 3 37 := ⟨by decide +kernel, rfl⟩
theorem d_EE_wire_37 : ez_at X_EE_wire 37 (.dup) 1 38 := ⟨by decide +kernel, rfl⟩
theorem d_EE_wire_38 : ez_at X_EE_wire 38 (.ldc 107) 2 40 := ⟨by decide +kernel, rfl⟩
theorem d_EE_wire_40 : ez_at X_EE_wire 40 (.invokespecial 83) 3 43 := ⟨by decide +kernel, rfl⟩
theorem d_EE_wire_43 : ez_at X_EE_wire 43 (.athrow) 1 44 := ⟨by decide +kernel, rfl⟩
theorem d_EE_wire_44 : ez_at X_EE_wire 44 (.aload_n 0) 1 45 := ⟨by decide +kernel, rfl⟩
theorem d_EE_wire_45 : ez_at X_EE_wire 45 (.invokevirtual 95) 3 48 := ⟨by decide +kernel, rfl⟩
theorem d_EE_wire_48 : ez_at X_EE_wire 48 (.aload 5) 2 50 := ⟨by decide +kernel, rfl⟩
theorem d_EE_wire_50 : ez_at X_EE_wire 50 (.iload_n 2) 1 51 := ⟨by decide +kernel, rfl⟩
theorem d_EE_wire_51 : ez_at X_EE_wire 51 (.iload_n 3) 1 52 := ⟨by decide +kernel, rfl⟩
theorem d_EE_wire_52 : ez_at X_EE_wire 52 (.iload 4) 2 54 := ⟨by decide +kernel, rfl⟩
theorem d_EE_wire_54 : ez_at X_EE_wire 54 (.invokevirtual 109) 3 57 := ⟨by decide +kernel, rfl⟩
theorem d_EE_wire_57 : ez_at X_EE_wire 57 (.ireturn) 1 58 := ⟨by decide +kernel, rfl⟩
theorem d_EE_out_0 : ez_at X_EE_out 0 (.aload_n 0) 1 1 := ⟨by decide +kernel, rfl⟩
theorem d_EE_out_1 : ez_at X_EE_out 1 (.iload_n 1) 1 2 := ⟨by decide +kernel, rfl⟩
theorem d_EE_out_2 : ez_at X_EE_out 2 (.invokevirtual 68) 3 5 := ⟨by decide +kernel, rfl⟩
theorem d_EE_out_5 : ez_at X_EE_out 5 (.astore 4) 2 7 := ⟨by decide +kernel, rfl⟩
theorem d_EE_out_7 : ez_at X_EE_out 7 (.iload_n 2) 1 8 := ⟨by decide +kernel, rfl⟩
theorem d_EE_out_8 : ez_at X_EE_out 8 (.iconst 3) 1 9 := ⟨by decide +kernel, rfl⟩
theorem d_EE_out_9 : ez_at X_EE_out 9 (.invokestatic 72) 3 12 := ⟨by decide +kernel, rfl⟩
theorem d_EE_out_12 : ez_br X_EE_out 12 (.ifCond .eq 12) 3 15 12 24 := ⟨by decide +kernel, rfl, rfl⟩
theorem d_EE_out_15 : ez_at X_EE_out 15 (.aload 4) 2 17 := ⟨by decide +kernel, rfl⟩
theorem d_EE_out_17 : ez_at X_EE_out 17 (.iload_n 3) 1 18 := ⟨by decide +kernel, rfl⟩
theorem d_EE_out_18 : ez_at X_EE_out 18 (.invokevirtual 104) 3 21 := ⟨by decide +kernel, rfl⟩
theorem d_EE_out_21 : ez_br X_EE_out 21 (.ifCond .ne 13) 3 24 13 34 := ⟨by decide +kernel, rfl, rfl⟩
theorem d_EE_out_24 : ez_at X_EE_out 24 (.new 79) 3 27 := ⟨by decide +kernel, rfl⟩
theorem d_EE_out_27 : ez_at X_EE_out 27 (.dup) 1 28 := ⟨by decide +kernel, rfl⟩
theorem d_EE_out_28 : ez_at X_EE_out 28 (.ldc 113) 2 30 := ⟨by decide +kernel, rfl⟩
theorem d_EE_out_30 : ez_at X_EE_out 30 (.invokespecial 83) 3 33 := ⟨by decide +kernel, rfl⟩
theorem d_EE_out_33 : ez_at X_EE_out 33 (.athrow) 1 34 := ⟨by decide +kernel, rfl⟩
theorem d_EE_out_34 : ez_at X_EE_out 34 (.aload_n 0) 1 35 := ⟨by decide +kernel, rfl⟩
theorem d_EE_out_35 : ez_at X_EE_out 35 (.invokevirtual 95) 3 38 := ⟨by decide +kernel, rfl⟩
theorem d_EE_out_38 : ez_at X_EE_out 38 (.aload 4) 2 40 := ⟨by decide +kernel, rfl⟩
theorem d_EE_out_40 : ez_at X_EE_out 40 (.iload_n 2) 1 41 := ⟨by decide +kernel, rfl⟩
theorem d_EE_out_41 : ez_at X_EE_out 41 (.iload_n 3) 1 42 := ⟨by decide +kernel, rfl⟩
theorem d_EE_out_42 : ez_at X_EE_out 42 (.invokevirtual 115) 3 45 := ⟨by decide +kernel, rfl⟩
theorem d_EE_out_45 : ez_at X_EE_out 45 (.ireturn) 1 46 := ⟨by decide +kernel, rfl⟩
theorem d_EE_bar_0 : ez_at X_EE_bar 0 (.aload_n 0) 1 1 := ⟨by decide +kernel, rfl⟩
theorem d_EE_bar_1 : ez_at X_EE_bar 1 (.iload_n 1) 1 2 := ⟨by decide +kernel, rfl⟩
theorem d_EE_bar_2 : ez_at X_EE_bar 2 (.invokevirtual 118) 3 5 := ⟨by decide +kernel, rfl⟩
theorem d_EE_bar_5 : ez_at X_EE_bar 5 (.aload_n 0) 1 6 := ⟨by decide +kernel, rfl⟩
theorem d_EE_bar_6 : ez_at X_EE_bar 6 (.invokevirtual 95) 3 9 := ⟨by decide +kernel, rfl⟩
theorem d_EE_bar_9 : ez_at X_EE_bar 9 (.iconst 1) 1 10 := ⟨by decide +kernel, rfl⟩
theorem d_EE_bar_10 : ez_at X_EE_bar 10 (.iload_n 1) 1 11 := ⟨by decide +kernel, rfl⟩
theorem d_EE_bar_11 : ez_at X_EE_bar 11 (.ishl) 1 12 := ⟨by decide +kernel, rfl⟩
theorem d_EE_bar_12 : ez_at X_EE_bar 12 (.istore_n 3) 1 13 := ⟨by decide +kernel, rfl⟩
theorem d_EE_bar_13 : ez_at X_EE_bar 13 (.aload_n 0) 1 14 := ⟨by decide +kernel, rfl⟩
theorem d_EE_bar_14 : ez_at X_EE_bar 14 (.getfield 65) 3 17 := ⟨by decide +kernel, rfl⟩
theorem d_EE_bar_17 : ez_at X_EE_bar 17 (.iload_n 3) 1 18 := ⟨by decide +kernel, rfl⟩
theorem d_EE_bar_18 : ez_at X_EE_bar 18 (.iand) 1 19 := ⟨by decide +kernel, rfl⟩
theorem d_EE_bar_19 : ez_br X_EE_bar 19 (.ifCond .eq 7) 3 22 7 26 := ⟨by decide +kernel, rfl, rfl⟩
theorem d_EE_bar_22 : ez_at X_EE_bar 22 (.iconst 1) 1 23 := ⟨by decide +kernel, rfl⟩
theorem d_EE_bar_23 : ez_br X_EE_bar 23 (.goto 4) 3 26 4 27 := ⟨by decide +kernel, rfl, rfl⟩
theorem d_EE_bar_26 : ez_at X_EE_bar 26 (.iconst 0) 1 27 := ⟨by decide +kernel, rfl⟩
theorem d_EE_bar_27 : ez_at X_EE_bar 27 (.istore 4) 2 29 := ⟨by decide +kernel, rfl⟩
theorem d_EE_bar_29 : ez_at X_EE_bar 29 (.aload_n 0) 1 30 := ⟨by decide +kernel, rfl⟩
theorem d_EE_bar_30 : ez_at X_EE_bar 30 (.iload_n 2) 1 31 := ⟨by decide +kernel, rfl⟩
theorem d_EE_bar_31 : ez_br X_EE_bar 31 (.ifCond .eq 12) 3 34 12 43 := ⟨by decide +kernel, rfl, rfl⟩
theorem d_EE_bar_34 : ez_at X_EE_bar 34 (.aload_n 0) 1 35 := ⟨by decide +kernel, rfl⟩
theorem d_EE_bar_35 : ez_at X_EE_bar 35 (.getfield 65) 3 38 := ⟨by decide +kernel, rfl⟩
theorem d_EE_bar_38 : ez_at X_EE_bar 38 (.iload_n 3) 1 39 := ⟨by decide +kernel, rfl⟩
theorem d_EE_bar_39 : ez_at X_EE_bar 39 (.ior) 1 40 := ⟨by decide +kernel, rfl⟩
theorem d_EE_bar_40 : ez_br X_EE_bar 40 (.goto 11) 3 43 11 51 := ⟨by decide +kernel, rfl, rfl⟩
theorem d_EE_bar_43 : ez_at X_EE_bar 43 (.aload_n 0) 1 44 := ⟨by decide +kernel, rfl⟩
theorem d_EE_bar_44 : ez_at X_EE_bar 44 (.getfield 65) 3 47 := ⟨by decide +kernel, rfl⟩
theorem d_EE_bar_47 : ez_at X_EE_bar 47 (.iload_n 3) 1 48 := ⟨by decide +kernel, rfl⟩
theorem d_EE_bar_48 : ez_at X_EE_bar 48 (.iconst (-1)) 1 49 := ⟨by decide +kernel, rfl⟩
theorem d_EE_bar_49 : ez_at X_EE_bar 49 (.ixor) 1 50 := ⟨by decide +kernel, rfl⟩
theorem d_EE_bar_50 : ez_at X_EE_bar 50 (.iand) 1 51 := ⟨by decide +kernel, rfl⟩
theorem d_EE_bar_51 : ez_at X_EE_bar 51 (.putfield 65) 3 54 := ⟨by decide +kernel, rfl⟩
theorem d_EE_bar_54 : ez_at X_EE_bar 54 (.iload 4) 2 56 := ⟨by decide +kernel, rfl⟩
theorem d_EE_bar_56 : ez_at X_EE_bar 56 (.ireturn) 1 57 := ⟨by decide +kernel, rfl⟩
theorem d_EE_wrong_0 : ez_at X_EE_wrong 0 (.aload_n 0) 1 1 := ⟨by decide +kernel, rfl⟩
theorem d_EE_wrong_1 : ez_at X_EE_wrong 1 (.iload_n 1) 1 2 := ⟨by decide +kernel, rfl⟩
theorem d_EE_wrong_2 : ez_at X_EE_wrong 2 (.invokevirtual 68) 3 5 := ⟨by decide +kernel, rfl⟩
theorem d_EE_wrong_5 : ez_at X_EE_wrong 5 (.invokevirtual 122) 3 8 := ⟨by decide +kernel, rfl⟩
theorem d_EE_wrong_8 : ez_at X_EE_wrong 8 (.ireturn) 1 9 := ⟨by decide +kernel, rfl⟩
theorem d_EE_value_0 : ez_at X_EE_value 0 (.aload_n 0) 1 1 := ⟨by decide +kernel, rfl⟩
theorem d_EE_value_1 : ez_at X_EE_value 1 (.iload_n 1) 1 2 := ⟨by decide +kernel, rfl⟩
theorem d_EE_value_2 : ez_at X_EE_value 2 (.invokevirtual 68) 3 5 := ⟨by decide +kernel, rfl⟩
theorem d_EE_value_5 : ez_at X_EE_value 5 (.iload_n 2) 1 6 := ⟨by decide +kernel, rfl⟩
theorem d_EE_value_6 : ez_at X_EE_value 6 (.invokestatic 126) 3 9 := ⟨by decide +kernel, rfl⟩
theorem d_EE_value_9 : ez_at X_EE_value 9 (.aload_n 0) 1 10 := ⟨by decide +kernel, rfl⟩
theorem d_EE_value_10 : ez_at X_EE_value 10 (.iload 4) 2 12 := ⟨by decide +kernel, rfl⟩
theorem d_EE_value_12 : ez_at X_EE_value 12 (.invokevirtual 118) 3 15 := ⟨by decide +kernel, rfl⟩
theorem d_EE_value_15 : ez_at X_EE_value 15 (.aload_n 0) 1 16 := ⟨by decide +kernel, rfl⟩
theorem d_EE_value_16 : ez_at X_EE_value 16 (.iload_n 1) 1 17 := ⟨by decide +kernel, rfl⟩
theorem d_EE_value_17 : ez_at X_EE_value 17 (.invokevirtual 130) 3 20 := ⟨by decide +kernel, rfl⟩
theorem d_EE_value_20 : ez_at X_EE_value 20 (.iload_n 2) 1 21 := ⟨by decide +kernel, rfl⟩
theorem d_EE_value_21 : ez_at X_EE_value 21 (.iload_n 3) 1 22 := ⟨by decide +kernel, rfl⟩
theorem d_EE_value_22 : ez_at X_EE_value 22 (.iload 4) 2 24 := ⟨by decide +kernel, rfl⟩
theorem d_EE_value_24 : ez_at X_EE_value 24 (.invokevirtual 134) 3 27 := ⟨by decide +kernel, rfl⟩
theorem d_EE_value_27 : ez_at X_EE_value 27 (.ireturn) 1 28 := ⟨by decide +kernel, rfl⟩
theorem d_EE_tick_0 : ez_at X_EE_tick 0 (.aload_n 0) 1 1 := ⟨by decide +kernel, rfl⟩
theorem d_EE_tick_1 : ez_at X_EE_tick 1 (.iload_n 3) 1 2 := ⟨by decide +kernel, rfl⟩
theorem d_EE_tick_2 : ez_at X_EE_tick 2 (.invokevirtual 118) 3 5 := ⟨by decide +kernel, rfl⟩
theorem d_EE_tick_5 : ez_at X_EE_tick 5 (.aload_n 0) 1 6 := ⟨by decide +kernel, rfl⟩
theorem d_EE_tick_6 : ez_at X_EE_tick 6 (.iload_n 1) 1 7 := ⟨by decide +kernel, rfl⟩
theorem d_EE_tick_7 : ez_at X_EE_tick 7 (.invokevirtual 130) 3 10 := ⟨by decide +kernel, rfl⟩
theorem d_EE_tick_10 : ez_at X_EE_tick 10 (.astore 4) 2 12 := ⟨by decide +kernel, rfl⟩
theorem d_EE_tick_12 : ez_at X_EE_tick 12 (.aload 4) 2 14 := ⟨by decide +kernel, rfl⟩
theorem d_EE_tick_14 : ez_at X_EE_tick 14 (.iload_n 2) 1 15 := ⟨by decide +kernel, rfl⟩
theorem d_EE_tick_15 : ez_at X_EE_tick 15 (.iload_n 3) 1 16 := ⟨by decide +kernel, rfl⟩
theorem d_EE_tick_16 : ez_at X_EE_tick 16 (.invokevirtual 137) 3 19 := ⟨by decide +kernel, rfl⟩
theorem d_EE_tick_19 : ez_at X_EE_tick 19 (.bipush 8) 2 21 := ⟨by decide +kernel, rfl⟩
theorem d_EE_tick_21 : ez_at X_EE_tick 21 (.aload 4) 2 23 := ⟨by decide +kernel, rfl⟩
theorem d_EE_tick_23 : ez_at X_EE_tick 23 (.iload_n 2) 1 24 := ⟨by decide +kernel, rfl⟩
theorem d_EE_tick_24 : ez_at X_EE_tick 24 (.iload_n 3) 1 25 := ⟨by decide +kernel, rfl⟩
theorem d_EE_tick_25 : ez_at X_EE_tick 25 (.invokevirtual 140) 3 28 := ⟨by decide +kernel, rfl⟩
theorem d_EE_tick_28 : ez_at X_EE_tick 28 (.imul) 1 29 := ⟨by decide +kernel, rfl⟩
theorem d_EE_tick_29 : ez_at X_EE_tick 29 (.iadd) 1 30 := ⟨by decide +kernel, rfl⟩
theorem d_EE_tick_30 : ez_at X_EE_tick 30 (.ireturn) 1 31 := ⟨by decide +kernel, rfl⟩
theorem d_EE_reached_0 : ez_at X_EE_reached 0 (.aload_n 0) 1 1 := ⟨by decide +kernel, rfl⟩
theorem d_EE_reached_1 : ez_at X_EE_reached 1 (.iload_n 1) 1 2 := ⟨by decide +kernel, rfl⟩
theorem d_EE_reached_2 : ez_at X_EE_reached 2 (.invokevirtual 130) 3 5 := ⟨by decide +kernel, rfl⟩
theorem d_EE_reached_5 : ez_at X_EE_reached 5 (.invokevirtual 143) 3 8 := ⟨by decide +kernel, rfl⟩
theorem d_EE_reached_8 : ez_at X_EE_reached 8 (.ireturn) 1 9 := ⟨by decide +kernel, rfl⟩
theorem d_EE_state_0 : ez_at X_EE_state 0 (.iload_n 2) 1 1 := ⟨by decide +kernel, rfl⟩
theorem d_EE_state_1 : ez_br X_EE_state 1 (.ifCond .ge 13) 3 4 13 14 := ⟨by decide +kernel, rfl, rfl⟩
theorem d_EE_state_4 : ez_at X_EE_state 4 (.new 79) 3 7 := ⟨by decide +kernel, rfl⟩
theorem d_EE_state_7 : ez_at X_EE_state 7 (.dup) 1 8 := ⟨by decide +kernel, rfl⟩
theorem d_EE_state_8 : ez_at X_EE_state 8 (.ldc 146) 2 10 := ⟨by decide +kernel, rfl⟩
theorem d_EE_state_10 : ez_at X_EE_state 10 (.invokespecial 83) 3 13 := ⟨by decide +kernel, rfl⟩
theorem d_EE_state_13 : ez_at X_EE_state 13 (.athrow) 1 14 := ⟨by decide +kernel, rfl⟩
theorem d_EE_state_14 : ez_at X_EE_state 14 (.aload_n 0) 1 15 := ⟨by decide +kernel, rfl⟩
theorem d_EE_state_15 : ez_at X_EE_state 15 (.iload_n 1) 1 16 := ⟨by decide +kernel, rfl⟩
theorem d_EE_state_16 : ez_at X_EE_state 16 (.invokevirtual 130) 3 19 := ⟨by decide +kernel, rfl⟩
theorem d_EE_state_19 : ez_at X_EE_state 19 (.iload_n 2) 1 20 := ⟨by decide +kernel, rfl⟩
theorem d_EE_state_20 : ez_at X_EE_state 20 (.invokevirtual 148) 3 23 := ⟨by decide +kernel, rfl⟩
theorem d_EE_state_23 : ez_at X_EE_state 23 (.ireturn) 1 24 := ⟨by decide +kernel, rfl⟩
theorem d_EE_least_0 : ez_at X_EE_least 0 (.aload_n 0) 1 1 := ⟨by decide +kernel, rfl⟩
theorem d_EE_least_1 : ez_at X_EE_least 1 (.iload_n 1) 1 2 := ⟨by decide +kernel, rfl⟩
theorem d_EE_least_2 : ez_at X_EE_least 2 (.invokevirtual 130) 3 5 := ⟨by decide +kernel, rfl⟩
theorem d_EE_least_5 : ez_at X_EE_least 5 (.aload_n 0) 1 6 := ⟨by decide +kernel, rfl⟩
theorem d_EE_least_6 : ez_at X_EE_least 6 (.invokevirtual 152) 3 9 := ⟨by decide +kernel, rfl⟩
theorem d_EE_least_9 : ez_at X_EE_least 9 (.invokevirtual 155) 3 12 := ⟨by decide +kernel, rfl⟩
theorem d_EE_least_12 : ez_at X_EE_least 12 (.ireturn) 1 13 := ⟨by decide +kernel, rfl⟩
theorem d_EE_compare_0 : ez_at X_EE_compare 0 (.aload_n 0) 1 1 := ⟨by decide +kernel, rfl⟩
theorem d_EE_compare_1 : ez_at X_EE_compare 1 (.invokevirtual 158) 3 4 := ⟨by decide +kernel, rfl⟩
theorem d_EE_compare_4 : ez_at X_EE_compare 4 (.invokevirtual 162) 3 7 := ⟨by decide +kernel, rfl⟩
theorem d_EE_compare_7 : ez_at X_EE_compare 7 (.ireturn) 1 8 := ⟨by decide +kernel, rfl⟩
theorem d_EE_shown_0 : ez_at X_EE_shown 0 (.iload_n 1) 1 1 := ⟨by decide +kernel, rfl⟩
theorem d_EE_shown_1 : ez_br X_EE_shown 1 (.ifCond .ge 13) 3 4 13 14 := ⟨by decide +kernel, rfl, rfl⟩
theorem d_EE_shown_4 : ez_at X_EE_shown 4 (.new 79) 3 7 := ⟨by decide +kernel, rfl⟩
theorem d_EE_shown_7 : ez_at X_EE_shown 7 (.dup) 1 8 := ⟨by decide +kernel, rfl⟩
theorem d_EE_shown_8 : ez_at X_EE_shown 8 (.ldc 165) 2 10 := ⟨by decide +kernel, rfl⟩
theorem d_EE_shown_10 : ez_at X_EE_shown 10 (.invokespecial 83) 3 13 := ⟨by decide +kernel, rfl⟩
theorem d_EE_shown_13 : ez_at X_EE_shown 13 (.athrow) 1 14 := ⟨by decide +kernel, rfl⟩
theorem d_EE_shown_14 : ez_at X_EE_shown 14 (.aload_n 0) 1 15 := ⟨by decide +kernel, rfl⟩
theorem d_EE_shown_15 : ez_at X_EE_shown 15 (.invokevirtual 158) 3 18 := ⟨by decide +kernel, rfl⟩
theorem d_EE_shown_18 : ez_at X_EE_shown 18 (.astore_n 2) 1 19 := ⟨by decide +kernel, rfl⟩
theorem d_EE_shown_19 : ez_at X_EE_shown 19 (.iload_n 1) 1 20 := ⟨by decide +kernel, rfl⟩
theorem d_EE_shown_20 : ez_at X_EE_shown 20 (.aload_n 2) 1 21 := ⟨by decide +kernel, rfl⟩
theorem d_EE_shown_21 : ez_at X_EE_shown 21 (.invokevirtual 162) 3 24 := ⟨by decide +kernel, rfl⟩
theorem d_EE_shown_24 : ez_br X_EE_shown 24 (.if_icmp .lt 13) 3 27 13 37 := ⟨by decide +kernel, rfl, rfl⟩
theorem d_EE_shown_27 : ez_at X_EE_shown 27 (.new 79) 3 30 := ⟨by decide +kernel, rfl⟩
theorem d_EE_shown_30 : ez_at X_EE_shown 30 (.dup) 1 31 := ⟨by decide +kernel, rfl⟩
theorem d_EE_shown_31 : ez_at X_EE_shown 31 (.ldc 167) 2 33 := ⟨by decide +kernel, rfl⟩
theorem d_EE_shown_33 : ez_at X_EE_shown 33 (.invokespecial 83) 3 36 := ⟨by decide +kernel, rfl⟩
theorem d_EE_shown_36 : ez_at X_EE_shown 36 (.athrow) 1 37 := ⟨by decide +kernel, rfl⟩
theorem d_EE_shown_37 : ez_at X_EE_shown 37 (.aload_n 2) 1 38 := ⟨by decide +kernel, rfl⟩
theorem d_EE_shown_38 : ez_at X_EE_shown 38 (.iload_n 1) 1 39 := ⟨by decide +kernel, rfl⟩
theorem d_EE_shown_39 : ez_at X_EE_shown 39 (.invokevirtual 169) 3 42 := ⟨by decide +kernel, rfl⟩
theorem d_EE_shown_42 : ez_at X_EE_shown 42 (.ireturn) 1 43 := ⟨by decide +kernel, rfl⟩
theorem d_EE_last_0 : ez_at X_EE_last 0 (.iload_n 1) 1 1 := ⟨by decide +kernel, rfl⟩
theorem d_EE_last_1 : ez_at X_EE_last 1 (.invokestatic 172) 3 4 := ⟨by decide +kernel, rfl⟩
theorem d_EE_last_4 : ez_at X_EE_last 4 (.aload_n 0) 1 5 := ⟨by decide +kernel, rfl⟩
theorem d_EE_last_5 : ez_at X_EE_last 5 (.invokevirtual 158) 3 8 := ⟨by decide +kernel, rfl⟩
theorem d_EE_last_8 : ez_at X_EE_last 8 (.iload_n 1) 1 9 := ⟨by decide +kernel, rfl⟩
theorem d_EE_last_9 : ez_at X_EE_last 9 (.invokevirtual 175) 3 12 := ⟨by decide +kernel, rfl⟩
theorem d_EE_last_12 : ez_at X_EE_last 12 (.ireturn) 1 13 := ⟨by decide +kernel, rfl⟩
theorem d_EE_pairs_0 : ez_at X_EE_pairs 0 (.aload_n 0) 1 1 := ⟨by decide +kernel, rfl⟩
theorem d_EE_pairs_1 : ez_at X_EE_pairs 1 (.invokevirtual 158) 3 4 := ⟨by decide +kernel, rfl⟩
theorem d_EE_pairs_4 : ez_at X_EE_pairs 4 (.invokevirtual 178) 3 7 := ⟨by decide +kernel, rfl⟩
theorem d_EE_pairs_7 : ez_at X_EE_pairs 7 (.ireturn) 1 8 := ⟨by decide +kernel, rfl⟩
theorem d_EE_same_0 : ez_at X_EE_same 0 (.aload_n 0) 1 1 := ⟨by decide +kernel, rfl⟩
theorem d_EE_same_1 : ez_at X_EE_same 1 (.invokevirtual 181) 3 4 := ⟨by decide +kernel, rfl⟩
theorem d_EE_same_4 : ez_at X_EE_same 4 (.aload_n 0) 1 5 := ⟨by decide +kernel, rfl⟩
theorem d_EE_same_5 : ez_at X_EE_same 5 (.getfield 61) 3 8 := ⟨by decide +kernel, rfl⟩
theorem d_EE_same_8 : ez_at X_EE_same 8 (.invokevirtual 184) 3 11 := ⟨by decide +kernel, rfl⟩
theorem d_EE_same_11 : ez_at X_EE_same 11 (.ireturn) 1 12 := ⟨by decide +kernel, rfl⟩
theorem d_EE_matched_0 : ez_at X_EE_matched 0 (.aload_n 0) 1 1 := ⟨by decide +kernel, rfl⟩
theorem d_EE_matched_1 : ez_at X_EE_matched 1 (.getfield 28) 3 4 := ⟨by decide +kernel, rfl⟩
theorem d_EE_matched_4 : ez_at X_EE_matched 4 (.iload_n 1) 1 5 := ⟨by decide +kernel, rfl⟩
theorem d_EE_matched_5 : ez_at X_EE_matched 5 (.invokestatic 126) 3 8 := ⟨by decide +kernel, rfl⟩
theorem d_EE_matched_8 : ez_at X_EE_matched 8 (.aload_n 0) 1 9 := ⟨by decide +kernel, rfl⟩
theorem d_EE_matched_9 : ez_at X_EE_matched 9 (.invokevirtual 181) 3 12 := ⟨by decide +kernel, rfl⟩
theorem d_EE_matched_12 : ez_at X_EE_matched 12 (.aload_n 0) 1 13 := ⟨by decide +kernel, rfl⟩
theorem d_EE_matched_13 : ez_at X_EE_matched 13 (.getfield 61) 3 16 := ⟨by decide +kernel, rfl⟩
theorem d_EE_matched_16 : ez_at X_EE_matched 16 (.invokevirtual 184) 3 19 := ⟨by decide +kernel, rfl⟩
theorem d_EE_matched_19 : ez_br X_EE_matched 19 (.ifCond .eq 14) 3 22 14 33 := ⟨by decide +kernel, rfl, rfl⟩
theorem d_EE_matched_22 : ez_at X_EE_matched 22 (.aload_n 0) 1 23 := ⟨by decide +kernel, rfl⟩
theorem d_EE_matched_23 : ez_at X_EE_matched 23 (.getfield 61) 3 26 := ⟨by decide +kernel, rfl⟩
theorem d_EE_matched_26 : ez_at X_EE_matched 26 (.iload_n 1) 1 27 := ⟨by decide +kernel, rfl⟩
theorem d_EE_matched_27 : ez_at X_EE_matched 27 (.invokevirtual 188) 3 30 := ⟨by decide +kernel, rfl⟩
theorem d_EE_matched_30 : ez_br X_EE_matched 30 (.goto 4) 3 33 4 34 := ⟨by decide +kernel, rfl, rfl⟩
theorem d_EE_matched_33 : ez_at X_EE_matched 33 (.iconst (-1)) 1 34 := ⟨by decide +kernel, rfl⟩
theorem d_EE_matched_34 : ez_at X_EE_matched 34 (.ireturn) 1 35 := ⟨by decide +kernel, rfl⟩
theorem d_EE_idle_0 : ez_at X_EE_idle 0 (.aload_n 0) 1 1 := ⟨by decide +kernel, rfl⟩
theorem d_EE_idle_1 : ez_at X_EE_idle 1 (.iload_n 1) 1 2 := ⟨by decide +kernel, rfl⟩
theorem d_EE_idle_2 : ez_at X_EE_idle 2 (.invokevirtual 68) 3 5 := ⟨by decide +kernel, rfl⟩
theorem d_EE_idle_5 : ez_at X_EE_idle 5 (.astore_n 3) 1 6 := ⟨by decide +kernel, rfl⟩
theorem d_EE_idle_6 : ez_at X_EE_idle 6 (.iload_n 2) 1 7 := ⟨by decide +kernel, rfl⟩
theorem d_EE_idle_7 : ez_br X_EE_idle 7 (.ifCond .ge 13) 3 10 13 20 := ⟨by decide +kernel, rfl, rfl⟩
theorem d_EE_idle_10 : ez_at X_EE_idle 10 (.new 79) 3 13 := ⟨by decide +kernel, rfl⟩
theorem d_EE_idle_13 : ez_at X_EE_idle 13 (.dup) 1 14 := ⟨by decide +kernel, rfl⟩
theorem d_EE_idle_14 : ez_at X_EE_idle 14 (.ldc 191) 2 16 := ⟨by decide +kernel, rfl⟩
theorem d_EE_idle_16 : ez_at X_EE_idle 16 (.invokespecial 83) 3 19 := ⟨by decide +kernel, rfl⟩
theorem d_EE_idle_19 : ez_at X_EE_idle 19 (.athrow) 1 20 := ⟨by decide +kernel, rfl⟩
theorem d_EE_idle_20 : ez_at X_EE_idle 20 (.aload_n 3) 1 21 := ⟨by decide +kernel, rfl⟩
theorem d_EE_idle_21 : ez_at X_EE_idle 21 (.iload_n 2) 1 22 := ⟨by decide +kernel, rfl⟩
theorem d_EE_idle_22 : ez_at X_EE_idle 22 (.invokevirtual 193) 3 25 := ⟨by decide +kernel, rfl⟩
theorem d_EE_idle_25 : ez_at X_EE_idle 25 (.ireturn) 1 26 := ⟨by decide +kernel, rfl⟩
theorem d_EE_blocks_0 : ez_at X_EE_blocks 0 (.aload_n 0) 1 1 := ⟨by decide +kernel, rfl⟩
theorem d_EE_blocks_1 : ez_at X_EE_blocks 1 (.iload_n 1) 1 2 := ⟨by decide +kernel, rfl⟩
theorem d_EE_blocks_2 : ez_at X_EE_blocks 2 (.invokevirtual 68) 3 5 := ⟨by decide +kernel, rfl⟩
theorem d_EE_blocks_5 : ez_at X_EE_blocks 5 (.invokevirtual 196) 3 8 := ⟨by decide +kernel, rfl⟩
theorem d_EE_blocks_8 : ez_at X_EE_blocks 8 (.ireturn) 1 9 := ⟨by decide +kernel, rfl⟩
theorem d_EE_editionOf_0 : ez_at X_EE_editionOf 0 (.iload_n 1) 1 1 := ⟨by decide +kernel, rfl⟩
theorem d_EE_editionOf_1 : ez_at X_EE_editionOf 1 (.invokestatic 172) 3 4 := ⟨by decide +kernel, rfl⟩
theorem d_EE_editionOf_4 : ez_at X_EE_editionOf 4 (.iload_n 1) 1 5 := ⟨by decide +kernel, rfl⟩
theorem d_EE_editionOf_5 : ez_br X_EE_editionOf 5 (.ifCond .ne 10) 3 8 10 15 := ⟨by decide +kernel, rfl, rfl⟩
theorem d_EE_editionOf_8 : ez_at X_EE_editionOf 8 (.aload_n 0) 1 9 := ⟨by decide +kernel, rfl⟩
theorem d_EE_editionOf_9 : ez_at X_EE_editionOf 9 (.getfield 28) 3 12 := ⟨by decide +kernel, rfl⟩
theorem d_EE_editionOf_12 : ez_br X_EE_editionOf 12 (.goto 7) 3 15 7 19 := ⟨by decide +kernel, rfl, rfl⟩
theorem d_EE_editionOf_15 : ez_at X_EE_editionOf 15 (.aload_n 0) 1 16 := ⟨by decide +kernel, rfl⟩
theorem d_EE_editionOf_16 : ez_at X_EE_editionOf 16 (.getfield 32) 3 19 := ⟨by decide +kernel, rfl⟩
theorem d_EE_editionOf_19 : ez_at X_EE_editionOf 19 (.areturn) 1 20 := ⟨by decide +kernel, rfl⟩
theorem d_EE_behaviourOf_0 : ez_at X_EE_behaviourOf 0 (.aload_n 0) 1 1 := ⟨by decide +kernel, rfl⟩
theorem d_EE_behaviourOf_1 : ez_at X_EE_behaviourOf 1 (.iload_n 1) 1 2 := ⟨by decide +kernel, rfl⟩
theorem d_EE_behaviourOf_2 : ez_at X_EE_behaviourOf 2 (.invokevirtual 68) 3 5 := ⟨by decide +kernel, rfl⟩
theorem d_EE_behaviourOf_5 : ez_at X_EE_behaviourOf 5 (.invokevirtual 122) 3 8 := ⟨by decide +kernel, rfl⟩
theorem d_EE_behaviourOf_8 : ez_at X_EE_behaviourOf 8 (.iconst (-1)) 1 9 := ⟨by decide +kernel, rfl⟩
theorem d_EE_behaviourOf_9 : ez_br X_EE_behaviourOf 9 (.if_icmp .eq 13) 3 12 13 22 := ⟨by decide +kernel, rfl, rfl⟩
theorem d_EE_behaviourOf_12 : ez_at X_EE_behaviourOf 12 (.new 90) 3 15 := ⟨by decide +kernel, rfl⟩
theorem d_EE_behaviourOf_15 : ez_at X_EE_behaviourOf 15 (.dup) 1 16 := ⟨by decide +kernel, rfl⟩
theorem d_EE_behaviourOf_16 : ez_at X_EE_behaviourOf 16 (.ldc 199) 2 18 := ⟨by decide +kernel, rfl⟩
theorem d_EE_behaviourOf_18 : ez_at X_EE_behaviourOf 18 (.invokespecial 94) 3 21 := ⟨by decide +kernel, rfl⟩
theorem d_EE_behaviourOf_21 : ez_at X_EE_behaviourOf 21 (.athrow) 1 22 := ⟨by decide +kernel, rfl⟩
theorem d_EE_behaviourOf_22 : ez_at X_EE_behaviourOf 22 (.iload_n 1) 1 23 := ⟨by decide +kernel, rfl⟩
theorem d_EE_behaviourOf_23 : ez_br X_EE_behaviourOf 23 (.ifCond .ne 10) 3 26 10 33 := ⟨by decide +kernel, rfl, rfl⟩
theorem d_EE_behaviourOf_26 : ez_at X_EE_behaviourOf 26 (.aload_n 0) 1 27 := ⟨by decide +kernel, rfl⟩
theorem d_EE_behaviourOf_27 : ez_at X_EE_behaviourOf 27 (.getfield 40) 3 30 := ⟨by decide +kernel, rfl⟩
theorem d_EE_behaviourOf_30 : ez_br X_EE_behaviourOf 30 (.goto 7) 3 33 7 37 := ⟨by decide +kernel, rfl, rfl⟩
theorem d_EE_behaviourOf_33 : ez_at X_EE_behaviourOf 33 (.aload_n 0) 1 34 := ⟨by decide +kernel, rfl⟩
theorem d_EE_behaviourOf_34 : ez_at X_EE_behaviourOf 34 (.getfield 44) 3 37 := ⟨by decide +kernel, rfl⟩
theorem d_EE_behaviourOf_37 : ez_at X_EE_behaviourOf 37 (.astore_n 2) 1 38 := ⟨by decide +kernel, rfl⟩
theorem d_EE_behaviourOf_38 : ez_at X_EE_behaviourOf 38 (.aload_n 2) 1 39 := ⟨by decide +kernel, rfl⟩
theorem d_EE_behaviourOf_39 : ez_at X_EE_behaviourOf 39 (.aload_n 0) 1 40 := ⟨by decide +kernel, rfl⟩
theorem d_EE_behaviourOf_40 : ez_at X_EE_behaviourOf 40 (.getfield 22) 3 43 := ⟨by decide +kernel, rfl⟩
theorem d_EE_behaviourOf_43 : ez_at X_EE_behaviourOf 43 (.aload_n 0) 1 44 := ⟨by decide +kernel, rfl⟩
theorem d_EE_behaviourOf_44 : ez_at X_EE_behaviourOf 44 (.invokevirtual 152) 3 47 := ⟨by decide +kernel, rfl⟩
theorem d_EE_behaviourOf_47 : ez_at X_EE_behaviourOf 47 (.invokevirtual 201) 3 50 := ⟨by decide +kernel, rfl⟩
theorem d_EE_behaviourOf_50 : ez_at X_EE_behaviourOf 50 (.aload_n 2) 1 51 := ⟨by decide +kernel, rfl⟩
theorem d_EE_behaviourOf_51 : ez_at X_EE_behaviourOf 51 (.areturn) 1 52 := ⟨by decide +kernel, rfl⟩
theorem d_EE_searchOfBoth_0 : ez_at X_EE_searchOfBoth 0 (.aload_n 0) 1 1 := ⟨by decide +kernel, rfl⟩
theorem d_EE_searchOfBoth_1 : ez_at X_EE_searchOfBoth 1 (.invokevirtual 181) 3 4 := ⟨by decide +kernel, rfl⟩
theorem d_EE_searchOfBoth_4 : ez_at X_EE_searchOfBoth 4 (.aload_n 0) 1 5 := ⟨by decide +kernel, rfl⟩
theorem d_EE_searchOfBoth_5 : ez_at X_EE_searchOfBoth 5 (.getfield 40) 3 8 := ⟨by decide +kernel, rfl⟩
theorem d_EE_searchOfBoth_8 : ez_at X_EE_searchOfBoth 8 (.aload_n 0) 1 9 := ⟨by decide +kernel, rfl⟩
theorem d_EE_searchOfBoth_9 : ez_at X_EE_searchOfBoth 9 (.getfield 22) 3 12 := ⟨by decide +kernel, rfl⟩
theorem d_EE_searchOfBoth_12 : ez_at X_EE_searchOfBoth 12 (.aload_n 0) 1 13 := ⟨by decide +kernel, rfl⟩
theorem d_EE_searchOfBoth_13 : ez_at X_EE_searchOfBoth 13 (.invokevirtual 152) 3 16 := ⟨by decide +kernel, rfl⟩
theorem d_EE_searchOfBoth_16 : ez_at X_EE_searchOfBoth 16 (.invokevirtual 201) 3 19 := ⟨by decide +kernel, rfl⟩
theorem d_EE_searchOfBoth_19 : ez_at X_EE_searchOfBoth 19 (.aload_n 0) 1 20 := ⟨by decide +kernel, rfl⟩
theorem d_EE_searchOfBoth_20 : ez_at X_EE_searchOfBoth 20 (.getfield 44) 3 23 := ⟨by decide +kernel, rfl⟩
theorem d_EE_searchOfBoth_23 : ez_at X_EE_searchOfBoth 23 (.aload_n 0) 1 24 := ⟨by decide +kernel, rfl⟩
theorem d_EE_searchOfBoth_24 : ez_at X_EE_searchOfBoth 24 (.getfield 22) 3 27 := ⟨by decide +kernel, rfl⟩
theorem d_EE_searchOfBoth_27 : ez_at X_EE_searchOfBoth 27 (.aload_n 0) 1 28 := ⟨by decide +kernel, rfl⟩
theorem d_EE_searchOfBoth_28 : ez_at X_EE_searchOfBoth 28 (.invokevirtual 152) 3 31 := ⟨by decide +kernel, rfl⟩
theorem d_EE_searchOfBoth_31 : ez_at X_EE_searchOfBoth 31 (.invokevirtual 201) 3 34 := ⟨by decide +kernel, rfl⟩
theorem d_EE_searchOfBoth_34 : ez_at X_EE_searchOfBoth 34 (.aload_n 0) 1 35 := ⟨by decide +kernel, rfl⟩
theorem d_EE_searchOfBoth_35 : ez_at X_EE_searchOfBoth 35 (.getfield 52) 3 38 := ⟨by decide +kernel, rfl⟩
theorem d_EE_searchOfBoth_38 : ez_at X_EE_searchOfBoth 38 (.aload_n 0) 1 39 := ⟨by decide +kernel, rfl⟩
theorem d_EE_searchOfBoth_39 : ez_at X_EE_searchOfBoth 39 (.invokevirtual 152) 3 42 := ⟨by decide +kernel, rfl⟩
theorem d_EE_searchOfBoth_42 : ez_at X_EE_searchOfBoth 42 (.invokevirtual 205) 3 45 := ⟨by decide +kernel, rfl⟩
theorem d_EE_searchOfBoth_45 : ez_at X_EE_searchOfBoth 45 (.aload_n 0) 1 46 := ⟨by decide +kernel, rfl⟩
theorem d_EE_searchOfBoth_46 : ez_at X_EE_searchOfBoth 46 (.getfield 52) 3 49 := ⟨by decide +kernel, rfl⟩
theorem d_EE_searchOfBoth_49 : ez_at X_EE_searchOfBoth 49 (.areturn) 1 50 := ⟨by decide +kernel, rfl⟩
theorem d_EE_forgetAnswers_0 : ez_at X_EE_forgetAnswers 0 (.aload_n 0) 1 1 := ⟨by decide +kernel, rfl⟩
theorem d_EE_forgetAnswers_1 : ez_at X_EE_forgetAnswers 1 (.getfield 40) 3 4 := ⟨by decide +kernel, rfl⟩
theorem d_EE_forgetAnswers_4 : ez_at X_EE_forgetAnswers 4 (.invokevirtual 207) 3 7 := ⟨by decide +kernel, rfl⟩
theorem d_EE_forgetAnswers_7 : ez_at X_EE_forgetAnswers 7 (.aload_n 0) 1 8 := ⟨by decide +kernel, rfl⟩
theorem d_EE_forgetAnswers_8 : ez_at X_EE_forgetAnswers 8 (.getfield 44) 3 11 := ⟨by decide +kernel, rfl⟩
theorem d_EE_forgetAnswers_11 : ez_at X_EE_forgetAnswers 11 (.invokevirtual 207) 3 14 := ⟨by decide +kernel, rfl⟩
theorem d_EE_forgetAnswers_14 : ez_at X_EE_forgetAnswers 14 (.aload_n 0) 1 15 := ⟨by decide +kernel, rfl⟩
theorem d_EE_forgetAnswers_15 : ez_at X_EE_forgetAnswers 15 (.getfield 52) 3 18 := ⟨by decide +kernel, rfl⟩
theorem d_EE_forgetAnswers_18 : ez_at X_EE_forgetAnswers 18 (.invokevirtual 210) 3 21 := ⟨by decide +kernel, rfl⟩
theorem d_EE_forgetAnswers_21 : ez_at X_EE_forgetAnswers 21 (.return_) 1 22 := ⟨by decide +kernel, rfl⟩
theorem d_EE_openRows_0 : ez_at X_EE_openRows 0 (.iconst 1) 1 1 := ⟨by decide +kernel, rfl⟩
theorem d_EE_openRows_1 : ez_at X_EE_openRows 1 (.aload_n 0) 1 2 := ⟨by decide +kernel, rfl⟩
theorem d_EE_openRows_2 : ez_at X_EE_openRows 2 (.getfield 22) 3 5 := ⟨by decide +kernel, rfl⟩
theorem d_EE_openRows_5 : ez_at X_EE_openRows 5 (.ishl) 1 6 := ⟨by decide +kernel, rfl⟩
theorem d_EE_openRows_6 : ez_at X_EE_openRows 6 (.iconst 1) 1 7 := ⟨by decide +kernel, rfl⟩
theorem d_EE_openRows_7 : ez_at X_EE_openRows 7 (.isub) 1 8 := ⟨by decide +kernel, rfl⟩
theorem d_EE_openRows_8 : ez_at X_EE_openRows 8 (.aload_n 0) 1 9 := ⟨by decide +kernel, rfl⟩
theorem d_EE_openRows_9 : ez_at X_EE_openRows 9 (.getfield 65) 3 12 := ⟨by decide +kernel, rfl⟩
theorem d_EE_openRows_12 : ez_at X_EE_openRows 12 (.iconst (-1)) 1 13 := ⟨by decide +kernel, rfl⟩
theorem d_EE_openRows_13 : ez_at X_EE_openRows 13 (.ixor) 1 14 := ⟨by decide +kernel, rfl⟩
theorem d_EE_openRows_14 : ez_at X_EE_openRows 14 (.iand) 1 15 := ⟨by decide +kernel, rfl⟩
theorem d_EE_openRows_15 : ez_at X_EE_openRows 15 (.ireturn) 1 16 := ⟨by decide +kernel, rfl⟩
theorem d_EE_isNumberOfKind_0 : ez_at X_EE_isNumberOfKind 0 (.iload_n 1) 1 1 := ⟨by decide +kernel, rfl⟩
theorem d_EE_isNumberOfKind_1 : decode X_EE_isNumberOfKind.2.1 1 = .ok (.lookupswitch 42 #[(0, 27), (1, 36)], 27) := by decide +kernel
theorem d_EE_isNumberOfKind_28 : ez_at X_EE_isNumberOfKind 28 (.iload_n 2) 1 29 := ⟨by decide +kernel, rfl⟩
theorem d_EE_isNumberOfKind_29 : ez_at X_EE_isNumberOfKind 29 (.aload_n 0) 1 30 := ⟨by decide +kernel, rfl⟩
theorem d_EE_isNumberOfKind_30 : ez_at X_EE_isNumberOfKind 30 (.getfield 18) 3 33 := ⟨by decide +kernel, rfl⟩
theorem d_EE_isNumberOfKind_33 : ez_at X_EE_isNumberOfKind 33 (.invokestatic 72) 3 36 := ⟨by decide +kernel, rfl⟩
theorem d_EE_isNumberOfKind_36 : ez_at X_EE_isNumberOfKind 36 (.ireturn) 1 37 := ⟨by decide +kernel, rfl⟩
theorem d_EE_isNumberOfKind_37 : ez_at X_EE_isNumberOfKind 37 (.iload_n 2) 1 38 := ⟨by decide +kernel, rfl⟩
theorem d_EE_isNumberOfKind_38 : ez_at X_EE_isNumberOfKind 38 (.iconst 2) 1 39 := ⟨by decide +kernel, rfl⟩
theorem d_EE_isNumberOfKind_39 : ez_at X_EE_isNumberOfKind 39 (.invokestatic 72) 3 42 := ⟨by decide +kernel, rfl⟩
theorem d_EE_isNumberOfKind_42 : ez_at X_EE_isNumberOfKind 42 (.ireturn) 1 43 := ⟨by decide +kernel, rfl⟩
theorem d_EE_isNumberOfKind_43 : ez_at X_EE_isNumberOfKind 43 (.iconst 1) 1 44 := ⟨by decide +kernel, rfl⟩
theorem d_EE_isNumberOfKind_44 : ez_at X_EE_isNumberOfKind 44 (.ireturn) 1 45 := ⟨by decide +kernel, rfl⟩
theorem d_EE_checkRow_0 : ez_at X_EE_checkRow 0 (.iload_n 1) 1 1 := ⟨by decide +kernel, rfl⟩
theorem d_EE_checkRow_1 : ez_at X_EE_checkRow 1 (.aload_n 0) 1 2 := ⟨by decide +kernel, rfl⟩
theorem d_EE_checkRow_2 : ez_at X_EE_checkRow 2 (.getfield 22) 3 5 := ⟨by decide +kernel, rfl⟩
theorem d_EE_checkRow_5 : ez_at X_EE_checkRow 5 (.invokestatic 72) 3 8 := ⟨by decide +kernel, rfl⟩
theorem d_EE_checkRow_8 : ez_br X_EE_checkRow 8 (.ifCond .ne 13) 3 11 13 21 := ⟨by decide +kernel, rfl, rfl⟩
theorem d_EE_checkRow_11 : ez_at X_EE_checkRow 11 (.new 79) 3 14 := ⟨by decide +kernel, rfl⟩
theorem d_EE_checkRow_14 : ez_at X_EE_checkRow 14 (.dup) 1 15 := ⟨by decide +kernel, rfl⟩
theorem d_EE_checkRow_15 : ez_at X_EE_checkRow 15 (.ldc 211) 2 17 := ⟨by decide +kernel, rfl⟩
theorem d_EE_checkRow_17 : ez_at X_EE_checkRow 17 (.invokespecial 83) 3 20 := ⟨by decide +kernel, rfl⟩
theorem d_EE_checkRow_20 : ez_at X_EE_checkRow 20 (.athrow) 1 21 := ⟨by decide +kernel, rfl⟩
theorem d_EE_checkRow_21 : ez_at X_EE_checkRow 21 (.return_) 1 22 := ⟨by decide +kernel, rfl⟩
theorem d_EE_checkBothRight_0 : ez_at X_EE_checkBothRight 0 (.aload_n 0) 1 1 := ⟨by decide +kernel, rfl⟩
theorem d_EE_checkBothRight_1 : ez_at X_EE_checkBothRight 1 (.getfield 28) 3 4 := ⟨by decide +kernel, rfl⟩
theorem d_EE_checkBothRight_4 : ez_at X_EE_checkBothRight 4 (.invokevirtual 122) 3 7 := ⟨by decide +kernel, rfl⟩
theorem d_EE_checkBothRight_7 : ez_at X_EE_checkBothRight 7 (.iconst (-1)) 1 8 := ⟨by decide +kernel, rfl⟩
theorem d_EE_checkBothRight_8 : ez_br X_EE_checkBothRight 8 (.if_icmp .ne 14) 3 11 14 22 := ⟨by decide +kernel, rfl, rfl⟩
theorem d_EE_checkBothRight_11 : ez_at X_EE_checkBothRight 11 (.aload_n 0) 1 12 := ⟨by decide +kernel, rfl⟩
theorem d_EE_checkBothRight_12 : ez_at X_EE_checkBothRight 12 (.getfield 32) 3 15 := ⟨by decide +kernel, rfl⟩
theorem d_EE_checkBothRight_15 : ez_at X_EE_checkBothRight 15 (.invokevirtual 122) 3 18 := ⟨by decide +kernel, rfl⟩
theorem d_EE_checkBothRight_18 : ez_at X_EE_checkBothRight 18 (.iconst (-1)) 1 19 := ⟨by decide +kernel, rfl⟩
theorem d_EE_checkBothRight_19 : ez_br X_EE_checkBothRight 19 (.if_icmp .eq 13) 3 22 13 32 := ⟨by decide +kernel, rfl, rfl⟩
theorem d_EE_checkBothRight_22 : ez_at X_EE_checkBothRight 22 (.new 90) 3 25 := ⟨by decide +kernel, rfl⟩
theorem d_EE_checkBothRight_25 : ez_at X_EE_checkBothRight 25 (.dup) 1 26 := ⟨by decide +kernel, rfl⟩
theorem d_EE_checkBothRight_26 : ez_at X_EE_checkBothRight 26 (.ldc 213) 2 28 := ⟨by decide +kernel, rfl⟩
theorem d_EE_checkBothRight_28 : ez_at X_EE_checkBothRight 28 (.invokespecial 94) 3 31 := ⟨by decide +kernel, rfl⟩
theorem d_EE_checkBothRight_31 : ez_at X_EE_checkBothRight 31 (.athrow) 1 32 := ⟨by decide +kernel, rfl⟩
theorem d_EE_checkBothRight_32 : ez_at X_EE_checkBothRight 32 (.return_) 1 33 := ⟨by decide +kernel, rfl⟩
theorem d_EE_checkEdition_0 : ez_at X_EE_checkEdition 0 (.iload_n 0) 1 1 := ⟨by decide +kernel, rfl⟩
theorem d_EE_checkEdition_1 : ez_at X_EE_checkEdition 1 (.iconst 2) 1 2 := ⟨by decide +kernel, rfl⟩
theorem d_EE_checkEdition_2 : ez_at X_EE_checkEdition 2 (.invokestatic 72) 3 5 := ⟨by decide +kernel, rfl⟩
theorem d_EE_checkEdition_5 : ez_br X_EE_checkEdition 5 (.ifCond .ne 13) 3 8 13 18 := ⟨by decide +kernel, rfl, rfl⟩
theorem d_EE_checkEdition_8 : ez_at X_EE_checkEdition 8 (.new 79) 3 11 := ⟨by decide +kernel, rfl⟩
theorem d_EE_checkEdition_11 : ez_at X_EE_checkEdition 11 (.dup) 1 12 := ⟨by decide +kernel, rfl⟩
theorem d_EE_checkEdition_12 : ez_at X_EE_checkEdition 12 (.ldc 215) 2 14 := ⟨by decide +kernel, rfl⟩
theorem d_EE_checkEdition_14 : ez_at X_EE_checkEdition 14 (.invokespecial 83) 3 17 := ⟨by decide +kernel, rfl⟩
theorem d_EE_checkEdition_17 : ez_at X_EE_checkEdition 17 (.athrow) 1 18 := ⟨by decide +kernel, rfl⟩
theorem d_EE_checkEdition_18 : ez_at X_EE_checkEdition 18 (.return_) 1 19 := ⟨by decide +kernel, rfl⟩
theorem d_EE_checkBlock_0 : ez_at X_EE_checkBlock 0 (.aload_n 0) 1 1 := ⟨by decide +kernel, rfl⟩
theorem d_EE_checkBlock_1 : ez_at X_EE_checkBlock 1 (.iload_n 1) 1 2 := ⟨by decide +kernel, rfl⟩
theorem d_EE_checkBlock_2 : ez_at X_EE_checkBlock 2 (.invokevirtual 101) 3 5 := ⟨by decide +kernel, rfl⟩
theorem d_EE_checkBlock_5 : ez_br X_EE_checkBlock 5 (.ifCond .ne 13) 3 8 13 18 := ⟨by decide +kernel, rfl, rfl⟩
theorem d_EE_checkBlock_8 : ez_at X_EE_checkBlock 8 (.new 79) 3 11 := ⟨by decide +kernel, rfl⟩
theorem d_EE_checkBlock_11 : ez_at X_EE_checkBlock 11 (.dup) 1 12 := ⟨by decide +kernel, rfl⟩
theorem d_EE_checkBlock_12 : ez_at X_EE_checkBlock 12 (.ldc 217) 2 14 := ⟨by decide +kernel, rfl⟩
theorem d_EE_checkBlock_14 : ez_at X_EE_checkBlock 14 (.invokespecial 83) 3 17 := ⟨by decide +kernel, rfl⟩
theorem d_EE_checkBlock_17 : ez_at X_EE_checkBlock 17 (.athrow) 1 18 := ⟨by decide +kernel, rfl⟩
theorem d_EE_checkBlock_18 : ez_at X_EE_checkBlock 18 (.return_) 1 19 := ⟨by decide +kernel, rfl⟩
theorem d_EE_isWithin_0 : ez_at X_EE_isWithin 0 (.iload_n 0) 1 1 := ⟨by decide +kernel, rfl⟩
theorem d_EE_isWithin_1 : ez_br X_EE_isWithin 1 (.ifCond .lt 12) 3 4 12 13 := ⟨by decide +kernel, rfl, rfl⟩
theorem d_EE_isWithin_4 : ez_at X_EE_isWithin 4 (.iload_n 0) 1 5 := ⟨by decide +kernel, rfl⟩
theorem d_EE_isWithin_5 : ez_at X_EE_isWithin 5 (.iload_n 1) 1 6 := ⟨by decide +kernel, rfl⟩
theorem d_EE_isWithin_6 : ez_br X_EE_isWithin 6 (.if_icmp .ge 7) 3 9 7 13 := ⟨by decide +kernel, rfl, rfl⟩
theorem d_EE_isWithin_9 : ez_at X_EE_isWithin 9 (.iconst 1) 1 10 := ⟨by decide +kernel, rfl⟩
theorem d_EE_isWithin_10 : ez_br X_EE_isWithin 10 (.goto 4) 3 13 4 14 := ⟨by decide +kernel, rfl, rfl⟩
theorem d_EE_isWithin_13 : ez_at X_EE_isWithin 13 (.iconst 0) 1 14 := ⟨by decide +kernel, rfl⟩
theorem d_EE_isWithin_14 : ez_at X_EE_isWithin 14 (.ireturn) 1 15 := ⟨by decide +kernel, rfl⟩
theorem d_EE_bitOf_0 : ez_at X_EE_bitOf 0 (.iload_n 0) 1 1 := ⟨by decide +kernel, rfl⟩
theorem d_EE_bitOf_1 : ez_br X_EE_bitOf 1 (.ifCond .lt 15) 3 4 15 16 := ⟨by decide +kernel, rfl, rfl⟩
theorem d_EE_bitOf_4 : ez_at X_EE_bitOf 4 (.iload_n 0) 1 5 := ⟨by decide +kernel, rfl⟩
theorem d_EE_bitOf_5 : ez_at X_EE_bitOf 5 (.bipush 32) 2 7 := ⟨by decide +kernel, rfl⟩
theorem d_EE_bitOf_7 : ez_br X_EE_bitOf 7 (.if_icmp .ge 9) 3 10 9 16 := ⟨by decide +kernel, rfl, rfl⟩
theorem d_EE_bitOf_10 : ez_at X_EE_bitOf 10 (.iconst 1) 1 11 := ⟨by decide +kernel, rfl⟩
theorem d_EE_bitOf_11 : ez_at X_EE_bitOf 11 (.iload_n 0) 1 12 := ⟨by decide +kernel, rfl⟩
theorem d_EE_bitOf_12 : ez_at X_EE_bitOf 12 (.ishl) 1 13 := ⟨by decide +kernel, rfl⟩
theorem d_EE_bitOf_13 : ez_br X_EE_bitOf 13 (.goto 4) 3 16 4 17 := ⟨by decide +kernel, rfl, rfl⟩
theorem d_EE_bitOf_16 : ez_at X_EE_bitOf 16 (.iconst 0) 1 17 := ⟨by decide +kernel, rfl⟩
theorem d_EE_bitOf_17 : ez_at X_EE_bitOf 17 (.ireturn) 1 18 := ⟨by decide +kernel, rfl⟩
theorem d_EE_holds_0 : ez_at X_EE_holds 0 (.iload_n 1) 1 1 := ⟨by decide +kernel, rfl⟩
theorem d_EE_holds_1 : ez_br X_EE_holds 1 (.ifCond .lt 21) 3 4 21 22 := ⟨by decide +kernel, rfl, rfl⟩
theorem d_EE_holds_4 : ez_at X_EE_holds 4 (.iload_n 1) 1 5 := ⟨by decide +kernel, rfl⟩
theorem d_EE_holds_5 : ez_at X_EE_holds 5 (.bipush 32) 2 7 := ⟨by decide +kernel, rfl⟩
theorem d_EE_holds_7 : ez_br X_EE_holds 7 (.if_icmp .ge 15) 3 10 15 22 := ⟨by decide +kernel, rfl, rfl⟩
theorem d_EE_holds_10 : ez_at X_EE_holds 10 (.iload_n 0) 1 11 := ⟨by decide +kernel, rfl⟩
theorem d_EE_holds_11 : ez_at X_EE_holds 11 (.iload_n 1) 1 12 := ⟨by decide +kernel, rfl⟩
theorem d_EE_holds_12 : ez_at X_EE_holds 12 (.iushr) 1 13 := ⟨by decide +kernel, rfl⟩
theorem d_EE_holds_13 : ez_at X_EE_holds 13 (.iconst 1) 1 14 := ⟨by decide +kernel, rfl⟩
theorem d_EE_holds_14 : ez_at X_EE_holds 14 (.iand) 1 15 := ⟨by decide +kernel, rfl⟩
theorem d_EE_holds_15 : ez_br X_EE_holds 15 (.ifCond .eq 7) 3 18 7 22 := ⟨by decide +kernel, rfl, rfl⟩
theorem d_EE_holds_18 : ez_at X_EE_holds 18 (.iconst 1) 1 19 := ⟨by decide +kernel, rfl⟩
theorem d_EE_holds_19 : ez_br X_EE_holds 19 (.goto 4) 3 22 4 23 := ⟨by decide +kernel, rfl, rfl⟩
theorem d_EE_holds_22 : ez_at X_EE_holds 22 (.iconst 0) 1 23 := ⟨by decide +kernel, rfl⟩
theorem d_EE_holds_23 : ez_at X_EE_holds 23 (.ireturn) 1 24 := ⟨by decide +kernel, rfl⟩
end
section
/-! ===== decoded: J ===== -/
theorem d_JI_bitCount_0 : ez_at X_JI_bitCount 0 (.iload_n 0) 1 1 := ⟨by decide +kernel, rfl⟩
theorem d_JI_bitCount_1 : ez_at X_JI_bitCount 1 (.iload_n 0) 1 2 := ⟨by decide +kernel, rfl⟩
theorem d_JI_bitCount_2 : ez_at X_JI_bitCount 2 (.iconst 1) 1 3 := ⟨by decide +kernel, rfl⟩
theorem d_JI_bitCount_3 : ez_at X_JI_bitCount 3 (.iushr) 1 4 := ⟨by decide +kernel, rfl⟩
theorem d_JI_bitCount_4 : ez_at X_JI_bitCount 4 (.ldc_w 265) 3 7 := ⟨by decide +kernel, rfl⟩
theorem d_JI_bitCount_7 : ez_at X_JI_bitCount 7 (.iand) 1 8 := ⟨by decide +kernel, rfl⟩
theorem d_JI_bitCount_8 : ez_at X_JI_bitCount 8 (.isub) 1 9 := ⟨by decide +kernel, rfl⟩
theorem d_JI_bitCount_9 : ez_at X_JI_bitCount 9 (.istore_n 0) 1 10 := ⟨by decide +kernel, rfl⟩
theorem d_JI_bitCount_10 : ez_at X_JI_bitCount 10 (.iload_n 0) 1 11 := ⟨by decide +kernel, rfl⟩
theorem d_JI_bitCount_11 : ez_at X_JI_bitCount 11 (.ldc_w 266) 3 14 := ⟨by decide +kernel, rfl⟩
theorem d_JI_bitCount_14 : ez_at X_JI_bitCount 14 (.iand) 1 15 := ⟨by decide +kernel, rfl⟩
theorem d_JI_bitCount_15 : ez_at X_JI_bitCount 15 (.iload_n 0) 1 16 := ⟨by decide +kernel, rfl⟩
theorem d_JI_bitCount_16 : ez_at X_JI_bitCount 16 (.iconst 2) 1 17 := ⟨by decide +kernel, rfl⟩
theorem d_JI_bitCount_17 : ez_at X_JI_bitCount 17 (.iushr) 1 18 := ⟨by decide +kernel, rfl⟩
theorem d_JI_bitCount_18 : ez_at X_JI_bitCount 18 (.ldc_w 266) 3 21 := ⟨by decide +kernel, rfl⟩
theorem d_JI_bitCount_21 : ez_at X_JI_bitCount 21 (.iand) 1 22 := ⟨by decide +kernel, rfl⟩
theorem d_JI_bitCount_22 : ez_at X_JI_bitCount 22 (.iadd) 1 23 := ⟨by decide +kernel, rfl⟩
theorem d_JI_bitCount_23 : ez_at X_JI_bitCount 23 (.istore_n 0) 1 24 := ⟨by decide +kernel, rfl⟩
theorem d_JI_bitCount_24 : ez_at X_JI_bitCount 24 (.iload_n 0) 1 25 := ⟨by decide +kernel, rfl⟩
theorem d_JI_bitCount_25 : ez_at X_JI_bitCount 25 (.iload_n 0) 1 26 := ⟨by decide +kernel, rfl⟩
theorem d_JI_bitCount_26 : ez_at X_JI_bitCount 26 (.iconst 4) 1 27 := ⟨by decide +kernel, rfl⟩
theorem d_JI_bitCount_27 : ez_at X_JI_bitCount 27 (.iushr) 1 28 := ⟨by decide +kernel, rfl⟩
theorem d_JI_bitCount_28 : ez_at X_JI_bitCount 28 (.iadd) 1 29 := ⟨by decide +kernel, rfl⟩
theorem d_JI_bitCount_29 : ez_at X_JI_bitCount 29 (.ldc_w 267) 3 32 := ⟨by decide +kernel, rfl⟩
theorem d_JI_bitCount_32 : ez_at X_JI_bitCount 32 (.iand) 1 33 := ⟨by decide +kernel, rfl⟩
theorem d_JI_bitCount_33 : ez_at X_JI_bitCount 33 (.istore_n 0) 1 34 := ⟨by decide +kernel, rfl⟩
theorem d_JI_bitCount_34 : ez_at X_JI_bitCount 34 (.iload_n 0) 1 35 := ⟨by decide +kernel, rfl⟩
theorem d_JI_bitCount_35 : ez_at X_JI_bitCount 35 (.iload_n 0) 1 36 := ⟨by decide +kernel, rfl⟩
theorem d_JI_bitCount_36 : ez_at X_JI_bitCount 36 (.bipush 8) 2 38 := ⟨by decide +kernel, rfl⟩
theorem d_JI_bitCount_38 : ez_at X_JI_bitCount 38 (.iushr) 1 39 := ⟨by decide +kernel, rfl⟩
theorem d_JI_bitCount_39 : ez_at X_JI_bitCount 39 (.iadd) 1 40 := ⟨by decide +kernel, rfl⟩
theorem d_JI_bitCount_40 : ez_at X_JI_bitCount 40 (.istore_n 0) 1 41 := ⟨by decide +kernel, rfl⟩
theorem d_JI_bitCount_41 : ez_at X_JI_bitCount 41 (.iload_n 0) 1 42 := ⟨by decide +kernel, rfl⟩
theorem d_JI_bitCount_42 : ez_at X_JI_bitCount 42 (.iload_n 0) 1 43 := ⟨by decide +kernel, rfl⟩
theorem d_JI_bitCount_43 : ez_at X_JI_bitCount 43 (.bipush 16) 2 45 := ⟨by decide +kernel, rfl⟩
theorem d_JI_bitCount_45 : ez_at X_JI_bitCount 45 (.iushr) 1 46 := ⟨by decide +kernel, rfl⟩
theorem d_JI_bitCount_46 : ez_at X_JI_bitCount 46 (.iadd) 1 47 := ⟨by decide +kernel, rfl⟩
theorem d_JI_bitCount_47 : ez_at X_JI_bitCount 47 (.istore_n 0) 1 48 := ⟨by decide +kernel, rfl⟩
theorem d_JI_bitCount_48 : ez_at X_JI_bitCount 48 (.iload_n 0) 1 49 := ⟨by decide +kernel, rfl⟩
theorem d_JI_bitCount_49 : ez_at X_JI_bitCount 49 (.bipush 63) 2 51 := ⟨by decide +kernel, rfl⟩
theorem d_JI_bitCount_51 : ez_at X_JI_bitCount 51 (.iand) 1 52 := ⟨by decide +kernel, rfl⟩
theorem d_JI_bitCount_52 : ez_at X_JI_bitCount 52 (.ireturn) 1 53 := ⟨by decide +kernel, rfl⟩
theorem d_JA_fill_0 : ez_at X_JA_fill 0 (.iconst 0) 1 1 := ⟨by decide +kernel, rfl⟩
theorem d_JA_fill_1 : ez_at X_JA_fill 1 (.istore_n 2) 1 2 := ⟨by decide +kernel, rfl⟩
theorem d_JA_fill_2 : ez_at X_JA_fill 2 (.aload_n 0) 1 3 := ⟨by decide +kernel, rfl⟩
theorem d_JA_fill_3 : ez_at X_JA_fill 3 (.arraylength) 1 4 := ⟨by decide +kernel, rfl⟩
theorem d_JA_fill_4 : ez_at X_JA_fill 4 (.istore_n 3) 1 5 := ⟨by decide +kernel, rfl⟩
theorem d_JA_fill_5 : ez_at X_JA_fill 5 (.iload_n 2) 1 6 := ⟨by decide +kernel, rfl⟩
theorem d_JA_fill_6 : ez_at X_JA_fill 6 (.iload_n 3) 1 7 := ⟨by decide +kernel, rfl⟩
theorem d_JA_fill_7 : ez_br X_JA_fill 7 (.if_icmp .ge 13) 3 10 13 20 := ⟨by decide +kernel, rfl, rfl⟩
theorem d_JA_fill_10 : ez_at X_JA_fill 10 (.aload_n 0) 1 11 := ⟨by decide +kernel, rfl⟩
theorem d_JA_fill_11 : ez_at X_JA_fill 11 (.iload_n 2) 1 12 := ⟨by decide +kernel, rfl⟩
theorem d_JA_fill_12 : ez_at X_JA_fill 12 (.iload_n 1) 1 13 := ⟨by decide +kernel, rfl⟩
theorem d_JA_fill_13 : ez_at X_JA_fill 13 (.iastore) 1 14 := ⟨by decide +kernel, rfl⟩
theorem d_JA_fill_14 : ez_at X_JA_fill 14 (.iinc 2 1) 3 17 := ⟨by decide +kernel, rfl⟩
theorem d_JA_fill_17 : ez_br X_JA_fill 17 (.goto (-12)) 3 20 (-12) 5 := ⟨by decide +kernel, rfl, rfl⟩
theorem d_JA_fill_20 : ez_at X_JA_fill 20 (.return_) 1 21 := ⟨by decide +kernel, rfl⟩
end
section
/-! ===== decoded: MD1 ===== -/
theorem d_MD_init_0 : ez_at X_MD_init 0 (.aload_n 0) 1 1 := ⟨by decide +kernel, rfl⟩
theorem d_MD_init_1 : ez_at X_MD_init 1 (.invokespecial 1) 3 4 := ⟨by decide +kernel, rfl⟩
theorem d_MD_init_4 : ez_at X_MD_init 4 (.aload_n 0) 1 5 := ⟨by decide +kernel, rfl⟩
theorem d_MD_init_5 : ez_at X_MD_init 5 (.bipush 16) 2 7 := ⟨by decide +kernel, rfl⟩
theorem d_MD_init_7 : ez_at X_MD_init 7 (.newarray .boolean) 2 9 := ⟨by decide +kernel, rfl⟩
theorem d_MD_init_9 : ez_at X_MD_init 9 (.putfield 7) 3 12 := ⟨by decide +kernel, rfl⟩
theorem d_MD_init_12 : ez_at X_MD_init 12 (.aload_n 0) 1 13 := ⟨by decide +kernel, rfl⟩
theorem d_MD_init_13 : ez_at X_MD_init 13 (.iconst 2) 1 14 := ⟨by decide +kernel, rfl⟩
theorem d_MD_init_14 : ez_at X_MD_init 14 (.newarray .int) 2 16 := ⟨by decide +kernel, rfl⟩
theorem d_MD_init_16 : ez_at X_MD_init 16 (.putfield 13) 3 19 := ⟨by decide +kernel, rfl⟩
theorem d_MD_init_19 : ez_at X_MD_init 19 (.aload_n 0) 1 20 := ⟨by decide +kernel, rfl⟩
theorem d_MD_init_20 : ez_at X_MD_init 20 (.bipush 48) 2 22 := ⟨by decide +kernel, rfl⟩
theorem d_MD_init_22 : ez_at X_MD_init 22 (.newarray .int) 2 24 := ⟨by decide +kernel, rfl⟩
theorem d_MD_init_24 : ez_at X_MD_init 24 (.putfield 17) 3 27 := ⟨by decide +kernel, rfl⟩
theorem d_MD_init_27 : ez_at X_MD_init 27 (.aload_n 0) 1 28 := ⟨by decide +kernel, rfl⟩
theorem d_MD_init_28 : ez_at X_MD_init 28 (.bipush 48) 2 30 := ⟨by decide +kernel, rfl⟩
theorem d_MD_init_30 : ez_at X_MD_init 30 (.newarray .int) 2 32 := ⟨by decide +kernel, rfl⟩
theorem d_MD_init_32 : ez_at X_MD_init 32 (.putfield 20) 3 35 := ⟨by decide +kernel, rfl⟩
theorem d_MD_init_35 : ez_at X_MD_init 35 (.aload_n 0) 1 36 := ⟨by decide +kernel, rfl⟩
theorem d_MD_init_36 : ez_at X_MD_init 36 (.bipush 48) 2 38 := ⟨by decide +kernel, rfl⟩
theorem d_MD_init_38 : ez_at X_MD_init 38 (.newarray .int) 2 40 := ⟨by decide +kernel, rfl⟩
theorem d_MD_init_40 : ez_at X_MD_init 40 (.putfield 23) 3 43 := ⟨by decide +kernel, rfl⟩
theorem d_MD_init_43 : ez_at X_MD_init 43 (.aload_n 0) 1 44 := ⟨by decide +kernel, rfl⟩
theorem d_MD_init_44 : ez_at X_MD_init 44 (.bipush 48) 2 46 := ⟨by decide +kernel, rfl⟩
theorem d_MD_init_46 : ez_at X_MD_init 46 (.newarray .int) 2 48 := ⟨by decide +kernel, rfl⟩
theorem d_MD_init_48 : ez_at X_MD_init 48 (.putfield 26) 3 51 := ⟨by decide +kernel, rfl⟩
theorem d_MD_init_51 : ez_at X_MD_init 51 (.aload_n 0) 1 52 := ⟨by decide +kernel, rfl⟩
theorem d_MD_init_52 : ez_at X_MD_init 52 (.bipush 6) 2 54 := ⟨by decide +kernel, rfl⟩
theorem d_MD_init_54 : ez_at X_MD_init 54 (.newarray .int) 2 56 := ⟨by decide +kernel, rfl⟩
theorem d_MD_init_56 : ez_at X_MD_init 56 (.putfield 29) 3 59 := ⟨by decide +kernel, rfl⟩
theorem d_MD_init_59 : ez_at X_MD_init 59 (.aload_n 0) 1 60 := ⟨by decide +kernel, rfl⟩
theorem d_MD_init_60 : ez_at X_MD_init 60 (.bipush 24) 2 62 := ⟨by decide +kernel, rfl⟩
theorem d_MD_init_62 : ez_at X_MD_init 62 (.newarray .boolean) 2 64 := ⟨by decide +kernel, rfl⟩
theorem d_MD_init_64 : ez_at X_MD_init 64 (.putfield 32) 3 67 := ⟨by decide +kernel, rfl⟩
theorem d_MD_init_67 : ez_at X_MD_init 67 (.aload_n 0) 1 68 := ⟨by decide +kernel, rfl⟩
theorem d_MD_init_68 : ez_at X_MD_init 68 (.bipush 24) 2 70 := ⟨by decide +kernel, rfl⟩
theorem d_MD_init_70 : ez_at X_MD_init 70 (.newarray .int) 2 72 := ⟨by decide +kernel, rfl⟩
theorem d_MD_init_72 : ez_at X_MD_init 72 (.putfield 35) 3 75 := ⟨by decide +kernel, rfl⟩
theorem d_MD_init_75 : ez_at X_MD_init 75 (.aload_n 0) 1 76 := ⟨by decide +kernel, rfl⟩
theorem d_MD_init_76 : ez_at X_MD_init 76 (.sipush 1024) 3 79 := ⟨by decide +kernel, rfl⟩
theorem d_MD_init_79 : ez_at X_MD_init 79 (.newarray .int) 2 81 := ⟨by decide +kernel, rfl⟩
theorem d_MD_init_81 : ez_at X_MD_init 81 (.putfield 38) 3 84 := ⟨by decide +kernel, rfl⟩
theorem d_MD_init_84 : ez_at X_MD_init 84 (.aload_n 0) 1 85 := ⟨by decide +kernel, rfl⟩
theorem d_MD_init_85 : ez_at X_MD_init 85 (.bipush 64) 2 87 := ⟨by decide +kernel, rfl⟩
theorem d_MD_init_87 : ez_at X_MD_init 87 (.newarray .boolean) 2 89 := ⟨by decide +kernel, rfl⟩
theorem d_MD_init_89 : ez_at X_MD_init 89 (.putfield 41) 3 92 := ⟨by decide +kernel, rfl⟩
theorem d_MD_init_92 : ez_at X_MD_init 92 (.aload_n 0) 1 93 := ⟨by decide +kernel, rfl⟩
theorem d_MD_init_93 : ez_at X_MD_init 93 (.sipush 1024) 3 96 := ⟨by decide +kernel, rfl⟩
theorem d_MD_init_96 : ez_at X_MD_init 96 (.newarray .boolean) 2 98 := ⟨by decide +kernel, rfl⟩
theorem d_MD_init_98 : ez_at X_MD_init 98 (.putfield 44) 3 101 := ⟨by decide +kernel, rfl⟩
theorem d_MD_init_101 : ez_at X_MD_init 101 (.aload_n 0) 1 102 := ⟨by decide +kernel, rfl⟩
theorem d_MD_init_102 : ez_at X_MD_init 102 (.sipush 1024) 3 105 := ⟨by decide +kernel, rfl⟩
theorem d_MD_init_105 : ez_at X_MD_init 105 (.newarray .int) 2 107 := ⟨by decide +kernel, rfl⟩
theorem d_MD_init_107 : ez_at X_MD_init 107 (.putfield 47) 3 110 := ⟨by decide +kernel, rfl⟩
theorem d_MD_init_110 : ez_at X_MD_init 110 (.aload_n 0) 1 111 := ⟨by decide +kernel, rfl⟩
theorem d_MD_init_111 : ez_at X_MD_init 111 (.sipush 1024) 3 114 := ⟨by decide +kernel, rfl⟩
theorem d_MD_init_114 : ez_at X_MD_init 114 (.newarray .int) 2 116 := ⟨by decide +kernel, rfl⟩
theorem d_MD_init_116 : ez_at X_MD_init 116 (.putfield 50) 3 119 := ⟨by decide +kernel, rfl⟩
theorem d_MD_init_119 : ez_at X_MD_init 119 (.aload_n 0) 1 120 := ⟨by decide +kernel, rfl⟩
theorem d_MD_init_120 : ez_at X_MD_init 120 (.sipush 1024) 3 123 := ⟨by decide +kernel, rfl⟩
theorem d_MD_init_123 : ez_at X_MD_init 123 (.newarray .int) 2 125 := ⟨by decide +kernel, rfl⟩
theorem d_MD_init_125 : ez_at X_MD_init 125 (.putfield 53) 3 128 := ⟨by decide +kernel, rfl⟩
theorem d_MD_init_128 : ez_at X_MD_init 128 (.aload_n 0) 1 129 := ⟨by decide +kernel, rfl⟩
theorem d_MD_init_129 : ez_at X_MD_init 129 (.sipush 1024) 3 132 := ⟨by decide +kernel, rfl⟩
theorem d_MD_init_132 : ez_at X_MD_init 132 (.newarray .boolean) 2 134 := ⟨by decide +kernel, rfl⟩
theorem d_MD_init_134 : ez_at X_MD_init 134 (.putfield 56) 3 137 := ⟨by decide +kernel, rfl⟩
theorem d_MD_init_137 : ez_at X_MD_init 137 (.aload_n 0) 1 138 := ⟨by decide +kernel, rfl⟩
theorem d_MD_init_138 : ez_at X_MD_init 138 (.sipush 576) 3 141 := ⟨by decide +kernel, rfl⟩
theorem d_MD_init_141 : ez_at X_MD_init 141 (.newarray .boolean) 2 143 := ⟨by decide +kernel, rfl⟩
theorem d_MD_init_143 : ez_at X_MD_init 143 (.putfield 59) 3 146 := ⟨by decide +kernel, rfl⟩
theorem d_MD_init_146 : ez_at X_MD_init 146 (.aload_n 0) 1 147 := ⟨by decide +kernel, rfl⟩
theorem d_MD_init_147 : ez_at X_MD_init 147 (.iload_n 1) 1 148 := ⟨by decide +kernel, rfl⟩
theorem d_MD_init_148 : ez_at X_MD_init 148 (.iconst 1) 1 149 := ⟨by decide +kernel, rfl⟩
theorem d_MD_init_149 : ez_br X_MD_init 149 (.if_icmp .ge 7) 3 152 7 156 := ⟨by decide +kernel, rfl, rfl⟩
theorem d_MD_init_152 : ez_at X_MD_init 152 (.iconst 1) 1 153 := ⟨by decide +kernel, rfl⟩
theorem d_MD_init_153 : ez_br X_MD_init 153 (.goto 13) 3 156 13 166 := ⟨by decide +kernel, rfl, rfl⟩
theorem d_MD_init_156 : ez_at X_MD_init 156 (.iload_n 1) 1 157 := ⟨by decide +kernel, rfl⟩
theorem d_MD_init_157 : ez_at X_MD_init 157 (.iconst 4) 1 158 := ⟨by decide +kernel, rfl⟩
theorem d_MD_init_158 : ez_br X_MD_init 158 (.if_icmp .le 7) 3 161 7 165 := ⟨by decide +kernel, rfl, rfl⟩
theorem d_MD_init_161 : ez_at X_MD_init 161 (.iconst 4) 1 162 := ⟨by decide +kernel, rfl⟩
theorem d_MD_init_162 : ez_br X_MD_init 162 (.goto 4) 3 165 4 166 := ⟨by decide +kernel, rfl, rfl⟩
theorem d_MD_init_165 : ez_at X_MD_init 165 (.iload_n 1) 1 166 := ⟨by decide +kernel, rfl⟩
theorem d_MD_init_166 : ez_at X_MD_init 166 (.putfield 62) 3 169 := ⟨by decide +kernel, rfl⟩
theorem d_MD_init_169 : ez_at X_MD_init 169 (.iconst 0) 1 170 := ⟨by decide +kernel, rfl⟩
theorem d_MD_init_170 : ez_at X_MD_init 170 (.istore_n 2) 1 171 := ⟨by decide +kernel, rfl⟩
theorem d_MD_init_171 : ez_at X_MD_init 171 (.iload_n 2) 1 172 := ⟨by decide +kernel, rfl⟩
theorem d_MD_init_172 : ez_at X_MD_init 172 (.bipush 6) 2 174 := ⟨by decide +kernel, rfl⟩
theorem d_MD_init_174 : ez_br X_MD_init 174 (.if_icmp .ge 16) 3 177 16 190 := ⟨by decide +kernel, rfl, rfl⟩
theorem d_MD_init_177 : ez_at X_MD_init 177 (.aload_n 0) 1 178 := ⟨by decide +kernel, rfl⟩
theorem d_MD_init_178 : ez_at X_MD_init 178 (.getfield 29) 3 181 := ⟨by decide +kernel, rfl⟩
theorem d_MD_init_181 : ez_at X_MD_init 181 (.iload_n 2) 1 182 := ⟨by decide +kernel, rfl⟩
theorem d_MD_init_182 : ez_at X_MD_init 182 (.iconst (-1)) 1 183 := ⟨by decide +kernel, rfl⟩
theorem d_MD_init_183 : ez_at X_MD_init 183 (.iastore) 1 184 := ⟨by decide +kernel, rfl⟩
theorem d_MD_init_184 : ez_at X_MD_init 184 (.iinc 2 1) 3 187 := ⟨by decide +kernel, rfl⟩
theorem d_MD_init_187 : ez_br X_MD_init 187 (.goto (-16)) 3 190 (-16) 171 := ⟨by decide +kernel, rfl, rfl⟩
theorem d_MD_init_190 : ez_at X_MD_init 190 (.return_) 1 191 := ⟨by decide +kernel, rfl⟩
theorem d_MD_thrown_0 : ez_at X_MD_thrown 0 (.aload_n 0) 1 1 := ⟨by decide +kernel, rfl⟩
theorem d_MD_thrown_1 : ez_at X_MD_thrown 1 (.getfield 66) 3 4 := ⟨by decide +kernel, rfl⟩
theorem d_MD_thrown_4 : ez_at X_MD_thrown 4 (.ireturn) 1 5 := ⟨by decide +kernel, rfl⟩
theorem d_MD_in_0 : ez_at X_MD_in 0 (.iload_n 0) 1 1 := ⟨by decide +kernel, rfl⟩
theorem d_MD_in_1 : ez_at X_MD_in 1 (.iload_n 1) 1 2 := ⟨by decide +kernel, rfl⟩
theorem d_MD_in_2 : ez_br X_MD_in 2 (.if_icmp .lt 12) 3 5 12 14 := ⟨by decide +kernel, rfl, rfl⟩
theorem d_MD_in_5 : ez_at X_MD_in 5 (.iload_n 0) 1 6 := ⟨by decide +kernel, rfl⟩
theorem d_MD_in_6 : ez_at X_MD_in 6 (.iload_n 2) 1 7 := ⟨by decide +kernel, rfl⟩
theorem d_MD_in_7 : ez_br X_MD_in 7 (.if_icmp .gt 7) 3 10 7 14 := ⟨by decide +kernel, rfl, rfl⟩
theorem d_MD_in_10 : ez_at X_MD_in 10 (.iconst 1) 1 11 := ⟨by decide +kernel, rfl⟩
theorem d_MD_in_11 : ez_br X_MD_in 11 (.goto 4) 3 14 4 15 := ⟨by decide +kernel, rfl, rfl⟩
theorem d_MD_in_14 : ez_at X_MD_in 14 (.iconst 0) 1 15 := ⟨by decide +kernel, rfl⟩
theorem d_MD_in_15 : ez_at X_MD_in 15 (.ireturn) 1 16 := ⟨by decide +kernel, rfl⟩
theorem d_MD_goes_0 : ez_at X_MD_goes 0 (.aload_n 0) 1 1 := ⟨by decide +kernel, rfl⟩
theorem d_MD_goes_1 : ez_at X_MD_goes 1 (.iload_n 1) 1 2 := ⟨by decide +kernel, rfl⟩
theorem d_MD_goes_2 : ez_br X_MD_goes 2 (.ifCond .ne 7) 3 5 7 9 := ⟨by decide +kernel, rfl, rfl⟩
theorem d_MD_goes_5 : ez_at X_MD_goes 5 (.iconst 1) 1 6 := ⟨by decide +kernel, rfl⟩
theorem d_MD_goes_6 : ez_br X_MD_goes 6 (.goto 12) 3 9 12 18 := ⟨by decide +kernel, rfl, rfl⟩
theorem d_MD_goes_9 : ez_at X_MD_goes 9 (.iload_n 2) 1 10 := ⟨by decide +kernel, rfl⟩
theorem d_MD_goes_10 : ez_br X_MD_goes 10 (.ifCond .ne 7) 3 13 7 17 := ⟨by decide +kernel, rfl, rfl⟩
theorem d_MD_goes_13 : ez_at X_MD_goes 13 (.iconst 2) 1 14 := ⟨by decide +kernel, rfl⟩
theorem d_MD_goes_14 : ez_br X_MD_goes 14 (.goto 4) 3 17 4 18 := ⟨by decide +kernel, rfl, rfl⟩
theorem d_MD_goes_17 : ez_at X_MD_goes 17 (.iconst 0) 1 18 := ⟨by decide +kernel, rfl⟩
theorem d_MD_goes_18 : ez_at X_MD_goes 18 (.putfield 66) 3 21 := ⟨by decide +kernel, rfl⟩
theorem d_MD_goes_21 : ez_at X_MD_goes 21 (.aload_n 0) 1 22 := ⟨by decide +kernel, rfl⟩
theorem d_MD_goes_22 : ez_at X_MD_goes 22 (.getfield 66) 3 25 := ⟨by decide +kernel, rfl⟩
theorem d_MD_goes_25 : ez_br X_MD_goes 25 (.ifCond .ne 7) 3 28 7 32 := ⟨by decide +kernel, rfl, rfl⟩
theorem d_MD_goes_28 : ez_at X_MD_goes 28 (.iconst 1) 1 29 := ⟨by decide +kernel, rfl⟩
theorem d_MD_goes_29 : ez_br X_MD_goes 29 (.goto 4) 3 32 4 33 := ⟨by decide +kernel, rfl, rfl⟩
theorem d_MD_goes_32 : ez_at X_MD_goes 32 (.iconst 0) 1 33 := ⟨by decide +kernel, rfl⟩
theorem d_MD_goes_33 : ez_at X_MD_goes 33 (.ireturn) 1 34 := ⟨by decide +kernel, rfl⟩
theorem d_MD_isBlock_0 : ez_at X_MD_isBlock 0 (.iload_n 1) 1 1 := ⟨by decide +kernel, rfl⟩
theorem d_MD_isBlock_1 : ez_at X_MD_isBlock 1 (.iconst 0) 1 2 := ⟨by decide +kernel, rfl⟩
theorem d_MD_isBlock_2 : ez_at X_MD_isBlock 2 (.iconst 1) 1 3 := ⟨by decide +kernel, rfl⟩
theorem d_MD_isBlock_3 : ez_at X_MD_isBlock 3 (.invokestatic 69) 3 6 := ⟨by decide +kernel, rfl⟩
theorem d_MD_isBlock_6 : ez_br X_MD_isBlock 6 (.ifCond .eq 23) 3 9 23 29 := ⟨by decide +kernel, rfl, rfl⟩
theorem d_MD_isBlock_9 : ez_at X_MD_isBlock 9 (.iload_n 2) 1 10 := ⟨by decide +kernel, rfl⟩
theorem d_MD_isBlock_10 : ez_at X_MD_isBlock 10 (.iconst 0) 1 11 := ⟨by decide +kernel, rfl⟩
theorem d_MD_isBlock_11 : ez_at X_MD_isBlock 11 (.aload_n 0) 1 12 := ⟨by decide +kernel, rfl⟩
theorem d_MD_isBlock_12 : ez_at X_MD_isBlock 12 (.getfield 13) 3 15 := ⟨by decide +kernel, rfl⟩
theorem d_MD_isBlock_15 : ez_at X_MD_isBlock 15 (.iload_n 1) 1 16 := ⟨by decide +kernel, rfl⟩
theorem d_MD_isBlock_16 : ez_at X_MD_isBlock 16 (.iaload) 1 17 := ⟨by decide +kernel, rfl⟩
theorem d_MD_isBlock_17 : ez_at X_MD_isBlock 17 (.iconst 1) 1 18 := ⟨by decide +kernel, rfl⟩
theorem d_MD_isBlock_18 : ez_at X_MD_isBlock 18 (.isub) 1 19 := ⟨by decide +kernel, rfl⟩
theorem d_MD_isBlock_19 : ez_at X_MD_isBlock 19 (.invokestatic 69) 3 22 := ⟨by decide +kernel, rfl⟩
theorem d_MD_isBlock_22 : ez_br X_MD_isBlock 22 (.ifCond .eq 7) 3 25 7 29 := ⟨by decide +kernel, rfl, rfl⟩
theorem d_MD_isBlock_25 : ez_at X_MD_isBlock 25 (.iconst 1) 1 26 := ⟨by decide +kernel, rfl⟩
theorem d_MD_isBlock_26 : ez_br X_MD_isBlock 26 (.goto 4) 3 29 4 30 := ⟨by decide +kernel, rfl, rfl⟩
theorem d_MD_isBlock_29 : ez_at X_MD_isBlock 29 (.iconst 0) 1 30 := ⟨by decide +kernel, rfl⟩
theorem d_MD_isBlock_30 : ez_at X_MD_isBlock 30 (.ireturn) 1 31 := ⟨by decide +kernel, rfl⟩
theorem d_MD_isRow_0 : ez_at X_MD_isRow 0 (.iload_n 1) 1 1 := ⟨by decide +kernel, rfl⟩
theorem d_MD_isRow_1 : ez_at X_MD_isRow 1 (.iconst 0) 1 2 := ⟨by decide +kernel, rfl⟩
theorem d_MD_isRow_2 : ez_at X_MD_isRow 2 (.iconst 1) 1 3 := ⟨by decide +kernel, rfl⟩
theorem d_MD_isRow_3 : ez_at X_MD_isRow 3 (.aload_n 0) 1 4 := ⟨by decide +kernel, rfl⟩
theorem d_MD_isRow_4 : ez_at X_MD_isRow 4 (.getfield 62) 3 7 := ⟨by decide +kernel, rfl⟩
theorem d_MD_isRow_7 : ez_at X_MD_isRow 7 (.ishl) 1 8 := ⟨by decide +kernel, rfl⟩
theorem d_MD_isRow_8 : ez_at X_MD_isRow 8 (.iconst 1) 1 9 := ⟨by decide +kernel, rfl⟩
theorem d_MD_isRow_9 : ez_at X_MD_isRow 9 (.isub) 1 10 := ⟨by decide +kernel, rfl⟩
theorem d_MD_isRow_10 : ez_at X_MD_isRow 10 (.invokestatic 69) 3 13 := ⟨by decide +kernel, rfl⟩
theorem d_MD_isRow_13 : ez_at X_MD_isRow 13 (.ireturn) 1 14 := ⟨by decide +kernel, rfl⟩
theorem d_MD_needs_0 : ez_at X_MD_needs 0 (.iload_n 0) 1 1 := ⟨by decide +kernel, rfl⟩
theorem d_MD_needs_1 : ez_at X_MD_needs 1 (.iconst 2) 1 2 := ⟨by decide +kernel, rfl⟩
theorem d_MD_needs_2 : ez_br X_MD_needs 2 (.if_icmp .ge 7) 3 5 7 9 := ⟨by decide +kernel, rfl, rfl⟩
theorem d_MD_needs_5 : ez_at X_MD_needs 5 (.iconst 0) 1 6 := ⟨by decide +kernel, rfl⟩
theorem d_MD_needs_6 : ez_br X_MD_needs 6 (.goto 18) 3 9 18 24 := ⟨by decide +kernel, rfl, rfl⟩
theorem d_MD_needs_9 : ez_at X_MD_needs 9 (.iload_n 0) 1 10 := ⟨by decide +kernel, rfl⟩
theorem d_MD_needs_10 : ez_at X_MD_needs 10 (.iconst 3) 1 11 := ⟨by decide +kernel, rfl⟩
theorem d_MD_needs_11 : ez_br X_MD_needs 11 (.if_icmp .lt 12) 3 14 12 23 := ⟨by decide +kernel, rfl, rfl⟩
theorem d_MD_needs_14 : ez_at X_MD_needs 14 (.iload_n 0) 1 15 := ⟨by decide +kernel, rfl⟩
theorem d_MD_needs_15 : ez_at X_MD_needs 15 (.iconst 5) 1 16 := ⟨by decide +kernel, rfl⟩
theorem d_MD_needs_16 : ez_br X_MD_needs 16 (.if_icmp .gt 7) 3 19 7 23 := ⟨by decide +kernel, rfl, rfl⟩
theorem d_MD_needs_19 : ez_at X_MD_needs 19 (.iconst 2) 1 20 := ⟨by decide +kernel, rfl⟩
theorem d_MD_needs_20 : ez_br X_MD_needs 20 (.goto 4) 3 23 4 24 := ⟨by decide +kernel, rfl, rfl⟩
theorem d_MD_needs_23 : ez_at X_MD_needs 23 (.iconst 1) 1 24 := ⟨by decide +kernel, rfl⟩
theorem d_MD_needs_24 : ez_at X_MD_needs 24 (.ireturn) 1 25 := ⟨by decide +kernel, rfl⟩
theorem d_MD_input_0 : ez_at X_MD_input 0 (.iload_n 3) 1 1 := ⟨by decide +kernel, rfl⟩
theorem d_MD_input_1 : ez_br X_MD_input 1 (.ifCond .ne 17) 3 4 17 18 := ⟨by decide +kernel, rfl, rfl⟩
theorem d_MD_input_4 : ez_at X_MD_input 4 (.aload_n 0) 1 5 := ⟨by decide +kernel, rfl⟩
theorem d_MD_input_5 : ez_at X_MD_input 5 (.getfield 23) 3 8 := ⟨by decide +kernel, rfl⟩
theorem d_MD_input_8 : ez_at X_MD_input 8 (.bipush 24) 2 10 := ⟨by decide +kernel, rfl⟩
theorem d_MD_input_10 : ez_at X_MD_input 10 (.iload_n 1) 1 11 := ⟨by decide +kernel, rfl⟩
theorem d_MD_input_11 : ez_at X_MD_input 11 (.imul) 1 12 := ⟨by decide +kernel, rfl⟩
theorem d_MD_input_12 : ez_at X_MD_input 12 (.iload_n 2) 1 13 := ⟨by decide +kernel, rfl⟩
theorem d_MD_input_13 : ez_at X_MD_input 13 (.iadd) 1 14 := ⟨by decide +kernel, rfl⟩
theorem d_MD_input_14 : ez_at X_MD_input 14 (.iaload) 1 15 := ⟨by decide +kernel, rfl⟩
theorem d_MD_input_15 : ez_br X_MD_input 15 (.goto 14) 3 18 14 29 := ⟨by decide +kernel, rfl, rfl⟩
theorem d_MD_input_18 : ez_at X_MD_input 18 (.aload_n 0) 1 19 := ⟨by decide +kernel, rfl⟩
theorem d_MD_input_19 : ez_at X_MD_input 19 (.getfield 26) 3 22 := ⟨by decide +kernel, rfl⟩
theorem d_MD_input_22 : ez_at X_MD_input 22 (.bipush 24) 2 24 := ⟨by decide +kernel, rfl⟩
theorem d_MD_input_24 : ez_at X_MD_input 24 (.iload_n 1) 1 25 := ⟨by decide +kernel, rfl⟩
theorem d_MD_input_25 : ez_at X_MD_input 25 (.imul) 1 26 := ⟨by decide +kernel, rfl⟩
theorem d_MD_input_26 : ez_at X_MD_input 26 (.iload_n 2) 1 27 := ⟨by decide +kernel, rfl⟩
theorem d_MD_input_27 : ez_at X_MD_input 27 (.iadd) 1 28 := ⟨by decide +kernel, rfl⟩
theorem d_MD_input_28 : ez_at X_MD_input 28 (.iaload) 1 29 := ⟨by decide +kernel, rfl⟩
theorem d_MD_input_29 : ez_at X_MD_input 29 (.ireturn) 1 30 := ⟨by decide +kernel, rfl⟩
theorem d_MD_delays_0 : ez_at X_MD_delays 0 (.iconst 0) 1 1 := ⟨by decide +kernel, rfl⟩
theorem d_MD_delays_1 : ez_at X_MD_delays 1 (.istore_n 2) 1 2 := ⟨by decide +kernel, rfl⟩
theorem d_MD_delays_2 : ez_at X_MD_delays 2 (.iconst 0) 1 3 := ⟨by decide +kernel, rfl⟩
theorem d_MD_delays_3 : ez_at X_MD_delays 3 (.istore_n 3) 1 4 := ⟨by decide +kernel, rfl⟩
theorem d_MD_delays_4 : ez_at X_MD_delays 4 (.iload_n 3) 1 5 := ⟨by decide +kernel, rfl⟩
theorem d_MD_delays_5 : ez_at X_MD_delays 5 (.aload_n 0) 1 6 := ⟨by decide +kernel, rfl⟩
theorem d_MD_delays_6 : ez_at X_MD_delays 6 (.getfield 13) 3 9 := ⟨by decide +kernel, rfl⟩
theorem d_MD_delays_9 : ez_at X_MD_delays 9 (.iload_n 1) 1 10 := ⟨by decide +kernel, rfl⟩
theorem d_MD_delays_10 : ez_at X_MD_delays 10 (.iaload) 1 11 := ⟨by decide +kernel, rfl⟩
theorem d_MD_delays_11 : ez_br X_MD_delays 11 (.if_icmp .ge 33) 3 14 33 44 := ⟨by decide +kernel, rfl, rfl⟩
theorem d_MD_delays_14 : ez_at X_MD_delays 14 (.aload_n 0) 1 15 := ⟨by decide +kernel, rfl⟩
theorem d_MD_delays_15 : ez_at X_MD_delays 15 (.getfield 17) 3 18 := ⟨by decide +kernel, rfl⟩
theorem d_MD_delays_18 : ez_at X_MD_delays 18 (.bipush 24) 2 20 := ⟨by decide +kernel, rfl⟩
theorem d_MD_delays_20 : ez_at X_MD_delays 20 (.iload_n 1) 1 21 := ⟨by decide +kernel, rfl⟩
theorem d_MD_delays_21 : ez_at X_MD_delays 21 (.imul) 1 22 := ⟨by decide +kernel, rfl⟩
theorem d_MD_delays_22 : ez_at X_MD_delays 22 (.iload_n 3) 1 23 := ⟨by decide +kernel, rfl⟩
theorem d_MD_delays_23 : ez_at X_MD_delays 23 (.iadd) 1 24 := ⟨by decide +kernel, rfl⟩
theorem d_MD_delays_24 : ez_at X_MD_delays 24 (.iaload) 1 25 := ⟨by decide +kernel, rfl⟩
theorem d_MD_delays_25 : ez_at X_MD_delays 25 (.bipush 6) 2 27 := ⟨by decide +kernel, rfl⟩
theorem d_MD_delays_27 : ez_br X_MD_delays 27 (.if_icmp .ne 9) 3 30 9 36 := ⟨by decide +kernel, rfl, rfl⟩
theorem d_MD_delays_30 : ez_at X_MD_delays 30 (.iload_n 2) 1 31 := ⟨by decide +kernel, rfl⟩
theorem d_MD_delays_31 : ez_at X_MD_delays 31 (.iconst 1) 1 32 := ⟨by decide +kernel, rfl⟩
theorem d_MD_delays_32 : ez_at X_MD_delays 32 (.iadd) 1 33 := ⟨by decide +kernel, rfl⟩
theorem d_MD_delays_33 : ez_br X_MD_delays 33 (.goto 4) 3 36 4 37 := ⟨by decide +kernel, rfl, rfl⟩
theorem d_MD_delays_36 : ez_at X_MD_delays 36 (.iload_n 2) 1 37 := ⟨by decide +kernel, rfl⟩
theorem d_MD_delays_37 : ez_at X_MD_delays 37 (.istore_n 2) 1 38 := ⟨by decide +kernel, rfl⟩
theorem d_MD_delays_38 : ez_at X_MD_delays 38 (.iinc 3 1) 3 41 := ⟨by decide +kernel, rfl⟩
theorem d_MD_delays_41 : ez_br X_MD_delays 41 (.goto (-37)) 3 44 (-37) 4 := ⟨by decide +kernel, rfl, rfl⟩
theorem d_MD_delays_44 : ez_at X_MD_delays 44 (.iload_n 2) 1 45 := ⟨by decide +kernel, rfl⟩
theorem d_MD_delays_45 : ez_at X_MD_delays 45 (.ireturn) 1 46 := ⟨by decide +kernel, rfl⟩
theorem d_MD_block_0 : ez_at X_MD_block 0 (.iload_n 1) 1 1 := ⟨by decide +kernel, rfl⟩
theorem d_MD_block_1 : ez_at X_MD_block 1 (.iconst 0) 1 2 := ⟨by decide +kernel, rfl⟩
theorem d_MD_block_2 : ez_at X_MD_block 2 (.iconst 1) 1 3 := ⟨by decide +kernel, rfl⟩
theorem d_MD_block_3 : ez_at X_MD_block 3 (.invokestatic 69) 3 6 := ⟨by decide +kernel, rfl⟩
theorem d_MD_block_6 : ez_br X_MD_block 6 (.ifCond .eq 49) 3 9 49 55 := ⟨by decide +kernel, rfl, rfl⟩
theorem d_MD_block_9 : ez_at X_MD_block 9 (.iload_n 2) 1 10 := ⟨by decide +kernel, rfl⟩
theorem d_MD_block_10 : ez_at X_MD_block 10 (.iconst 0) 1 11 := ⟨by decide +kernel, rfl⟩
theorem d_MD_block_11 : ez_at X_MD_block 11 (.bipush 6) 2 13 := ⟨by decide +kernel, rfl⟩
theorem d_MD_block_13 : ez_at X_MD_block 13 (.invokestatic 69) 3 16 := ⟨by decide +kernel, rfl⟩
theorem d_MD_block_16 : ez_br X_MD_block 16 (.ifCond .eq 39) 3 19 39 55 := ⟨by decide +kernel, rfl, rfl⟩
theorem d_MD_block_19 : ez_at X_MD_block 19 (.iload_n 2) 1 20 := ⟨by decide +kernel, rfl⟩
theorem d_MD_block_20 : ez_br X_MD_block 20 (.ifCond .ne 17) 3 23 17 37 := ⟨by decide +kernel, rfl, rfl⟩
theorem d_MD_block_23 : ez_at X_MD_block 23 (.iload_n 3) 1 24 := ⟨by decide +kernel, rfl⟩
theorem d_MD_block_24 : ez_at X_MD_block 24 (.iconst 0) 1 25 := ⟨by decide +kernel, rfl⟩
theorem d_MD_block_25 : ez_at X_MD_block 25 (.aload_n 0) 1 26 := ⟨by decide +kernel, rfl⟩
theorem d_MD_block_26 : ez_at X_MD_block 26 (.getfield 62) 3 29 := ⟨by decide +kernel, rfl⟩
theorem d_MD_block_29 : ez_at X_MD_block 29 (.iconst 1) 1 30 := ⟨by decide +kernel, rfl⟩
theorem d_MD_block_30 : ez_at X_MD_block 30 (.isub) 1 31 := ⟨by decide +kernel, rfl⟩
theorem d_MD_block_31 : ez_at X_MD_block 31 (.invokestatic 69) 3 34 := ⟨by decide +kernel, rfl⟩
theorem d_MD_block_34 : ez_br X_MD_block 34 (.ifCond .eq 21) 3 37 21 55 := ⟨by decide +kernel, rfl, rfl⟩
theorem d_MD_block_37 : ez_at X_MD_block 37 (.iload_n 2) 1 38 := ⟨by decide +kernel, rfl⟩
theorem d_MD_block_38 : ez_at X_MD_block 38 (.iconst 1) 1 39 := ⟨by decide +kernel, rfl⟩
theorem d_MD_block_39 : ez_br X_MD_block 39 (.if_icmp .ne 12) 3 42 12 51 := ⟨by decide +kernel, rfl, rfl⟩
theorem d_MD_block_42 : ez_at X_MD_block 42 (.iload_n 3) 1 43 := ⟨by decide +kernel, rfl⟩
theorem d_MD_block_43 : ez_at X_MD_block 43 (.iconst 0) 1 44 := ⟨by decide +kernel, rfl⟩
theorem d_MD_block_44 : ez_at X_MD_block 44 (.iconst 1) 1 45 := ⟨by decide +kernel, rfl⟩
theorem d_MD_block_45 : ez_at X_MD_block 45 (.invokestatic 69) 3 48 := ⟨by decide +kernel, rfl⟩
theorem d_MD_block_48 : ez_br X_MD_block 48 (.ifCond .eq 7) 3 51 7 55 := ⟨by decide +kernel, rfl, rfl⟩
theorem d_MD_block_51 : ez_at X_MD_block 51 (.iconst 1) 1 52 := ⟨by decide +kernel, rfl⟩
theorem d_MD_block_52 : ez_br X_MD_block 52 (.goto 4) 3 55 4 56 := ⟨by decide +kernel, rfl, rfl⟩
theorem d_MD_block_55 : ez_at X_MD_block 55 (.iconst 0) 1 56 := ⟨by decide +kernel, rfl⟩
theorem d_MD_block_56 : ez_at X_MD_block 56 (.istore 4) 2 58 := ⟨by decide +kernel, rfl⟩
theorem d_MD_block_58 : ez_at X_MD_block 58 (.aload_n 0) 1 59 := ⟨by decide +kernel, rfl⟩
theorem d_MD_block_59 : ez_at X_MD_block 59 (.iload 4) 2 61 := ⟨by decide +kernel, rfl⟩
theorem d_MD_block_61 : ez_at X_MD_block 61 (.iload 4) 2 63 := ⟨by decide +kernel, rfl⟩
theorem d_MD_block_63 : ez_br X_MD_block 63 (.ifCond .eq 33) 3 66 33 96 := ⟨by decide +kernel, rfl, rfl⟩
theorem d_MD_block_66 : ez_at X_MD_block 66 (.aload_n 0) 1 67 := ⟨by decide +kernel, rfl⟩
theorem d_MD_block_67 : ez_at X_MD_block 67 (.getfield 13) 3 70 := ⟨by decide +kernel, rfl⟩
theorem d_MD_block_70 : ez_at X_MD_block 70 (.iload_n 1) 1 71 := ⟨by decide +kernel, rfl⟩
theorem d_MD_block_71 : ez_at X_MD_block 71 (.iaload) 1 72 := ⟨by decide +kernel, rfl⟩
theorem d_MD_block_72 : ez_at X_MD_block 72 (.bipush 24) 2 74 := ⟨by decide +kernel, rfl⟩
theorem d_MD_block_74 : ez_br X_MD_block 74 (.if_icmp .ge 22) 3 77 22 96 := ⟨by decide +kernel, rfl, rfl⟩
theorem d_MD_block_77 : ez_at X_MD_block 77 (.iload_n 2) 1 78 := ⟨by decide +kernel, rfl⟩
theorem d_MD_block_78 : ez_at X_MD_block 78 (.bipush 6) 2 80 := ⟨by decide +kernel, rfl⟩
theorem d_MD_block_80 : ez_br X_MD_block 80 (.if_icmp .ne 12) 3 83 12 92 := ⟨by decide +kernel, rfl, rfl⟩
theorem d_MD_block_83 : ez_at X_MD_block 83 (.aload_n 0) 1 84 := ⟨by decide +kernel, rfl⟩
theorem d_MD_block_84 : ez_at X_MD_block 84 (.iload_n 1) 1 85 := ⟨by decide +kernel, rfl⟩
theorem d_MD_block_85 : ez_at X_MD_block 85 (.invokevirtual 73) 3 88 := ⟨by decide +kernel, rfl⟩
theorem d_MD_block_88 : ez_at X_MD_block 88 (.iconst 5) 1 89 := ⟨by decide +kernel, rfl⟩
theorem d_MD_block_89 : ez_br X_MD_block 89 (.if_icmp .ge 7) 3 92 7 96 := ⟨by decide +kernel, rfl, rfl⟩
theorem d_MD_block_92 : ez_at X_MD_block 92 (.iconst 1) 1 93 := ⟨by decide +kernel, rfl⟩
theorem d_MD_block_93 : ez_br X_MD_block 93 (.goto 4) 3 96 4 97 := ⟨by decide +kernel, rfl, rfl⟩
theorem d_MD_block_96 : ez_at X_MD_block 96 (.iconst 0) 1 97 := ⟨by decide +kernel, rfl⟩
theorem d_MD_block_97 : ez_at X_MD_block 97 (.invokevirtual 77) 3 100 := ⟨by decide +kernel, rfl⟩
theorem d_MD_block_100 : ez_br X_MD_block 100 (.ifCond .ne 5) 3 103 5 105 := ⟨by decide +kernel, rfl, rfl⟩
theorem d_MD_block_103 : ez_at X_MD_block 103 (.iconst 0) 1 104 := ⟨by decide +kernel, rfl⟩
theorem d_MD_block_104 : ez_at X_MD_block 104 (.ireturn) 1 105 := ⟨by decide +kernel, rfl⟩
theorem d_MD_block_105 : ez_at X_MD_block 105 (.bipush 24) 2 107 := ⟨by decide +kernel, rfl⟩
theorem d_MD_block_107 : ez_at X_MD_block 107 (.iload_n 1) 1 108 := ⟨by decide +kernel, rfl⟩
theorem d_MD_block_108 : ez_at X_MD_block 108 (.imul) 1 109 := ⟨by decide +kernel, rfl⟩
theorem d_MD_block_109 : ez_at X_MD_block 109 (.aload_n 0) 1 110 := ⟨by decide +kernel, rfl⟩
theorem d_MD_block_110 : ez_at X_MD_block 110 (.getfield 13) 3 113 := ⟨by decide +kernel, rfl⟩
theorem d_MD_block_113 : ez_at X_MD_block 113 (.iload_n 1) 1 114 := ⟨by decide +kernel, rfl⟩
theorem d_MD_block_114 : ez_at X_MD_block 114 (.iaload) 1 115 := ⟨by decide +kernel, rfl⟩
theorem d_MD_block_115 : ez_at X_MD_block 115 (.iadd) 1 116 := ⟨by decide +kernel, rfl⟩
theorem d_MD_block_116 : ez_at X_MD_block 116 (.istore 5) 2 118 := ⟨by decide +kernel, rfl⟩
theorem d_MD_block_118 : ez_at X_MD_block 118 (.aload_n 0) 1 119 := ⟨by decide +kernel, rfl⟩
theorem d_MD_block_119 : ez_at X_MD_block 119 (.getfield 17) 3 122 := ⟨by decide +kernel, rfl⟩
theorem d_MD_block_122 : ez_at X_MD_block 122 (.iload 5) 2 124 := ⟨by decide +kernel, rfl⟩
theorem d_MD_block_124 : ez_at X_MD_block 124 (.iload_n 2) 1 125 := ⟨by decide +kernel, rfl⟩
theorem d_MD_block_125 : ez_at X_MD_block 125 (.iastore) 1 126 := ⟨by decide +kernel, rfl⟩
theorem d_MD_block_126 : ez_at X_MD_block 126 (.aload_n 0) 1 127 := ⟨by decide +kernel, rfl⟩
theorem d_MD_block_127 : ez_at X_MD_block 127 (.getfield 20) 3 130 := ⟨by decide +kernel, rfl⟩
theorem d_MD_block_130 : ez_at X_MD_block 130 (.iload 5) 2 132 := ⟨by decide +kernel, rfl⟩
theorem d_MD_block_132 : ez_at X_MD_block 132 (.iload_n 3) 1 133 := ⟨by decide +kernel, rfl⟩
theorem d_MD_block_133 : ez_at X_MD_block 133 (.iastore) 1 134 := ⟨by decide +kernel, rfl⟩
theorem d_MD_block_134 : ez_at X_MD_block 134 (.aload_n 0) 1 135 := ⟨by decide +kernel, rfl⟩
theorem d_MD_block_135 : ez_at X_MD_block 135 (.getfield 23) 3 138 := ⟨by decide +kernel, rfl⟩
theorem d_MD_block_138 : ez_at X_MD_block 138 (.iload 5) 2 140 := ⟨by decide +kernel, rfl⟩
theorem d_MD_block_140 : ez_at X_MD_block 140 (.iconst (-1)) 1 141 := ⟨by decide +kernel, rfl⟩
theorem d_MD_block_141 : ez_at X_MD_block 141 (.iastore) 1 142 := ⟨by decide +kernel, rfl⟩
theorem d_MD_block_142 : ez_at X_MD_block 142 (.aload_n 0) 1 143 := ⟨by decide +kernel, rfl⟩
theorem d_MD_block_143 : ez_at X_MD_block 143 (.getfield 26) 3 146 := ⟨by decide +kernel, rfl⟩
theorem d_MD_block_146 : ez_at X_MD_block 146 (.iload 5) 2 148 := ⟨by decide +kernel, rfl⟩
theorem d_MD_block_148 : ez_at X_MD_block 148 (.iconst (-1)) 1 149 := ⟨by decide +kernel, rfl⟩
theorem d_MD_block_149 : ez_at X_MD_block 149 (.iastore) 1 150 := ⟨by decide +kernel, rfl⟩
theorem d_MD_block_150 : ez_at X_MD_block 150 (.aload_n 0) 1 151 := ⟨by decide +kernel, rfl⟩
theorem d_MD_block_151 : ez_at X_MD_block 151 (.getfield 13) 3 154 := ⟨by decide +kernel, rfl⟩
theorem d_MD_block_154 : ez_at X_MD_block 154 (.iload_n 1) 1 155 := ⟨by decide +kernel, rfl⟩
theorem d_MD_block_155 : ez_at X_MD_block 155 (.dup2) 1 156 := ⟨by decide +kernel, rfl⟩
theorem d_MD_block_156 : ez_at X_MD_block 156 (.iaload) 1 157 := ⟨by decide +kernel, rfl⟩
theorem d_MD_block_157 : ez_at X_MD_block 157 (.iconst 1) 1 158 := ⟨by decide +kernel, rfl⟩
theorem d_MD_block_158 : ez_at X_MD_block 158 (.iadd) 1 159 := ⟨by decide +kernel, rfl⟩
theorem d_MD_block_159 : ez_at X_MD_block 159 (.iastore) 1 160 := ⟨by decide +kernel, rfl⟩
theorem d_MD_block_160 : ez_at X_MD_block 160 (.aload_n 0) 1 161 := ⟨by decide +kernel, rfl⟩
theorem d_MD_block_161 : ez_at X_MD_block 161 (.getfield 13) 3 164 := ⟨by decide +kernel, rfl⟩
theorem d_MD_block_164 : ez_at X_MD_block 164 (.iload_n 1) 1 165 := ⟨by decide +kernel, rfl⟩
theorem d_MD_block_165 : ez_at X_MD_block 165 (.iaload) 1 166 := ⟨by decide +kernel, rfl⟩
theorem d_MD_block_166 : ez_at X_MD_block 166 (.iconst 1) 1 167 := ⟨by decide +kernel, rfl⟩
theorem d_MD_block_167 : ez_at X_MD_block 167 (.isub) 1 168 := ⟨by decide +kernel, rfl⟩
theorem d_MD_block_168 : ez_at X_MD_block 168 (.ireturn) 1 169 := ⟨by decide +kernel, rfl⟩
theorem d_MD_wire_0 : ez_at X_MD_wire 0 (.aload_n 0) 1 1 := ⟨by decide +kernel, rfl⟩
theorem d_MD_wire_1 : ez_at X_MD_wire 1 (.aload_n 0) 1 2 := ⟨by decide +kernel, rfl⟩
theorem d_MD_wire_2 : ez_at X_MD_wire 2 (.iload_n 1) 1 3 := ⟨by decide +kernel, rfl⟩
theorem d_MD_wire_3 : ez_at X_MD_wire 3 (.iload_n 2) 1 4 := ⟨by decide +kernel, rfl⟩
theorem d_MD_wire_4 : ez_at X_MD_wire 4 (.invokevirtual 81) 3 7 := ⟨by decide +kernel, rfl⟩
theorem d_MD_wire_7 : ez_br X_MD_wire 7 (.ifCond .eq 32) 3 10 32 39 := ⟨by decide +kernel, rfl, rfl⟩
theorem d_MD_wire_10 : ez_at X_MD_wire 10 (.iload_n 3) 1 11 := ⟨by decide +kernel, rfl⟩
theorem d_MD_wire_11 : ez_at X_MD_wire 11 (.iconst 0) 1 12 := ⟨by decide +kernel, rfl⟩
theorem d_MD_wire_12 : ez_at X_MD_wire 12 (.iconst 1) 1 13 := ⟨by decide +kernel, rfl⟩
theorem d_MD_wire_13 : ez_at X_MD_wire 13 (.invokestatic 69) 3 16 := ⟨by decide +kernel, rfl⟩
theorem d_MD_wire_16 : ez_br X_MD_wire 16 (.ifCond .eq 23) 3 19 23 39 := ⟨by decide +kernel, rfl, rfl⟩
theorem d_MD_wire_19 : ez_at X_MD_wire 19 (.iload 4) 2 21 := ⟨by decide +kernel, rfl⟩
theorem d_MD_wire_21 : ez_at X_MD_wire 21 (.iconst (-1)) 1 22 := ⟨by decide +kernel, rfl⟩
theorem d_MD_wire_22 : ez_br X_MD_wire 22 (.if_icmp .eq 13) 3 25 13 35 := ⟨by decide +kernel, rfl, rfl⟩
theorem d_MD_wire_25 : ez_at X_MD_wire 25 (.aload_n 0) 1 26 := ⟨by decide +kernel, rfl⟩
theorem d_MD_wire_26 : ez_at X_MD_wire 26 (.iload_n 1) 1 27 := ⟨by decide +kernel, rfl⟩
theorem d_MD_wire_27 : ez_at X_MD_wire 27 (.iload 4) 2 29 := ⟨by decide +kernel, rfl⟩
theorem d_MD_wire_29 : ez_at X_MD_wire 29 (.invokevirtual 81) 3 32 := ⟨by decide +kernel, rfl⟩
theorem d_MD_wire_32 : ez_br X_MD_wire 32 (.ifCond .eq 7) 3 35 7 39 := ⟨by decide +kernel, rfl, rfl⟩
theorem d_MD_wire_35 : ez_at X_MD_wire 35 (.iconst 1) 1 36 := ⟨by decide +kernel, rfl⟩
theorem d_MD_wire_36 : ez_br X_MD_wire 36 (.goto 4) 3 39 4 40 := ⟨by decide +kernel, rfl, rfl⟩
theorem d_MD_wire_39 : ez_at X_MD_wire 39 (.iconst 0) 1 40 := ⟨by decide +kernel, rfl⟩
theorem d_MD_wire_40 : ez_at X_MD_wire 40 (.iconst 1) 1 41 := ⟨by decide +kernel, rfl⟩
theorem d_MD_wire_41 : ez_at X_MD_wire 41 (.invokevirtual 77) 3 44 := ⟨by decide +kernel, rfl⟩
theorem d_MD_wire_44 : ez_br X_MD_wire 44 (.ifCond .ne 5) 3 47 5 49 := ⟨by decide +kernel, rfl, rfl⟩
theorem d_MD_wire_47 : ez_at X_MD_wire 47 (.iconst 0) 1 48 := ⟨by decide +kernel, rfl⟩
theorem d_MD_wire_48 : ez_at X_MD_wire 48 (.ireturn) 1 49 := ⟨by decide +kernel, rfl⟩
theorem d_MD_wire_49 : ez_at X_MD_wire 49 (.bipush 24) 2 51 := ⟨by decide +kernel, rfl⟩
theorem d_MD_wire_51 : ez_at X_MD_wire 51 (.iload_n 1) 1 52 := ⟨by decide +kernel, rfl⟩
theorem d_MD_wire_52 : ez_at X_MD_wire 52 (.imul) 1 53 := ⟨by decide +kernel, rfl⟩
theorem d_MD_wire_53 : ez_at X_MD_wire 53 (.iload_n 2) 1 54 := ⟨by decide +kernel, rfl⟩
theorem d_MD_wire_54 : ez_at X_MD_wire 54 (.iadd) 1 55 := ⟨by decide +kernel, rfl⟩
theorem d_MD_wire_55 : ez_at X_MD_wire 55 (.istore 5) 2 57 := ⟨by decide +kernel, rfl⟩
theorem d_MD_wire_57 : ez_at X_MD_wire 57 (.aload_n 0) 1 58 := ⟨by decide +kernel, rfl⟩
theorem d_MD_wire_58 : ez_at X_MD_wire 58 (.iload_n 1) 1 59 := ⟨by decide +kernel, rfl⟩
theorem d_MD_wire_59 : ez_at X_MD_wire 59 (.iload_n 2) 1 60 := ⟨by decide +kernel, rfl⟩
theorem d_MD_wire_60 : ez_at X_MD_wire 60 (.iload_n 3) 1 61 := ⟨by decide +kernel, rfl⟩
theorem d_MD_wire_61 : ez_at X_MD_wire 61 (.invokevirtual 85) 3 64 := ⟨by decide +kernel, rfl⟩
theorem d_MD_wire_64 : ez_at X_MD_wire 64 (.istore 6) 2 66 := ⟨by decide +kernel, rfl⟩
theorem d_MD_wire_66 : ez_at X_MD_wire 66 (.aload_n 0) 1 67 := ⟨by decide +kernel, rfl⟩
theorem d_MD_wire_67 : ez_at X_MD_wire 67 (.getfield 23) 3 70 := ⟨by decide +kernel, rfl⟩
theorem d_MD_wire_70 : ez_at X_MD_wire 70 (.iload 5) 2 72 := ⟨by decide +kernel, rfl⟩
theorem d_MD_wire_72 : ez_at X_MD_wire 72 (.iload_n 3) 1 73 := ⟨by decide +kernel, rfl⟩
theorem d_MD_wire_73 : ez_br X_MD_wire 73 (.ifCond .ne 8) 3 76 8 81 := ⟨by decide +kernel, rfl, rfl⟩
theorem d_MD_wire_76 : ez_at X_MD_wire 76 (.iload 4) 2 78 := ⟨by decide +kernel, rfl⟩
theorem d_MD_wire_78 : ez_br X_MD_wire 78 (.goto 10) 3 81 10 88 := ⟨by decide +kernel, rfl, rfl⟩
theorem d_MD_wire_81 : ez_at X_MD_wire 81 (.aload_n 0) 1 82 := ⟨by decide +kernel, rfl⟩
theorem d_MD_wire_82 : ez_at X_MD_wire 82 (.getfield 23) 3 85 := ⟨by decide +kernel, rfl⟩
theorem d_MD_wire_85 : ez_at X_MD_wire 85 (.iload 5) 2 87 := ⟨by decide +kernel, rfl⟩
theorem d_MD_wire_87 : ez_at X_MD_wire 87 (.iaload) 1 88 := ⟨by decide +kernel, rfl⟩
theorem d_MD_wire_88 : ez_at X_MD_wire 88 (.iastore) 1 89 := ⟨by decide +kernel, rfl⟩
theorem d_MD_wire_89 : ez_at X_MD_wire 89 (.aload_n 0) 1 90 := ⟨by decide +kernel, rfl⟩
theorem d_MD_wire_90 : ez_at X_MD_wire 90 (.getfield 26) 3 93 := ⟨by decide +kernel, rfl⟩
theorem d_MD_wire_93 : ez_at X_MD_wire 93 (.iload 5) 2 95 := ⟨by decide +kernel, rfl⟩
theorem d_MD_wire_95 : ez_at X_MD_wire 95 (.iload_n 3) 1 96 := ⟨by decide +kernel, rfl⟩
theorem d_MD_wire_96 : ez_at X_MD_wire 96 (.iconst 1) 1 97 := ⟨by decide +kernel, rfl⟩
theorem d_MD_wire_97 : ez_br X_MD_wire 97 (.if_icmp .ne 8) 3 100 8 105 := ⟨by decide +kernel, rfl, rfl⟩
theorem d_MD_wire_100 : ez_at X_MD_wire 100 (.iload 4) 2 102 := ⟨by decide +kernel, rfl⟩
theorem d_MD_wire_102 : ez_br X_MD_wire 102 (.goto 10) 3 105 10 112 := ⟨by decide +kernel, rfl, rfl⟩
theorem d_MD_wire_105 : ez_at X_MD_wire 105 (.aload_n 0) 1 106 := ⟨by decide +kernel, rfl⟩
theorem d_MD_wire_106 : ez_at X_MD_wire 106 (.getfield 26) 3 109 := ⟨by decide +kernel, rfl⟩
theorem d_MD_wire_109 : ez_at X_MD_wire 109 (.iload 5) 2 111 := ⟨by decide +kernel, rfl⟩
theorem d_MD_wire_111 : ez_at X_MD_wire 111 (.iaload) 1 112 := ⟨by decide +kernel, rfl⟩
theorem d_MD_wire_112 : ez_at X_MD_wire 112 (.iastore) 1 113 := ⟨by decide +kernel, rfl⟩
theorem d_MD_wire_113 : ez_at X_MD_wire 113 (.iload 6) 2 115 := ⟨by decide +kernel, rfl⟩
theorem d_MD_wire_115 : ez_at X_MD_wire 115 (.ireturn) 1 116 := ⟨by decide +kernel, rfl⟩
theorem d_MD_out_0 : ez_at X_MD_out 0 (.aload_n 0) 1 1 := ⟨by decide +kernel, rfl⟩
theorem d_MD_out_1 : ez_at X_MD_out 1 (.iload_n 1) 1 2 := ⟨by decide +kernel, rfl⟩
theorem d_MD_out_2 : ez_at X_MD_out 2 (.iconst 0) 1 3 := ⟨by decide +kernel, rfl⟩
theorem d_MD_out_3 : ez_at X_MD_out 3 (.iconst 1) 1 4 := ⟨by decide +kernel, rfl⟩
theorem d_MD_out_4 : ez_at X_MD_out 4 (.invokestatic 69) 3 7 := ⟨by decide +kernel, rfl⟩
theorem d_MD_out_7 : ez_br X_MD_out 7 (.ifCond .eq 30) 3 10 30 37 := ⟨by decide +kernel, rfl, rfl⟩
theorem d_MD_out_10 : ez_at X_MD_out 10 (.iload_n 2) 1 11 := ⟨by decide +kernel, rfl⟩
theorem d_MD_out_11 : ez_at X_MD_out 11 (.iconst 0) 1 12 := ⟨by decide +kernel, rfl⟩
theorem d_MD_out_12 : ez_at X_MD_out 12 (.iconst 2) 1 13 := ⟨by decide +kernel, rfl⟩
theorem d_MD_out_13 : ez_at X_MD_out 13 (.invokestatic 69) 3 16 := ⟨by decide +kernel, rfl⟩
theorem d_MD_out_16 : ez_br X_MD_out 16 (.ifCond .eq 21) 3 19 21 37 := ⟨by decide +kernel, rfl, rfl⟩
theorem d_MD_out_19 : ez_at X_MD_out 19 (.iload_n 3) 1 20 := ⟨by decide +kernel, rfl⟩
theorem d_MD_out_20 : ez_at X_MD_out 20 (.iconst (-1)) 1 21 := ⟨by decide +kernel, rfl⟩
theorem d_MD_out_21 : ez_br X_MD_out 21 (.if_icmp .eq 12) 3 24 12 33 := ⟨by decide +kernel, rfl, rfl⟩
theorem d_MD_out_24 : ez_at X_MD_out 24 (.aload_n 0) 1 25 := ⟨by decide +kernel, rfl⟩
theorem d_MD_out_25 : ez_at X_MD_out 25 (.iload_n 1) 1 26 := ⟨by decide +kernel, rfl⟩
theorem d_MD_out_26 : ez_at X_MD_out 26 (.iload_n 3) 1 27 := ⟨by decide +kernel, rfl⟩
theorem d_MD_out_27 : ez_at X_MD_out 27 (.invokevirtual 81) 3 30 := ⟨by decide +kernel, rfl⟩
theorem d_MD_out_30 : ez_br X_MD_out 30 (.ifCond .eq 7) 3 33 7 37 := ⟨by decide +kernel, rfl, rfl⟩
theorem d_MD_out_33 : ez_at X_MD_out 33 (.iconst 1) 1 34 := ⟨by decide +kernel, rfl⟩
theorem d_MD_out_34 : ez_br X_MD_out 34 (.goto 4) 3 37 4 38 := ⟨by decide +kernel, rfl, rfl⟩
theorem d_MD_out_37 : ez_at X_MD_out 37 (.iconst 0) 1 38 := ⟨by decide +kernel, rfl⟩
theorem d_MD_out_38 : ez_at X_MD_out 38 (.iconst 1) 1 39 := ⟨by decide +kernel, rfl⟩
theorem d_MD_out_39 : ez_at X_MD_out 39 (.invokevirtual 77) 3 42 := ⟨by decide +kernel, rfl⟩
theorem d_MD_out_42 : ez_br X_MD_out 42 (.ifCond .ne 5) 3 45 5 47 := ⟨by decide +kernel, rfl, rfl⟩
theorem d_MD_out_45 : ez_at X_MD_out 45 (.iconst 0) 1 46 := ⟨by decide +kernel, rfl⟩
theorem d_MD_out_46 : ez_at X_MD_out 46 (.ireturn) 1 47 := ⟨by decide +kernel, rfl⟩
theorem d_MD_out_47 : ez_at X_MD_out 47 (.aload_n 0) 1 48 := ⟨by decide +kernel, rfl⟩
theorem d_MD_out_48 : ez_at X_MD_out 48 (.getfield 29) 3 51 := ⟨by decide +kernel, rfl⟩
theorem d_MD_out_51 : ez_at X_MD_out 51 (.iconst 3) 1 52 := ⟨by decide +kernel, rfl⟩
theorem d_MD_out_52 : ez_at X_MD_out 52 (.iload_n 1) 1 53 := ⟨by decide +kernel, rfl⟩
theorem d_MD_out_53 : ez_at X_MD_out 53 (.imul) 1 54 := ⟨by decide +kernel, rfl⟩
theorem d_MD_out_54 : ez_at X_MD_out 54 (.iload_n 2) 1 55 := ⟨by decide +kernel, rfl⟩
theorem d_MD_out_55 : ez_at X_MD_out 55 (.iadd) 1 56 := ⟨by decide +kernel, rfl⟩
theorem d_MD_out_56 : ez_at X_MD_out 56 (.iaload) 1 57 := ⟨by decide +kernel, rfl⟩
theorem d_MD_out_57 : ez_at X_MD_out 57 (.istore 4) 2 59 := ⟨by decide +kernel, rfl⟩
theorem d_MD_out_59 : ez_at X_MD_out 59 (.aload_n 0) 1 60 := ⟨by decide +kernel, rfl⟩
theorem d_MD_out_60 : ez_at X_MD_out 60 (.getfield 29) 3 63 := ⟨by decide +kernel, rfl⟩
theorem d_MD_out_63 : ez_at X_MD_out 63 (.iconst 3) 1 64 := ⟨by decide +kernel, rfl⟩
theorem d_MD_out_64 : ez_at X_MD_out 64 (.iload_n 1) 1 65 := ⟨by decide +kernel, rfl⟩
theorem d_MD_out_65 : ez_at X_MD_out 65 (.imul) 1 66 := ⟨by decide +kernel, rfl⟩
theorem d_MD_out_66 : ez_at X_MD_out 66 (.iload_n 2) 1 67 := ⟨by decide +kernel, rfl⟩
theorem d_MD_out_67 : ez_at X_MD_out 67 (.iadd) 1 68 := ⟨by decide +kernel, rfl⟩
theorem d_MD_out_68 : ez_at X_MD_out 68 (.iload_n 3) 1 69 := ⟨by decide +kernel, rfl⟩
theorem d_MD_out_69 : ez_at X_MD_out 69 (.iastore) 1 70 := ⟨by decide +kernel, rfl⟩
theorem d_MD_out_70 : ez_at X_MD_out 70 (.iload 4) 2 72 := ⟨by decide +kernel, rfl⟩
theorem d_MD_out_72 : ez_at X_MD_out 72 (.ireturn) 1 73 := ⟨by decide +kernel, rfl⟩
theorem d_MD_bar_0 : ez_at X_MD_bar 0 (.aload_n 0) 1 1 := ⟨by decide +kernel, rfl⟩
theorem d_MD_bar_1 : ez_at X_MD_bar 1 (.aload_n 0) 1 2 := ⟨by decide +kernel, rfl⟩
theorem d_MD_bar_2 : ez_at X_MD_bar 2 (.iload_n 1) 1 3 := ⟨by decide +kernel, rfl⟩
theorem d_MD_bar_3 : ez_at X_MD_bar 3 (.invokevirtual 89) 3 6 := ⟨by decide +kernel, rfl⟩
theorem d_MD_bar_6 : ez_at X_MD_bar 6 (.iconst 1) 1 7 := ⟨by decide +kernel, rfl⟩
theorem d_MD_bar_7 : ez_at X_MD_bar 7 (.invokevirtual 77) 3 10 := ⟨by decide +kernel, rfl⟩
theorem d_MD_bar_10 : ez_br X_MD_bar 10 (.ifCond .ne 5) 3 13 5 15 := ⟨by decide +kernel, rfl, rfl⟩
theorem d_MD_bar_13 : ez_at X_MD_bar 13 (.iconst 0) 1 14 := ⟨by decide +kernel, rfl⟩
theorem d_MD_bar_14 : ez_at X_MD_bar 14 (.ireturn) 1 15 := ⟨by decide +kernel, rfl⟩
theorem d_MD_bar_15 : ez_at X_MD_bar 15 (.aload_n 0) 1 16 := ⟨by decide +kernel, rfl⟩
theorem d_MD_bar_16 : ez_at X_MD_bar 16 (.getfield 7) 3 19 := ⟨by decide +kernel, rfl⟩
theorem d_MD_bar_19 : ez_at X_MD_bar 19 (.iload_n 1) 1 20 := ⟨by decide +kernel, rfl⟩
theorem d_MD_bar_20 : ez_at X_MD_bar 20 (.baload) 1 21 := ⟨by decide +kernel, rfl⟩
theorem d_MD_bar_21 : ez_at X_MD_bar 21 (.istore_n 3) 1 22 := ⟨by decide +kernel, rfl⟩
theorem d_MD_bar_22 : ez_at X_MD_bar 22 (.aload_n 0) 1 23 := ⟨by decide +kernel, rfl⟩
theorem d_MD_bar_23 : ez_at X_MD_bar 23 (.getfield 7) 3 26 := ⟨by decide +kernel, rfl⟩
theorem d_MD_bar_26 : ez_at X_MD_bar 26 (.iload_n 1) 1 27 := ⟨by decide +kernel, rfl⟩
theorem d_MD_bar_27 : ez_at X_MD_bar 27 (.iload_n 2) 1 28 := ⟨by decide +kernel, rfl⟩
theorem d_MD_bar_28 : ez_at X_MD_bar 28 (.bastore) 1 29 := ⟨by decide +kernel, rfl⟩
theorem d_MD_bar_29 : ez_at X_MD_bar 29 (.iload_n 3) 1 30 := ⟨by decide +kernel, rfl⟩
theorem d_MD_bar_30 : ez_at X_MD_bar 30 (.ireturn) 1 31 := ⟨by decide +kernel, rfl⟩
theorem d_MD_isRound_0 : ez_at X_MD_isRound 0 (.iconst 0) 1 1 := ⟨by decide +kernel, rfl⟩
theorem d_MD_isRound_1 : ez_at X_MD_isRound 1 (.istore_n 3) 1 2 := ⟨by decide +kernel, rfl⟩
theorem d_MD_isRound_2 : ez_at X_MD_isRound 2 (.iload_n 3) 1 3 := ⟨by decide +kernel, rfl⟩
theorem d_MD_isRound_3 : ez_at X_MD_isRound 3 (.bipush 24) 2 5 := ⟨by decide +kernel, rfl⟩
theorem d_MD_isRound_5 : ez_br X_MD_isRound 5 (.if_icmp .ge 16) 3 8 16 21 := ⟨by decide +kernel, rfl, rfl⟩
theorem d_MD_isRound_8 : ez_at X_MD_isRound 8 (.aload_n 0) 1 9 := ⟨by decide +kernel, rfl⟩
theorem d_MD_isRound_9 : ez_at X_MD_isRound 9 (.getfield 32) 3 12 := ⟨by decide +kernel, rfl⟩
theorem d_MD_isRound_12 : ez_at X_MD_isRound 12 (.iload_n 3) 1 13 := ⟨by decide +kernel, rfl⟩
theorem d_MD_isRound_13 : ez_at X_MD_isRound 13 (.iconst 0) 1 14 := ⟨by decide +kernel, rfl⟩
theorem d_MD_isRound_14 : ez_at X_MD_isRound 14 (.bastore) 1 15 := ⟨by decide +kernel, rfl⟩
theorem d_MD_isRound_15 : ez_at X_MD_isRound 15 (.iinc 3 1) 3 18 := ⟨by decide +kernel, rfl⟩
theorem d_MD_isRound_18 : ez_br X_MD_isRound 18 (.goto (-16)) 3 21 (-16) 2 := ⟨by decide +kernel, rfl, rfl⟩
theorem d_MD_isRound_21 : ez_at X_MD_isRound 21 (.aload_n 0) 1 22 := ⟨by decide +kernel, rfl⟩
theorem d_MD_isRound_22 : ez_at X_MD_isRound 22 (.iload_n 1) 1 23 := ⟨by decide +kernel, rfl⟩
theorem d_MD_isRound_23 : ez_at X_MD_isRound 23 (.iload_n 2) 1 24 := ⟨by decide +kernel, rfl⟩
theorem d_MD_isRound_24 : ez_at X_MD_isRound 24 (.invokevirtual 93) 3 27 := ⟨by decide +kernel, rfl⟩
theorem d_MD_isRound_27 : ez_at X_MD_isRound 27 (.pop) 1 28 := ⟨by decide +kernel, rfl⟩
theorem d_MD_isRound_28 : ez_at X_MD_isRound 28 (.iconst 1) 1 29 := ⟨by decide +kernel, rfl⟩
theorem d_MD_isRound_29 : ez_at X_MD_isRound 29 (.istore_n 3) 1 30 := ⟨by decide +kernel, rfl⟩
theorem d_MD_isRound_30 : ez_at X_MD_isRound 30 (.iload_n 3) 1 31 := ⟨by decide +kernel, rfl⟩
theorem d_MD_isRound_31 : ez_br X_MD_isRound 31 (.ifCond .eq 67) 3 34 67 98 := ⟨by decide +kernel, rfl, rfl⟩
theorem d_MD_isRound_34 : ez_at X_MD_isRound 34 (.aload_n 0) 1 35 := ⟨by decide +kernel, rfl⟩
theorem d_MD_isRound_35 : ez_at X_MD_isRound 35 (.getfield 32) 3 38 := ⟨by decide +kernel, rfl⟩
theorem d_MD_isRound_38 : ez_at X_MD_isRound 38 (.iload_n 2) 1 39 := ⟨by decide +kernel, rfl⟩
theorem d_MD_isRound_39 : ez_at X_MD_isRound 39 (.baload) 1 40 := ⟨by decide +kernel, rfl⟩
theorem d_MD_isRound_40 : ez_br X_MD_isRound 40 (.ifCond .ne 58) 3 43 58 98 := ⟨by decide +kernel, rfl, rfl⟩
theorem d_MD_isRound_43 : ez_at X_MD_isRound 43 (.iconst 0) 1 44 := ⟨by decide +kernel, rfl⟩
theorem d_MD_isRound_44 : ez_at X_MD_isRound 44 (.istore_n 3) 1 45 := ⟨by decide +kernel, rfl⟩
theorem d_MD_isRound_45 : ez_at X_MD_isRound 45 (.iconst 0) 1 46 := ⟨by decide +kernel, rfl⟩
theorem d_MD_isRound_46 : ez_at X_MD_isRound 46 (.istore 4) 2 48 := ⟨by decide +kernel, rfl⟩
theorem d_MD_isRound_48 : ez_at X_MD_isRound 48 (.iload 4) 2 50 := ⟨by decide +kernel, rfl⟩
theorem d_MD_isRound_50 : ez_at X_MD_isRound 50 (.aload_n 0) 1 51 := ⟨by decide +kernel, rfl⟩
theorem d_MD_isRound_51 : ez_at X_MD_isRound 51 (.getfield 13) 3 54 := ⟨by decide +kernel, rfl⟩
theorem d_MD_isRound_54 : ez_at X_MD_isRound 54 (.iload_n 1) 1 55 := ⟨by decide +kernel, rfl⟩
theorem d_MD_isRound_55 : ez_at X_MD_isRound 55 (.iaload) 1 56 := ⟨by decide +kernel, rfl⟩
theorem d_MD_isRound_56 : ez_br X_MD_isRound 56 (.if_icmp .ge 39) 3 59 39 95 := ⟨by decide +kernel, rfl, rfl⟩
theorem d_MD_isRound_59 : ez_at X_MD_isRound 59 (.aload_n 0) 1 60 := ⟨by decide +kernel, rfl⟩
theorem d_MD_isRound_60 : ez_at X_MD_isRound 60 (.getfield 32) 3 63 := ⟨by decide +kernel, rfl⟩
theorem d_MD_isRound_63 : ez_at X_MD_isRound 63 (.iload 4) 2 65 := ⟨by decide +kernel, rfl⟩
theorem d_MD_isRound_65 : ez_at X_MD_isRound 65 (.baload) 1 66 := ⟨by decide +kernel, rfl⟩
theorem d_MD_isRound_66 : ez_br X_MD_isRound 66 (.ifCond .eq 13) 3 69 13 79 := ⟨by decide +kernel, rfl, rfl⟩
theorem d_MD_isRound_69 : ez_at X_MD_isRound 69 (.aload_n 0) 1 70 := ⟨by decide +kernel, rfl⟩
theorem d_MD_isRound_70 : ez_at X_MD_isRound 70 (.iload_n 1) 1 71 := ⟨by decide +kernel, rfl⟩
theorem d_MD_isRound_71 : ez_at X_MD_isRound 71 (.iload 4) 2 73 := ⟨by decide +kernel, rfl⟩
theorem d_MD_isRound_73 : ez_at X_MD_isRound 73 (.invokevirtual 93) 3 76 := ⟨by decide +kernel, rfl⟩
theorem d_MD_isRound_76 : ez_br X_MD_isRound 76 (.ifCond .ne 7) 3 79 7 83 := ⟨by decide +kernel, rfl, rfl⟩
theorem d_MD_isRound_79 : ez_at X_MD_isRound 79 (.iload_n 3) 1 80 := ⟨by decide +kernel, rfl⟩
theorem d_MD_isRound_80 : ez_br X_MD_isRound 80 (.ifCond .eq 7) 3 83 7 87 := ⟨by decide +kernel, rfl, rfl⟩
theorem d_MD_isRound_83 : ez_at X_MD_isRound 83 (.iconst 1) 1 84 := ⟨by decide +kernel, rfl⟩
theorem d_MD_isRound_84 : ez_br X_MD_isRound 84 (.goto 4) 3 87 4 88 := ⟨by decide +kernel, rfl, rfl⟩
theorem d_MD_isRound_87 : ez_at X_MD_isRound 87 (.iconst 0) 1 88 := ⟨by decide +kernel, rfl⟩
theorem d_MD_isRound_88 : ez_at X_MD_isRound 88 (.istore_n 3) 1 89 := ⟨by decide +kernel, rfl⟩
theorem d_MD_isRound_89 : ez_at X_MD_isRound 89 (.iinc 4 1) 3 92 := ⟨by decide +kernel, rfl⟩
theorem d_MD_isRound_92 : ez_br X_MD_isRound 92 (.goto (-44)) 3 95 (-44) 48 := ⟨by decide +kernel, rfl, rfl⟩
theorem d_MD_isRound_95 : ez_br X_MD_isRound 95 (.goto (-65)) 3 98 (-65) 30 := ⟨by decide +kernel, rfl, rfl⟩
theorem d_MD_isRound_98 : ez_at X_MD_isRound 98 (.aload_n 0) 1 99 := ⟨by decide +kernel, rfl⟩
theorem d_MD_isRound_99 : ez_at X_MD_isRound 99 (.getfield 32) 3 102 := ⟨by decide +kernel, rfl⟩
theorem d_MD_isRound_102 : ez_at X_MD_isRound 102 (.iload_n 2) 1 103 := ⟨by decide +kernel, rfl⟩
theorem d_MD_isRound_103 : ez_at X_MD_isRound 103 (.baload) 1 104 := ⟨by decide +kernel, rfl⟩
theorem d_MD_isRound_104 : ez_at X_MD_isRound 104 (.ireturn) 1 105 := ⟨by decide +kernel, rfl⟩
theorem d_MD_mark_0 : ez_at X_MD_mark 0 (.aload_n 0) 1 1 := ⟨by decide +kernel, rfl⟩
theorem d_MD_mark_1 : ez_at X_MD_mark 1 (.getfield 17) 3 4 := ⟨by decide +kernel, rfl⟩
theorem d_MD_mark_4 : ez_at X_MD_mark 4 (.bipush 24) 2 6 := ⟨by decide +kernel, rfl⟩
theorem d_MD_mark_6 : ez_at X_MD_mark 6 (.iload_n 1) 1 7 := ⟨by decide +kernel, rfl⟩
theorem d_MD_mark_7 : ez_at X_MD_mark 7 (.imul) 1 8 := ⟨by decide +kernel, rfl⟩
theorem d_MD_mark_8 : ez_at X_MD_mark 8 (.iload_n 2) 1 9 := ⟨by decide +kernel, rfl⟩
theorem d_MD_mark_9 : ez_at X_MD_mark 9 (.iadd) 1 10 := ⟨by decide +kernel, rfl⟩
theorem d_MD_mark_10 : ez_at X_MD_mark 10 (.iaload) 1 11 := ⟨by decide +kernel, rfl⟩
theorem d_MD_mark_11 : ez_at X_MD_mark 11 (.istore_n 3) 1 12 := ⟨by decide +kernel, rfl⟩
theorem d_MD_mark_12 : ez_at X_MD_mark 12 (.iconst 0) 1 13 := ⟨by decide +kernel, rfl⟩
theorem d_MD_mark_13 : ez_at X_MD_mark 13 (.istore 4) 2 15 := ⟨by decide +kernel, rfl⟩
theorem d_MD_mark_15 : ez_at X_MD_mark 15 (.iconst 0) 1 16 := ⟨by decide +kernel, rfl⟩
theorem d_MD_mark_16 : ez_at X_MD_mark 16 (.istore 5) 2 18 := ⟨by decide +kernel, rfl⟩
theorem d_MD_mark_18 : ez_at X_MD_mark 18 (.iload 5) 2 20 := ⟨by decide +kernel, rfl⟩
theorem d_MD_mark_20 : ez_at X_MD_mark 20 (.iload_n 3) 1 21 := ⟨by decide +kernel, rfl⟩
theorem d_MD_mark_21 : ez_at X_MD_mark 21 (.invokestatic 96) 3 24 := ⟨by decide +kernel, rfl⟩
theorem d_MD_mark_24 : ez_br X_MD_mark 24 (.if_icmp .ge 55) 3 27 55 79 := ⟨by decide +kernel, rfl, rfl⟩
theorem d_MD_mark_27 : ez_at X_MD_mark 27 (.iload_n 3) 1 28 := ⟨by decide +kernel, rfl⟩
theorem d_MD_mark_28 : ez_at X_MD_mark 28 (.bipush 6) 2 30 := ⟨by decide +kernel, rfl⟩
theorem d_MD_mark_30 : ez_br X_MD_mark 30 (.if_icmp .eq 49) 3 33 49 79 := ⟨by decide +kernel, rfl, rfl⟩
theorem d_MD_mark_33 : ez_at X_MD_mark 33 (.aload_n 0) 1 34 := ⟨by decide +kernel, rfl⟩
theorem d_MD_mark_34 : ez_at X_MD_mark 34 (.iload_n 1) 1 35 := ⟨by decide +kernel, rfl⟩
theorem d_MD_mark_35 : ez_at X_MD_mark 35 (.iload_n 2) 1 36 := ⟨by decide +kernel, rfl⟩
theorem d_MD_mark_36 : ez_at X_MD_mark 36 (.iload 5) 2 38 := ⟨by decide +kernel, rfl⟩
theorem d_MD_mark_38 : ez_at X_MD_mark 38 (.invokevirtual 85) 3 41 := ⟨by decide +kernel, rfl⟩
theorem d_MD_mark_41 : ez_at X_MD_mark 41 (.istore 6) 2 43 := ⟨by decide +kernel, rfl⟩
theorem d_MD_mark_43 : ez_at X_MD_mark 43 (.iload 4) 2 45 := ⟨by decide +kernel, rfl⟩
theorem d_MD_mark_45 : ez_br X_MD_mark 45 (.ifCond .ne 13) 3 48 13 58 := ⟨by decide +kernel, rfl, rfl⟩
theorem d_MD_mark_48 : ez_at X_MD_mark 48 (.aload_n 0) 1 49 := ⟨by decide +kernel, rfl⟩
theorem d_MD_mark_49 : ez_at X_MD_mark 49 (.getfield 32) 3 52 := ⟨by decide +kernel, rfl⟩
theorem d_MD_mark_52 : ez_at X_MD_mark 52 (.iload 6) 2 54 := ⟨by decide +kernel, rfl⟩
theorem d_MD_mark_54 : ez_at X_MD_mark 54 (.baload) 1 55 := ⟨by decide +kernel, rfl⟩
theorem d_MD_mark_55 : ez_br X_MD_mark 55 (.ifCond .ne 7) 3 58 7 62 := ⟨by decide +kernel, rfl, rfl⟩
theorem d_MD_mark_58 : ez_at X_MD_mark 58 (.iconst 1) 1 59 := ⟨by decide +kernel, rfl⟩
theorem d_MD_mark_59 : ez_br X_MD_mark 59 (.goto 4) 3 62 4 63 := ⟨by decide +kernel, rfl, rfl⟩
theorem d_MD_mark_62 : ez_at X_MD_mark 62 (.iconst 0) 1 63 := ⟨by decide +kernel, rfl⟩
theorem d_MD_mark_63 : ez_at X_MD_mark 63 (.istore 4) 2 65 := ⟨by decide +kernel, rfl⟩
theorem d_MD_mark_65 : ez_at X_MD_mark 65 (.aload_n 0) 1 66 := ⟨by decide +kernel, rfl⟩
theorem d_MD_mark_66 : ez_at X_MD_mark 66 (.getfield 32) 3 69 := ⟨by decide +kernel, rfl⟩
theorem d_MD_mark_69 : ez_at X_MD_mark 69 (.iload 6) 2 71 := ⟨by decide +kernel, rfl⟩
theorem d_MD_mark_71 : ez_at X_MD_mark 71 (.iconst 1) 1 72 := ⟨by decide +kernel, rfl⟩
theorem d_MD_mark_72 : ez_at X_MD_mark 72 (.bastore) 1 73 := ⟨by decide +kernel, rfl⟩
theorem d_MD_mark_73 : ez_at X_MD_mark 73 (.iinc 5 1) 3 76 := ⟨by decide +kernel, rfl⟩
theorem d_MD_mark_76 : ez_br X_MD_mark 76 (.goto (-58)) 3 79 (-58) 18 := ⟨by decide +kernel, rfl, rfl⟩
theorem d_MD_mark_79 : ez_at X_MD_mark 79 (.iload 4) 2 81 := ⟨by decide +kernel, rfl⟩
theorem d_MD_mark_81 : ez_at X_MD_mark 81 (.ireturn) 1 82 := ⟨by decide +kernel, rfl⟩
theorem d_MD_fault_0 : ez_at X_MD_fault 0 (.iconst 0) 1 1 := ⟨by decide +kernel, rfl⟩
theorem d_MD_fault_1 : ez_at X_MD_fault 1 (.istore_n 2) 1 2 := ⟨by decide +kernel, rfl⟩
theorem d_MD_fault_2 : ez_at X_MD_fault 2 (.iload_n 2) 1 3 := ⟨by decide +kernel, rfl⟩
theorem d_MD_fault_3 : ez_at X_MD_fault 3 (.aload_n 0) 1 4 := ⟨by decide +kernel, rfl⟩
theorem d_MD_fault_4 : ez_at X_MD_fault 4 (.getfield 13) 3 7 := ⟨by decide +kernel, rfl⟩
theorem d_MD_fault_7 : ez_at X_MD_fault 7 (.iload_n 1) 1 8 := ⟨by decide +kernel, rfl⟩
theorem d_MD_fault_8 : ez_at X_MD_fault 8 (.iaload) 1 9 := ⟨by decide +kernel, rfl⟩
theorem d_MD_fault_9 : ez_br X_MD_fault 9 (.if_icmp .ge 48) 3 12 48 57 := ⟨by decide +kernel, rfl, rfl⟩
theorem d_MD_fault_12 : ez_at X_MD_fault 12 (.iconst 0) 1 13 := ⟨by decide +kernel, rfl⟩
theorem d_MD_fault_13 : ez_at X_MD_fault 13 (.istore_n 3) 1 14 := ⟨by decide +kernel, rfl⟩
theorem d_MD_fault_14 : ez_at X_MD_fault 14 (.iload_n 3) 1 15 := ⟨by decide +kernel, rfl⟩
theorem d_MD_fault_15 : ez_at X_MD_fault 15 (.aload_n 0) 1 16 := ⟨by decide +kernel, rfl⟩
theorem d_MD_fault_16 : ez_at X_MD_fault 16 (.getfield 17) 3 19 := ⟨by decide +kernel, rfl⟩
theorem d_MD_fault_19 : ez_at X_MD_fault 19 (.bipush 24) 2 21 := ⟨by decide +kernel, rfl⟩
theorem d_MD_fault_21 : ez_at X_MD_fault 21 (.iload_n 1) 1 22 := ⟨by decide +kernel, rfl⟩
theorem d_MD_fault_22 : ez_at X_MD_fault 22 (.imul) 1 23 := ⟨by decide +kernel, rfl⟩
theorem d_MD_fault_23 : ez_at X_MD_fault 23 (.iload_n 2) 1 24 := ⟨by decide +kernel, rfl⟩
theorem d_MD_fault_24 : ez_at X_MD_fault 24 (.iadd) 1 25 := ⟨by decide +kernel, rfl⟩
theorem d_MD_fault_25 : ez_at X_MD_fault 25 (.iaload) 1 26 := ⟨by decide +kernel, rfl⟩
theorem d_MD_fault_26 : ez_at X_MD_fault 26 (.invokestatic 96) 3 29 := ⟨by decide +kernel, rfl⟩
theorem d_MD_fault_29 : ez_br X_MD_fault 29 (.if_icmp .ge 22) 3 32 22 51 := ⟨by decide +kernel, rfl, rfl⟩
theorem d_MD_fault_32 : ez_at X_MD_fault 32 (.aload_n 0) 1 33 := ⟨by decide +kernel, rfl⟩
theorem d_MD_fault_33 : ez_at X_MD_fault 33 (.iload_n 1) 1 34 := ⟨by decide +kernel, rfl⟩
theorem d_MD_fault_34 : ez_at X_MD_fault 34 (.iload_n 2) 1 35 := ⟨by decide +kernel, rfl⟩
theorem d_MD_fault_35 : ez_at X_MD_fault 35 (.iload_n 3) 1 36 := ⟨by decide +kernel, rfl⟩
theorem d_MD_fault_36 : ez_at X_MD_fault 36 (.invokevirtual 85) 3 39 := ⟨by decide +kernel, rfl⟩
theorem d_MD_fault_39 : ez_at X_MD_fault 39 (.iconst (-1)) 1 40 := ⟨by decide +kernel, rfl⟩
theorem d_MD_fault_40 : ez_br X_MD_fault 40 (.if_icmp .ne 5) 3 43 5 45 := ⟨by decide +kernel, rfl, rfl⟩
theorem d_MD_fault_43 : ez_at X_MD_fault 43 (.iload_n 2) 1 44 := ⟨by decide +kernel, rfl⟩
theorem d_MD_fault_44 : ez_at X_MD_fault 44 (.ireturn) 1 45 := ⟨by decide +kernel, rfl⟩
theorem d_MD_fault_45 : ez_at X_MD_fault 45 (.iinc 3 1) 3 48 := ⟨by decide +kernel, rfl⟩
theorem d_MD_fault_48 : ez_br X_MD_fault 48 (.goto (-34)) 3 51 (-34) 14 := ⟨by decide +kernel, rfl, rfl⟩
theorem d_MD_fault_51 : ez_at X_MD_fault 51 (.iinc 2 1) 3 54 := ⟨by decide +kernel, rfl⟩
theorem d_MD_fault_54 : ez_br X_MD_fault 54 (.goto (-52)) 3 57 (-52) 2 := ⟨by decide +kernel, rfl, rfl⟩
theorem d_MD_fault_57 : ez_at X_MD_fault 57 (.iconst 0) 1 58 := ⟨by decide +kernel, rfl⟩
theorem d_MD_fault_58 : ez_at X_MD_fault 58 (.istore_n 2) 1 59 := ⟨by decide +kernel, rfl⟩
theorem d_MD_fault_59 : ez_at X_MD_fault 59 (.iload_n 2) 1 60 := ⟨by decide +kernel, rfl⟩
theorem d_MD_fault_60 : ez_at X_MD_fault 60 (.aload_n 0) 1 61 := ⟨by decide +kernel, rfl⟩
theorem d_MD_fault_61 : ez_at X_MD_fault 61 (.getfield 13) 3 64 := ⟨by decide +kernel, rfl⟩
theorem d_MD_fault_64 : ez_at X_MD_fault 64 (.iload_n 1) 1 65 := ⟨by decide +kernel, rfl⟩
theorem d_MD_fault_65 : ez_at X_MD_fault 65 (.iaload) 1 66 := ⟨by decide +kernel, rfl⟩
theorem d_MD_fault_66 : ez_br X_MD_fault 66 (.if_icmp .ge 20) 3 69 20 86 := ⟨by decide +kernel, rfl, rfl⟩
theorem d_MD_fault_69 : ez_at X_MD_fault 69 (.aload_n 0) 1 70 := ⟨by decide +kernel, rfl⟩
theorem d_MD_fault_70 : ez_at X_MD_fault 70 (.iload_n 1) 1 71 := ⟨by decide +kernel, rfl⟩
theorem d_MD_fault_71 : ez_at X_MD_fault 71 (.iload_n 2) 1 72 := ⟨by decide +kernel, rfl⟩
theorem d_MD_fault_72 : ez_at X_MD_fault 72 (.invokevirtual 99) 3 75 := ⟨by decide +kernel, rfl⟩
theorem d_MD_fault_75 : ez_br X_MD_fault 75 (.ifCond .eq 5) 3 78 5 80 := ⟨by decide +kernel, rfl, rfl⟩
theorem d_MD_fault_78 : ez_at X_MD_fault 78 (.iload_n 2) 1 79 := ⟨by decide +kernel, rfl⟩
theorem d_MD_fault_79 : ez_at X_MD_fault 79 (.ireturn) 1 80 := ⟨by decide +kernel, rfl⟩
theorem d_MD_fault_80 : ez_at X_MD_fault 80 (.iinc 2 1) 3 83 := ⟨by decide +kernel, rfl⟩
theorem d_MD_fault_83 : ez_br X_MD_fault 83 (.goto (-24)) 3 86 (-24) 59 := ⟨by decide +kernel, rfl, rfl⟩
theorem d_MD_fault_86 : ez_at X_MD_fault 86 (.iconst (-1)) 1 87 := ⟨by decide +kernel, rfl⟩
theorem d_MD_fault_87 : ez_at X_MD_fault 87 (.ireturn) 1 88 := ⟨by decide +kernel, rfl⟩
theorem d_MD_wrong_0 : ez_at X_MD_wrong 0 (.aload_n 0) 1 1 := ⟨by decide +kernel, rfl⟩
theorem d_MD_wrong_1 : ez_at X_MD_wrong 1 (.iload_n 1) 1 2 := ⟨by decide +kernel, rfl⟩
theorem d_MD_wrong_2 : ez_at X_MD_wrong 2 (.iconst 0) 1 3 := ⟨by decide +kernel, rfl⟩
theorem d_MD_wrong_3 : ez_at X_MD_wrong 3 (.iconst 1) 1 4 := ⟨by decide +kernel, rfl⟩
theorem d_MD_wrong_4 : ez_at X_MD_wrong 4 (.invokestatic 69) 3 7 := ⟨by decide +kernel, rfl⟩
theorem d_MD_wrong_7 : ez_at X_MD_wrong 7 (.iconst 1) 1 8 := ⟨by decide +kernel, rfl⟩
theorem d_MD_wrong_8 : ez_at X_MD_wrong 8 (.invokevirtual 77) 3 11 := ⟨by decide +kernel, rfl⟩
theorem d_MD_wrong_11 : ez_br X_MD_wrong 11 (.ifCond .eq 11) 3 14 11 22 := ⟨by decide +kernel, rfl, rfl⟩
theorem d_MD_wrong_14 : ez_at X_MD_wrong 14 (.aload_n 0) 1 15 := ⟨by decide +kernel, rfl⟩
theorem d_MD_wrong_15 : ez_at X_MD_wrong 15 (.iload_n 1) 1 16 := ⟨by decide +kernel, rfl⟩
theorem d_MD_wrong_16 : ez_at X_MD_wrong 16 (.invokevirtual 102) 3 19 := ⟨by decide +kernel, rfl⟩
theorem d_MD_wrong_19 : ez_br X_MD_wrong 19 (.goto 4) 3 22 4 23 := ⟨by decide +kernel, rfl, rfl⟩
theorem d_MD_wrong_22 : ez_at X_MD_wrong 22 (.iconst 0) 1 23 := ⟨by decide +kernel, rfl⟩
theorem d_MD_wrong_23 : ez_at X_MD_wrong 23 (.ireturn) 1 24 := ⟨by decide +kernel, rfl⟩
theorem d_MD_isRight_0 : ez_at X_MD_isRight 0 (.iload_n 1) 1 1 := ⟨by decide +kernel, rfl⟩
theorem d_MD_isRight_1 : ez_at X_MD_isRight 1 (.iconst 0) 1 2 := ⟨by decide +kernel, rfl⟩
theorem d_MD_isRight_2 : ez_at X_MD_isRight 2 (.iconst 1) 1 3 := ⟨by decide +kernel, rfl⟩
theorem d_MD_isRight_3 : ez_at X_MD_isRight 3 (.invokestatic 69) 3 6 := ⟨by decide +kernel, rfl⟩
theorem d_MD_isRight_6 : ez_br X_MD_isRight 6 (.ifCond .eq 16) 3 9 16 22 := ⟨by decide +kernel, rfl, rfl⟩
theorem d_MD_isRight_9 : ez_at X_MD_isRight 9 (.aload_n 0) 1 10 := ⟨by decide +kernel, rfl⟩
theorem d_MD_isRight_10 : ez_at X_MD_isRight 10 (.iload_n 1) 1 11 := ⟨by decide +kernel, rfl⟩
theorem d_MD_isRight_11 : ez_at X_MD_isRight 11 (.invokevirtual 102) 3 14 := ⟨by decide +kernel, rfl⟩
theorem d_MD_isRight_14 : ez_at X_MD_isRight 14 (.iconst (-1)) 1 15 := ⟨by decide +kernel, rfl⟩
theorem d_MD_isRight_15 : ez_br X_MD_isRight 15 (.if_icmp .ne 7) 3 18 7 22 := ⟨by decide +kernel, rfl, rfl⟩
theorem d_MD_isRight_18 : ez_at X_MD_isRight 18 (.iconst 1) 1 19 := ⟨by decide +kernel, rfl⟩
theorem d_MD_isRight_19 : ez_br X_MD_isRight 19 (.goto 4) 3 22 4 23 := ⟨by decide +kernel, rfl, rfl⟩
theorem d_MD_isRight_22 : ez_at X_MD_isRight 22 (.iconst 0) 1 23 := ⟨by decide +kernel, rfl⟩
theorem d_MD_isRight_23 : ez_at X_MD_isRight 23 (.ireturn) 1 24 := ⟨by decide +kernel, rfl⟩
theorem d_MD_areRight_0 : ez_at X_MD_areRight 0 (.aload_n 0) 1 1 := ⟨by decide +kernel, rfl⟩
theorem d_MD_areRight_1 : ez_at X_MD_areRight 1 (.iconst 0) 1 2 := ⟨by decide +kernel, rfl⟩
theorem d_MD_areRight_2 : ez_at X_MD_areRight 2 (.invokevirtual 105) 3 5 := ⟨by decide +kernel, rfl⟩
theorem d_MD_areRight_5 : ez_br X_MD_areRight 5 (.ifCond .eq 15) 3 8 15 20 := ⟨by decide +kernel, rfl, rfl⟩
theorem d_MD_areRight_8 : ez_at X_MD_areRight 8 (.aload_n 0) 1 9 := ⟨by decide +kernel, rfl⟩
theorem d_MD_areRight_9 : ez_at X_MD_areRight 9 (.iconst 1) 1 10 := ⟨by decide +kernel, rfl⟩
theorem d_MD_areRight_10 : ez_at X_MD_areRight 10 (.invokevirtual 105) 3 13 := ⟨by decide +kernel, rfl⟩
theorem d_MD_areRight_13 : ez_br X_MD_areRight 13 (.ifCond .eq 7) 3 16 7 20 := ⟨by decide +kernel, rfl, rfl⟩
theorem d_MD_areRight_16 : ez_at X_MD_areRight 16 (.iconst 1) 1 17 := ⟨by decide +kernel, rfl⟩
theorem d_MD_areRight_17 : ez_br X_MD_areRight 17 (.goto 4) 3 20 4 21 := ⟨by decide +kernel, rfl, rfl⟩
theorem d_MD_areRight_20 : ez_at X_MD_areRight 20 (.iconst 0) 1 21 := ⟨by decide +kernel, rfl⟩
theorem d_MD_areRight_21 : ez_at X_MD_areRight 21 (.ireturn) 1 22 := ⟨by decide +kernel, rfl⟩
theorem d_MD_settle_0 : ez_at X_MD_settle 0 (.iconst 0) 1 1 := ⟨by decide +kernel, rfl⟩
theorem d_MD_settle_1 : ez_at X_MD_settle 1 (.istore 4) 2 3 := ⟨by decide +kernel, rfl⟩
theorem d_MD_settle_3 : ez_at X_MD_settle 3 (.iconst 0) 1 4 := ⟨by decide +kernel, rfl⟩
theorem d_MD_settle_4 : ez_at X_MD_settle 4 (.istore 5) 2 6 := ⟨by decide +kernel, rfl⟩
theorem d_MD_settle_6 : ez_at X_MD_settle 6 (.iload 5) 2 8 := ⟨by decide +kernel, rfl⟩
theorem d_MD_settle_8 : ez_at X_MD_settle 8 (.aload_n 0) 1 9 := ⟨by decide +kernel, rfl⟩
theorem d_MD_settle_9 : ez_at X_MD_settle 9 (.getfield 13) 3 12 := ⟨by decide +kernel, rfl⟩
theorem d_MD_settle_12 : ez_at X_MD_settle 12 (.iload_n 1) 1 13 := ⟨by decide +kernel, rfl⟩
theorem d_MD_settle_13 : ez_at X_MD_settle 13 (.iaload) 1 14 := ⟨by decide +kernel, rfl⟩
theorem d_MD_settle_14 : ez_br X_MD_settle 14 (.if_icmp .ge 99) 3 17 99 113 := ⟨by decide +kernel, rfl, rfl⟩
theorem d_MD_settle_17 : ez_at X_MD_settle 17 (.bipush 24) 2 19 := ⟨by decide +kernel, rfl⟩
theorem d_MD_settle_19 : ez_at X_MD_settle 19 (.iload_n 1) 1 20 := ⟨by decide +kernel, rfl⟩
theorem d_MD_settle_20 : ez_at X_MD_settle 20 (.imul) 1 21 := ⟨by decide +kernel, rfl⟩
theorem d_MD_settle_21 : ez_at X_MD_settle 21 (.iload 5) 2 23 := ⟨by decide +kernel, rfl⟩
theorem d_MD_settle_23 : ez_at X_MD_settle 23 (.iadd) 1 24 := ⟨by decide +kernel, rfl⟩
theorem d_MD_settle_24 : ez_at X_MD_settle 24 (.istore 6) 2 26 := ⟨by decide +kernel, rfl⟩
theorem d_MD_settle_26 : ez_at X_MD_settle 26 (.aload_n 0) 1 27 := ⟨by decide +kernel, rfl⟩
theorem d_MD_settle_27 : ez_at X_MD_settle 27 (.getfield 35) 3 30 := ⟨by decide +kernel, rfl⟩
theorem d_MD_settle_30 : ez_at X_MD_settle 30 (.iload 5) 2 32 := ⟨by decide +kernel, rfl⟩
theorem d_MD_settle_32 : ez_at X_MD_settle 32 (.aload_n 0) 1 33 := ⟨by decide +kernel, rfl⟩
theorem d_MD_settle_33 : ez_at X_MD_settle 33 (.getfield 17) 3 36 := ⟨by decide +kernel, rfl⟩
theorem d_MD_settle_36 : ez_at X_MD_settle 36 (.iload 6) 2 38 := ⟨by decide +kernel, rfl⟩
theorem d_MD_settle_38 : ez_at X_MD_settle 38 (.iaload) 1 39 := ⟨by decide +kernel, rfl⟩
theorem d_MD_settle_39 : ez_br X_MD_settle 39 (.ifCond .ne 17) 3 42 17 56 := ⟨by decide +kernel, rfl, rfl⟩
theorem d_MD_settle_42 : ez_at X_MD_settle 42 (.iload_n 3) 1 43 := ⟨by decide +kernel, rfl⟩
theorem d_MD_settle_43 : ez_at X_MD_settle 43 (.aload_n 0) 1 44 := ⟨by decide +kernel, rfl⟩
theorem d_MD_settle_44 : ez_at X_MD_settle 44 (.getfield 20) 3 47 := ⟨by decide +kernel, rfl⟩
theorem d_MD_settle_47 : ez_at X_MD_settle 47 (.iload 6) 2 49 := ⟨by decide +kernel, rfl⟩
theorem d_MD_settle_49 : ez_at X_MD_settle 49 (.iaload) 1 50 := ⟨by decide +kernel, rfl⟩
theorem d_MD_settle_50 : ez_at X_MD_settle 50 (.ishr) 1 51 := ⟨by decide +kernel, rfl⟩
theorem d_MD_settle_51 : ez_at X_MD_settle 51 (.iconst 1) 1 52 := ⟨by decide +kernel, rfl⟩
theorem d_MD_settle_52 : ez_at X_MD_settle 52 (.iand) 1 53 := ⟨by decide +kernel, rfl⟩
theorem d_MD_settle_53 : ez_br X_MD_settle 53 (.goto 25) 3 56 25 78 := ⟨by decide +kernel, rfl, rfl⟩
theorem d_MD_settle_56 : ez_at X_MD_settle 56 (.aload_n 0) 1 57 := ⟨by decide +kernel, rfl⟩
theorem d_MD_settle_57 : ez_at X_MD_settle 57 (.getfield 17) 3 60 := ⟨by decide +kernel, rfl⟩
theorem d_MD_settle_60 : ez_at X_MD_settle 60 (.iload 6) 2 62 := ⟨by decide +kernel, rfl⟩
theorem d_MD_settle_62 : ez_at X_MD_settle 62 (.iaload) 1 63 := ⟨by decide +kernel, rfl⟩
theorem d_MD_settle_63 : ez_at X_MD_settle 63 (.iconst 1) 1 64 := ⟨by decide +kernel, rfl⟩
theorem d_MD_settle_64 : ez_br X_MD_settle 64 (.if_icmp .ne 13) 3 67 13 77 := ⟨by decide +kernel, rfl, rfl⟩
theorem d_MD_settle_67 : ez_at X_MD_settle 67 (.aload_n 0) 1 68 := ⟨by decide +kernel, rfl⟩
theorem d_MD_settle_68 : ez_at X_MD_settle 68 (.getfield 20) 3 71 := ⟨by decide +kernel, rfl⟩
theorem d_MD_settle_71 : ez_at X_MD_settle 71 (.iload 6) 2 73 := ⟨by decide +kernel, rfl⟩
theorem d_MD_settle_73 : ez_at X_MD_settle 73 (.iaload) 1 74 := ⟨by decide +kernel, rfl⟩
theorem d_MD_settle_74 : ez_br X_MD_settle 74 (.goto 4) 3 77 4 78 := ⟨by decide +kernel, rfl, rfl⟩
theorem d_MD_settle_77 : ez_at X_MD_settle 77 (.iconst (-1)) 1 78 := ⟨by decide +kernel, rfl⟩
theorem d_MD_settle_78 : ez_at X_MD_settle 78 (.iastore) 1 79 := ⟨by decide +kernel, rfl⟩
theorem d_MD_settle_79 : ez_at X_MD_settle 79 (.aload_n 0) 1 80 := ⟨by decide +kernel, rfl⟩
theorem d_MD_settle_80 : ez_at X_MD_settle 80 (.getfield 17) 3 83 := ⟨by decide +kernel, rfl⟩
theorem d_MD_settle_83 : ez_at X_MD_settle 83 (.iload 6) 2 85 := ⟨by decide +kernel, rfl⟩
theorem d_MD_settle_85 : ez_at X_MD_settle 85 (.iaload) 1 86 := ⟨by decide +kernel, rfl⟩
theorem d_MD_settle_86 : ez_at X_MD_settle 86 (.bipush 6) 2 88 := ⟨by decide +kernel, rfl⟩
theorem d_MD_settle_88 : ez_br X_MD_settle 88 (.if_icmp .ne 19) 3 91 19 107 := ⟨by decide +kernel, rfl, rfl⟩
theorem d_MD_settle_91 : ez_at X_MD_settle 91 (.aload_n 0) 1 92 := ⟨by decide +kernel, rfl⟩
theorem d_MD_settle_92 : ez_at X_MD_settle 92 (.getfield 35) 3 95 := ⟨by decide +kernel, rfl⟩
theorem d_MD_settle_95 : ez_at X_MD_settle 95 (.iload 5) 2 97 := ⟨by decide +kernel, rfl⟩
theorem d_MD_settle_97 : ez_at X_MD_settle 97 (.iload_n 2) 1 98 := ⟨by decide +kernel, rfl⟩
theorem d_MD_settle_98 : ez_at X_MD_settle 98 (.iload 4) 2 100 := ⟨by decide +kernel, rfl⟩
theorem d_MD_settle_100 : ez_at X_MD_settle 100 (.ishr) 1 101 := ⟨by decide +kernel, rfl⟩
theorem d_MD_settle_101 : ez_at X_MD_settle 101 (.iconst 1) 1 102 := ⟨by decide +kernel, rfl⟩
theorem d_MD_settle_102 : ez_at X_MD_settle 102 (.iand) 1 103 := ⟨by decide +kernel, rfl⟩
theorem d_MD_settle_103 : ez_at X_MD_settle 103 (.iastore) 1 104 := ⟨by decide +kernel, rfl⟩
theorem d_MD_settle_104 : ez_at X_MD_settle 104 (.iinc 4 1) 3 107 := ⟨by decide +kernel, rfl⟩
theorem d_MD_settle_107 : ez_at X_MD_settle 107 (.iinc 5 1) 3 110 := ⟨by decide +kernel, rfl⟩
theorem d_MD_settle_110 : ez_br X_MD_settle 110 (.goto (-104)) 3 113 (-104) 6 := ⟨by decide +kernel, rfl, rfl⟩
theorem d_MD_settle_113 : ez_at X_MD_settle 113 (.iconst 1) 1 114 := ⟨by decide +kernel, rfl⟩
theorem d_MD_settle_114 : ez_at X_MD_settle 114 (.istore 5) 2 116 := ⟨by decide +kernel, rfl⟩
theorem d_MD_settle_116 : ez_at X_MD_settle 116 (.iload 5) 2 118 := ⟨by decide +kernel, rfl⟩
theorem d_MD_settle_118 : ez_br X_MD_settle 118 (.ifCond .eq 57) 3 121 57 175 := ⟨by decide +kernel, rfl, rfl⟩
theorem d_MD_settle_121 : ez_at X_MD_settle 121 (.iconst 0) 1 122 := ⟨by decide +kernel, rfl⟩
theorem d_MD_settle_122 : ez_at X_MD_settle 122 (.istore 5) 2 124 := ⟨by decide +kernel, rfl⟩
theorem d_MD_settle_124 : ez_at X_MD_settle 124 (.iconst 0) 1 125 := ⟨by decide +kernel, rfl⟩
theorem d_MD_settle_125 : ez_at X_MD_settle 125 (.istore 6) 2 127 := ⟨by decide +kernel, rfl⟩
theorem d_MD_settle_127 : ez_at X_MD_settle 127 (.iload 6) 2 129 := ⟨by decide +kernel, rfl⟩
theorem d_MD_settle_129 : ez_at X_MD_settle 129 (.aload_n 0) 1 130 := ⟨by decide +kernel, rfl⟩
theorem d_MD_settle_130 : ez_at X_MD_settle 130 (.getfield 13) 3 133 := ⟨by decide +kernel, rfl⟩
theorem d_MD_settle_133 : ez_at X_MD_settle 133 (.iload_n 1) 1 134 := ⟨by decide +kernel, rfl⟩
theorem d_MD_settle_134 : ez_at X_MD_settle 134 (.iaload) 1 135 := ⟨by decide +kernel, rfl⟩
theorem d_MD_settle_135 : ez_br X_MD_settle 135 (.if_icmp .ge 37) 3 138 37 172 := ⟨by decide +kernel, rfl, rfl⟩
theorem d_MD_settle_138 : ez_at X_MD_settle 138 (.aload_n 0) 1 139 := ⟨by decide +kernel, rfl⟩
theorem d_MD_settle_139 : ez_at X_MD_settle 139 (.getfield 35) 3 142 := ⟨by decide +kernel, rfl⟩
theorem d_MD_settle_142 : ez_at X_MD_settle 142 (.iload 6) 2 144 := ⟨by decide +kernel, rfl⟩
theorem d_MD_settle_144 : ez_at X_MD_settle 144 (.iaload) 1 145 := ⟨by decide +kernel, rfl⟩
theorem d_MD_settle_145 : ez_at X_MD_settle 145 (.iconst (-1)) 1 146 := ⟨by decide +kernel, rfl⟩
theorem d_MD_settle_146 : ez_br X_MD_settle 146 (.if_icmp .ne 20) 3 149 20 166 := ⟨by decide +kernel, rfl, rfl⟩
theorem d_MD_settle_149 : ez_at X_MD_settle 149 (.aload_n 0) 1 150 := ⟨by decide +kernel, rfl⟩
theorem d_MD_settle_150 : ez_at X_MD_settle 150 (.getfield 35) 3 153 := ⟨by decide +kernel, rfl⟩
theorem d_MD_settle_153 : ez_at X_MD_settle 153 (.iload 6) 2 155 := ⟨by decide +kernel, rfl⟩
theorem d_MD_settle_155 : ez_at X_MD_settle 155 (.aload_n 0) 1 156 := ⟨by decide +kernel, rfl⟩
theorem d_MD_settle_156 : ez_at X_MD_settle 156 (.iload_n 1) 1 157 := ⟨by decide +kernel, rfl⟩
theorem d_MD_settle_157 : ez_at X_MD_settle 157 (.iload 6) 2 159 := ⟨by decide +kernel, rfl⟩
theorem d_MD_settle_159 : ez_at X_MD_settle 159 (.invokevirtual 108) 3 162 := ⟨by decide +kernel, rfl⟩
theorem d_MD_settle_162 : ez_at X_MD_settle 162 (.iastore) 1 163 := ⟨by decide +kernel, rfl⟩
theorem d_MD_settle_163 : ez_at X_MD_settle 163 (.iconst 1) 1 164 := ⟨by decide +kernel, rfl⟩
theorem d_MD_settle_164 : ez_at X_MD_settle 164 (.istore 5) 2 166 := ⟨by decide +kernel, rfl⟩
theorem d_MD_settle_166 : ez_at X_MD_settle 166 (.iinc 6 1) 3 169 := ⟨by decide +kernel, rfl⟩
theorem d_MD_settle_169 : ez_br X_MD_settle 169 (.goto (-42)) 3 172 (-42) 127 := ⟨by decide +kernel, rfl, rfl⟩
theorem d_MD_settle_172 : ez_br X_MD_settle 172 (.goto (-56)) 3 175 (-56) 116 := ⟨by decide +kernel, rfl, rfl⟩
theorem d_MD_settle_175 : ez_at X_MD_settle 175 (.return_) 1 176 := ⟨by decide +kernel, rfl⟩
theorem d_MD_reckon_0 : ez_at X_MD_reckon 0 (.aload_n 0) 1 1 := ⟨by decide +kernel, rfl⟩
theorem d_MD_reckon_1 : ez_at X_MD_reckon 1 (.getfield 17) 3 4 := ⟨by decide +kernel, rfl⟩
theorem d_MD_reckon_4 : ez_at X_MD_reckon 4 (.bipush 24) 2 6 := ⟨by decide +kernel, rfl⟩
theorem d_MD_reckon_6 : ez_at X_MD_reckon 6 (.iload_n 1) 1 7 := ⟨by decide +kernel, rfl⟩
theorem d_MD_reckon_7 : ez_at X_MD_reckon 7 (.imul) 1 8 := ⟨by decide +kernel, rfl⟩
theorem d_MD_reckon_8 : ez_at X_MD_reckon 8 (.iload_n 2) 1 9 := ⟨by decide +kernel, rfl⟩
theorem d_MD_reckon_9 : ez_at X_MD_reckon 9 (.iadd) 1 10 := ⟨by decide +kernel, rfl⟩
theorem d_MD_reckon_10 : ez_at X_MD_reckon 10 (.iaload) 1 11 := ⟨by decide +kernel, rfl⟩
theorem d_MD_reckon_11 : ez_at X_MD_reckon 11 (.istore_n 3) 1 12 := ⟨by decide +kernel, rfl⟩
theorem d_MD_reckon_12 : ez_at X_MD_reckon 12 (.aload_n 0) 1 13 := ⟨by decide +kernel, rfl⟩
theorem d_MD_reckon_13 : ez_at X_MD_reckon 13 (.getfield 35) 3 16 := ⟨by decide +kernel, rfl⟩
theorem d_MD_reckon_16 : ez_at X_MD_reckon 16 (.aload_n 0) 1 17 := ⟨by decide +kernel, rfl⟩
theorem d_MD_reckon_17 : ez_at X_MD_reckon 17 (.iload_n 1) 1 18 := ⟨by decide +kernel, rfl⟩
theorem d_MD_reckon_18 : ez_at X_MD_reckon 18 (.iload_n 2) 1 19 := ⟨by decide +kernel, rfl⟩
theorem d_MD_reckon_19 : ez_at X_MD_reckon 19 (.iconst 0) 1 20 := ⟨by decide +kernel, rfl⟩
theorem d_MD_reckon_20 : ez_at X_MD_reckon 20 (.invokevirtual 85) 3 23 := ⟨by decide +kernel, rfl⟩
theorem d_MD_reckon_23 : ez_at X_MD_reckon 23 (.iaload) 1 24 := ⟨by decide +kernel, rfl⟩
theorem d_MD_reckon_24 : ez_at X_MD_reckon 24 (.istore 4) 2 26 := ⟨by decide +kernel, rfl⟩
theorem d_MD_reckon_26 : ez_at X_MD_reckon 26 (.iload_n 3) 1 27 := ⟨by decide +kernel, rfl⟩
theorem d_MD_reckon_27 : ez_at X_MD_reckon 27 (.iconst 2) 1 28 := ⟨by decide +kernel, rfl⟩
theorem d_MD_reckon_28 : ez_br X_MD_reckon 28 (.if_icmp .ne 7) 3 31 7 35 := ⟨by decide +kernel, rfl, rfl⟩
theorem d_MD_reckon_31 : ez_at X_MD_reckon 31 (.iconst 0) 1 32 := ⟨by decide +kernel, rfl⟩
theorem d_MD_reckon_32 : ez_br X_MD_reckon 32 (.goto 15) 3 35 15 47 := ⟨by decide +kernel, rfl, rfl⟩
theorem d_MD_reckon_35 : ez_at X_MD_reckon 35 (.aload_n 0) 1 36 := ⟨by decide +kernel, rfl⟩
theorem d_MD_reckon_36 : ez_at X_MD_reckon 36 (.getfield 35) 3 39 := ⟨by decide +kernel, rfl⟩
theorem d_MD_reckon_39 : ez_at X_MD_reckon 39 (.aload_n 0) 1 40 := ⟨by decide +kernel, rfl⟩
theorem d_MD_reckon_40 : ez_at X_MD_reckon 40 (.iload_n 1) 1 41 := ⟨by decide +kernel, rfl⟩
theorem d_MD_reckon_41 : ez_at X_MD_reckon 41 (.iload_n 2) 1 42 := ⟨by decide +kernel, rfl⟩
theorem d_MD_reckon_42 : ez_at X_MD_reckon 42 (.iconst 1) 1 43 := ⟨by decide +kernel, rfl⟩
theorem d_MD_reckon_43 : ez_at X_MD_reckon 43 (.invokevirtual 85) 3 46 := ⟨by decide +kernel, rfl⟩
theorem d_MD_reckon_46 : ez_at X_MD_reckon 46 (.iaload) 1 47 := ⟨by decide +kernel, rfl⟩
theorem d_MD_reckon_47 : ez_at X_MD_reckon 47 (.istore 5) 2 49 := ⟨by decide +kernel, rfl⟩
theorem d_MD_reckon_49 : ez_at X_MD_reckon 49 (.iload 4) 2 51 := ⟨by decide +kernel, rfl⟩
theorem d_MD_reckon_51 : ez_at X_MD_reckon 51 (.iconst (-1)) 1 52 := ⟨by decide +kernel, rfl⟩
theorem d_MD_reckon_52 : ez_br X_MD_reckon 52 (.if_icmp .eq 9) 3 55 9 61 := ⟨by decide +kernel, rfl, rfl⟩
theorem d_MD_reckon_55 : ez_at X_MD_reckon 55 (.iload 5) 2 57 := ⟨by decide +kernel, rfl⟩
theorem d_MD_reckon_57 : ez_at X_MD_reckon 57 (.iconst (-1)) 1 58 := ⟨by decide +kernel, rfl⟩
theorem d_MD_reckon_58 : ez_br X_MD_reckon 58 (.if_icmp .ne 5) 3 61 5 63 := ⟨by decide +kernel, rfl, rfl⟩
theorem d_MD_reckon_61 : ez_at X_MD_reckon 61 (.iconst (-1)) 1 62 := ⟨by decide +kernel, rfl⟩
theorem d_MD_reckon_62 : ez_at X_MD_reckon 62 (.ireturn) 1 63 := ⟨by decide +kernel, rfl⟩
theorem d_MD_reckon_63 : ez_at X_MD_reckon 63 (.iload_n 3) 1 64 := ⟨by decide +kernel, rfl⟩
theorem d_MD_reckon_64 : ez_at X_MD_reckon 64 (.iconst 2) 1 65 := ⟨by decide +kernel, rfl⟩
theorem d_MD_reckon_65 : ez_br X_MD_reckon 65 (.if_icmp .ne 10) 3 68 10 75 := ⟨by decide +kernel, rfl, rfl⟩
theorem d_MD_reckon_68 : ez_at X_MD_reckon 68 (.iconst 1) 1 69 := ⟨by decide +kernel, rfl⟩
theorem d_MD_reckon_69 : ez_at X_MD_reckon 69 (.iload 4) 2 71 := ⟨by decide +kernel, rfl⟩
theorem d_MD_reckon_71 : ez_at X_MD_reckon 71 (.isub) 1 72 := ⟨by decide +kernel, rfl⟩
theorem d_MD_reckon_72 : ez_br X_MD_reckon 72 (.goto 34) 3 75 34 106 := ⟨by decide +kernel, rfl, rfl⟩
theorem d_MD_reckon_75 : ez_at X_MD_reckon 75 (.iload_n 3) 1 76 := ⟨by decide +kernel, rfl⟩
theorem d_MD_reckon_76 : ez_at X_MD_reckon 76 (.iconst 3) 1 77 := ⟨by decide +kernel, rfl⟩
theorem d_MD_reckon_77 : ez_br X_MD_reckon 77 (.if_icmp .ne 11) 3 80 11 88 := ⟨by decide +kernel, rfl, rfl⟩
theorem d_MD_reckon_80 : ez_at X_MD_reckon 80 (.iload 4) 2 82 := ⟨by decide +kernel, rfl⟩
theorem d_MD_reckon_82 : ez_at X_MD_reckon 82 (.iload 5) 2 84 := ⟨by decide +kernel, rfl⟩
theorem d_MD_reckon_84 : ez_at X_MD_reckon 84 (.iand) 1 85 := ⟨by decide +kernel, rfl⟩
theorem d_MD_reckon_85 : ez_br X_MD_reckon 85 (.goto 21) 3 88 21 106 := ⟨by decide +kernel, rfl, rfl⟩
theorem d_MD_reckon_88 : ez_at X_MD_reckon 88 (.iload_n 3) 1 89 := ⟨by decide +kernel, rfl⟩
theorem d_MD_reckon_89 : ez_at X_MD_reckon 89 (.iconst 4) 1 90 := ⟨by decide +kernel, rfl⟩
theorem d_MD_reckon_90 : ez_br X_MD_reckon 90 (.if_icmp .ne 11) 3 93 11 101 := ⟨by decide +kernel, rfl, rfl⟩
theorem d_MD_reckon_93 : ez_at X_MD_reckon 93 (.iload 4) 2 95 := ⟨by decide +kernel, rfl⟩
theorem d_MD_reckon_95 : ez_at X_MD_reckon 95 (.iload 5) 2 97 := ⟨by decide +kernel, rfl⟩
theorem d_MD_reckon_97 : ez_at X_MD_reckon 97 (.ior) 1 98 := ⟨by decide +kernel, rfl⟩
theorem d_MD_reckon_98 : ez_br X_MD_reckon 98 (.goto 8) 3 101 8 106 := ⟨by decide +kernel, rfl, rfl⟩
theorem d_MD_reckon_101 : ez_at X_MD_reckon 101 (.iload 4) 2 103 := ⟨by decide +kernel, rfl⟩
theorem d_MD_reckon_103 : ez_at X_MD_reckon 103 (.iload 5) 2 105 := ⟨by decide +kernel, rfl⟩
theorem d_MD_reckon_105 : ez_at X_MD_reckon 105 (.ixor) 1 106 := ⟨by decide +kernel, rfl⟩
theorem d_MD_reckon_106 : ez_at X_MD_reckon 106 (.ireturn) 1 107 := ⟨by decide +kernel, rfl⟩
theorem d_MD_answer_0 : ez_at X_MD_answer 0 (.aload_n 0) 1 1 := ⟨by decide +kernel, rfl⟩
theorem d_MD_answer_1 : ez_at X_MD_answer 1 (.iload_n 1) 1 2 := ⟨by decide +kernel, rfl⟩
theorem d_MD_answer_2 : ez_at X_MD_answer 2 (.iload_n 2) 1 3 := ⟨by decide +kernel, rfl⟩
theorem d_MD_answer_3 : ez_at X_MD_answer 3 (.iload_n 3) 1 4 := ⟨by decide +kernel, rfl⟩
theorem d_MD_answer_4 : ez_at X_MD_answer 4 (.invokevirtual 112) 3 7 := ⟨by decide +kernel, rfl⟩
theorem d_MD_answer_7 : ez_at X_MD_answer 7 (.iconst 0) 1 8 := ⟨by decide +kernel, rfl⟩
theorem d_MD_answer_8 : ez_at X_MD_answer 8 (.istore 4) 2 10 := ⟨by decide +kernel, rfl⟩
theorem d_MD_answer_10 : ez_at X_MD_answer 10 (.iconst 0) 1 11 := ⟨by decide +kernel, rfl⟩
theorem d_MD_answer_11 : ez_at X_MD_answer 11 (.istore 5) 2 13 := ⟨by decide +kernel, rfl⟩
theorem d_MD_answer_13 : ez_at X_MD_answer 13 (.iload 5) 2 15 := ⟨by decide +kernel, rfl⟩
theorem d_MD_answer_15 : ez_at X_MD_answer 15 (.iconst 3) 1 16 := ⟨by decide +kernel, rfl⟩
theorem d_MD_answer_16 : ez_br X_MD_answer 16 (.if_icmp .ge 48) 3 19 48 64 := ⟨by decide +kernel, rfl, rfl⟩
theorem d_MD_answer_19 : ez_at X_MD_answer 19 (.aload_n 0) 1 20 := ⟨by decide +kernel, rfl⟩
theorem d_MD_answer_20 : ez_at X_MD_answer 20 (.getfield 29) 3 23 := ⟨by decide +kernel, rfl⟩
theorem d_MD_answer_23 : ez_at X_MD_answer 23 (.iconst 3) 1 24 := ⟨by decide +kernel, rfl⟩
theorem d_MD_answer_24 : ez_at X_MD_answer 24 (.iload_n 1) 1 25 := ⟨by decide +kernel, rfl⟩
theorem d_MD_answer_25 : ez_at X_MD_answer 25 (.imul) 1 26 := ⟨by decide +kernel, rfl⟩
theorem d_MD_answer_26 : ez_at X_MD_answer 26 (.iload 5) 2 28 := ⟨by decide +kernel, rfl⟩
theorem d_MD_answer_28 : ez_at X_MD_answer 28 (.iadd) 1 29 := ⟨by decide +kernel, rfl⟩
theorem d_MD_answer_29 : ez_at X_MD_answer 29 (.iaload) 1 30 := ⟨by decide +kernel, rfl⟩
theorem d_MD_answer_30 : ez_at X_MD_answer 30 (.istore 6) 2 32 := ⟨by decide +kernel, rfl⟩
theorem d_MD_answer_32 : ez_at X_MD_answer 32 (.iload 6) 2 34 := ⟨by decide +kernel, rfl⟩
theorem d_MD_answer_34 : ez_at X_MD_answer 34 (.iconst (-1)) 1 35 := ⟨by decide +kernel, rfl⟩
theorem d_MD_answer_35 : ez_br X_MD_answer 35 (.if_icmp .ne 8) 3 38 8 43 := ⟨by decide +kernel, rfl, rfl⟩
theorem d_MD_answer_38 : ez_at X_MD_answer 38 (.iload 4) 2 40 := ⟨by decide +kernel, rfl⟩
theorem d_MD_answer_40 : ez_br X_MD_answer 40 (.goto 16) 3 43 16 56 := ⟨by decide +kernel, rfl, rfl⟩
theorem d_MD_answer_43 : ez_at X_MD_answer 43 (.iload 4) 2 45 := ⟨by decide +kernel, rfl⟩
theorem d_MD_answer_45 : ez_at X_MD_answer 45 (.aload_n 0) 1 46 := ⟨by decide +kernel, rfl⟩
theorem d_MD_answer_46 : ez_at X_MD_answer 46 (.getfield 35) 3 49 := ⟨by decide +kernel, rfl⟩
theorem d_MD_answer_49 : ez_at X_MD_answer 49 (.iload 6) 2 51 := ⟨by decide +kernel, rfl⟩
theorem d_MD_answer_51 : ez_at X_MD_answer 51 (.iaload) 1 52 := ⟨by decide +kernel, rfl⟩
theorem d_MD_answer_52 : ez_at X_MD_answer 52 (.iload 5) 2 54 := ⟨by decide +kernel, rfl⟩
theorem d_MD_answer_54 : ez_at X_MD_answer 54 (.ishl) 1 55 := ⟨by decide +kernel, rfl⟩
theorem d_MD_answer_55 : ez_at X_MD_answer 55 (.ior) 1 56 := ⟨by decide +kernel, rfl⟩
theorem d_MD_answer_56 : ez_at X_MD_answer 56 (.istore 4) 2 58 := ⟨by decide +kernel, rfl⟩
theorem d_MD_answer_58 : ez_at X_MD_answer 58 (.iinc 5 1) 3 61 := ⟨by decide +kernel, rfl⟩
theorem d_MD_answer_61 : ez_br X_MD_answer 61 (.goto (-48)) 3 64 (-48) 13 := ⟨by decide +kernel, rfl, rfl⟩
theorem d_MD_answer_64 : ez_at X_MD_answer 64 (.iconst 3) 1 65 := ⟨by decide +kernel, rfl⟩
theorem d_MD_answer_65 : ez_at X_MD_answer 65 (.istore 5) 2 67 := ⟨by decide +kernel, rfl⟩
theorem d_MD_answer_67 : ez_at X_MD_answer 67 (.iconst 0) 1 68 := ⟨by decide +kernel, rfl⟩
theorem d_MD_answer_68 : ez_at X_MD_answer 68 (.istore 6) 2 70 := ⟨by decide +kernel, rfl⟩
theorem d_MD_answer_70 : ez_at X_MD_answer 70 (.iload 6) 2 72 := ⟨by decide +kernel, rfl⟩
theorem d_MD_answer_72 : ez_at X_MD_answer 72 (.aload_n 0) 1 73 := ⟨by decide +kernel, rfl⟩
theorem d_MD_answer_73 : ez_at X_MD_answer 73 (.getfield 13) 3 76 := ⟨by decide +kernel, rfl⟩
theorem d_MD_answer_76 : ez_at X_MD_answer 76 (.iload_n 1) 1 77 := ⟨by decide +kernel, rfl⟩
theorem d_MD_answer_77 : ez_at X_MD_answer 77 (.iaload) 1 78 := ⟨by decide +kernel, rfl⟩
theorem d_MD_answer_78 : ez_br X_MD_answer 78 (.if_icmp .ge 50) 3 81 50 128 := ⟨by decide +kernel, rfl, rfl⟩
theorem d_MD_answer_81 : ez_at X_MD_answer 81 (.aload_n 0) 1 82 := ⟨by decide +kernel, rfl⟩
theorem d_MD_answer_82 : ez_at X_MD_answer 82 (.getfield 17) 3 85 := ⟨by decide +kernel, rfl⟩
theorem d_MD_answer_85 : ez_at X_MD_answer 85 (.bipush 24) 2 87 := ⟨by decide +kernel, rfl⟩
theorem d_MD_answer_87 : ez_at X_MD_answer 87 (.iload_n 1) 1 88 := ⟨by decide +kernel, rfl⟩
theorem d_MD_answer_88 : ez_at X_MD_answer 88 (.imul) 1 89 := ⟨by decide +kernel, rfl⟩
theorem d_MD_answer_89 : ez_at X_MD_answer 89 (.iload 6) 2 91 := ⟨by decide +kernel, rfl⟩
theorem d_MD_answer_91 : ez_at X_MD_answer 91 (.iadd) 1 92 := ⟨by decide +kernel, rfl⟩
theorem d_MD_answer_92 : ez_at X_MD_answer 92 (.iaload) 1 93 := ⟨by decide +kernel, rfl⟩
theorem d_MD_answer_93 : ez_at X_MD_answer 93 (.bipush 6) 2 95 := ⟨by decide +kernel, rfl⟩
theorem d_MD_answer_95 : ez_br X_MD_answer 95 (.if_icmp .ne 27) 3 98 27 122 := ⟨by decide +kernel, rfl, rfl⟩
theorem d_MD_answer_98 : ez_at X_MD_answer 98 (.iload 4) 2 100 := ⟨by decide +kernel, rfl⟩
theorem d_MD_answer_100 : ez_at X_MD_answer 100 (.aload_n 0) 1 101 := ⟨by decide +kernel, rfl⟩
theorem d_MD_answer_101 : ez_at X_MD_answer 101 (.getfield 35) 3 104 := ⟨by decide +kernel, rfl⟩
theorem d_MD_answer_104 : ez_at X_MD_answer 104 (.aload_n 0) 1 105 := ⟨by decide +kernel, rfl⟩
theorem d_MD_answer_105 : ez_at X_MD_answer 105 (.iload_n 1) 1 106 := ⟨by decide +kernel, rfl⟩
theorem d_MD_answer_106 : ez_at X_MD_answer 106 (.iload 6) 2 108 := ⟨by decide +kernel, rfl⟩
theorem d_MD_answer_108 : ez_at X_MD_answer 108 (.iconst 0) 1 109 := ⟨by decide +kernel, rfl⟩
theorem d_MD_answer_109 : ez_at X_MD_answer 109 (.invokevirtual 85) 3 112 := ⟨by decide +kernel, rfl⟩
theorem d_MD_answer_112 : ez_at X_MD_answer 112 (.iaload) 1 113 := ⟨by decide +kernel, rfl⟩
theorem d_MD_answer_113 : ez_at X_MD_answer 113 (.iload 5) 2 115 := ⟨by decide +kernel, rfl⟩
theorem d_MD_answer_115 : ez_at X_MD_answer 115 (.ishl) 1 116 := ⟨by decide +kernel, rfl⟩
theorem d_MD_answer_116 : ez_at X_MD_answer 116 (.ior) 1 117 := ⟨by decide +kernel, rfl⟩
theorem d_MD_answer_117 : ez_at X_MD_answer 117 (.istore 4) 2 119 := ⟨by decide +kernel, rfl⟩
theorem d_MD_answer_119 : ez_at X_MD_answer 119 (.iinc 5 1) 3 122 := ⟨by decide +kernel, rfl⟩
theorem d_MD_answer_122 : ez_at X_MD_answer 122 (.iinc 6 1) 3 125 := ⟨by decide +kernel, rfl⟩
theorem d_MD_answer_125 : ez_br X_MD_answer 125 (.goto (-55)) 3 128 (-55) 70 := ⟨by decide +kernel, rfl, rfl⟩
theorem d_MD_answer_128 : ez_at X_MD_answer 128 (.iload 4) 2 130 := ⟨by decide +kernel, rfl⟩
theorem d_MD_answer_130 : ez_at X_MD_answer 130 (.ireturn) 1 131 := ⟨by decide +kernel, rfl⟩
end
section
/-! ===== decoded: MD2 ===== -/
theorem d_MD_value_0 : ez_at X_MD_value 0 (.aload_n 0) 1 1 := ⟨by decide +kernel, rfl⟩
theorem d_MD_value_1 : ez_at X_MD_value 1 (.aload_n 0) 1 2 := ⟨by decide +kernel, rfl⟩
theorem d_MD_value_2 : ez_at X_MD_value 2 (.iload_n 1) 1 3 := ⟨by decide +kernel, rfl⟩
theorem d_MD_value_3 : ez_at X_MD_value 3 (.iload_n 2) 1 4 := ⟨by decide +kernel, rfl⟩
theorem d_MD_value_4 : ez_at X_MD_value 4 (.invokevirtual 81) 3 7 := ⟨by decide +kernel, rfl⟩
theorem d_MD_value_7 : ez_br X_MD_value 7 (.ifCond .eq 16) 3 10 16 23 := ⟨by decide +kernel, rfl, rfl⟩
theorem d_MD_value_10 : ez_at X_MD_value 10 (.aload_n 0) 1 11 := ⟨by decide +kernel, rfl⟩
theorem d_MD_value_11 : ez_at X_MD_value 11 (.iload 4) 2 13 := ⟨by decide +kernel, rfl⟩
theorem d_MD_value_13 : ez_at X_MD_value 13 (.invokevirtual 89) 3 16 := ⟨by decide +kernel, rfl⟩
theorem d_MD_value_16 : ez_br X_MD_value 16 (.ifCond .eq 7) 3 19 7 23 := ⟨by decide +kernel, rfl, rfl⟩
theorem d_MD_value_19 : ez_at X_MD_value 19 (.iconst 1) 1 20 := ⟨by decide +kernel, rfl⟩
theorem d_MD_value_20 : ez_br X_MD_value 20 (.goto 4) 3 23 4 24 := ⟨by decide +kernel, rfl, rfl⟩
theorem d_MD_value_23 : ez_at X_MD_value 23 (.iconst 0) 1 24 := ⟨by decide +kernel, rfl⟩
theorem d_MD_value_24 : ez_at X_MD_value 24 (.aload_n 0) 1 25 := ⟨by decide +kernel, rfl⟩
theorem d_MD_value_25 : ez_at X_MD_value 25 (.iload_n 1) 1 26 := ⟨by decide +kernel, rfl⟩
theorem d_MD_value_26 : ez_at X_MD_value 26 (.invokevirtual 105) 3 29 := ⟨by decide +kernel, rfl⟩
theorem d_MD_value_29 : ez_at X_MD_value 29 (.invokevirtual 77) 3 32 := ⟨by decide +kernel, rfl⟩
theorem d_MD_value_32 : ez_br X_MD_value 32 (.ifCond .ne 5) 3 35 5 37 := ⟨by decide +kernel, rfl, rfl⟩
theorem d_MD_value_35 : ez_at X_MD_value 35 (.iconst 0) 1 36 := ⟨by decide +kernel, rfl⟩
theorem d_MD_value_36 : ez_at X_MD_value 36 (.ireturn) 1 37 := ⟨by decide +kernel, rfl⟩
theorem d_MD_value_37 : ez_at X_MD_value 37 (.aload_n 0) 1 38 := ⟨by decide +kernel, rfl⟩
theorem d_MD_value_38 : ez_at X_MD_value 38 (.iload_n 1) 1 39 := ⟨by decide +kernel, rfl⟩
theorem d_MD_value_39 : ez_at X_MD_value 39 (.iload_n 3) 1 40 := ⟨by decide +kernel, rfl⟩
theorem d_MD_value_40 : ez_at X_MD_value 40 (.iload 4) 2 42 := ⟨by decide +kernel, rfl⟩
theorem d_MD_value_42 : ez_at X_MD_value 42 (.invokevirtual 112) 3 45 := ⟨by decide +kernel, rfl⟩
theorem d_MD_value_45 : ez_at X_MD_value 45 (.aload_n 0) 1 46 := ⟨by decide +kernel, rfl⟩
theorem d_MD_value_46 : ez_at X_MD_value 46 (.getfield 35) 3 49 := ⟨by decide +kernel, rfl⟩
theorem d_MD_value_49 : ez_at X_MD_value 49 (.iload_n 2) 1 50 := ⟨by decide +kernel, rfl⟩
theorem d_MD_value_50 : ez_at X_MD_value 50 (.iaload) 1 51 := ⟨by decide +kernel, rfl⟩
theorem d_MD_value_51 : ez_at X_MD_value 51 (.ireturn) 1 52 := ⟨by decide +kernel, rfl⟩
theorem d_MD_tick_0 : ez_at X_MD_tick 0 (.aload_n 0) 1 1 := ⟨by decide +kernel, rfl⟩
theorem d_MD_tick_1 : ez_at X_MD_tick 1 (.iload_n 1) 1 2 := ⟨by decide +kernel, rfl⟩
theorem d_MD_tick_2 : ez_at X_MD_tick 2 (.iconst 0) 1 3 := ⟨by decide +kernel, rfl⟩
theorem d_MD_tick_3 : ez_at X_MD_tick 3 (.iconst 1) 1 4 := ⟨by decide +kernel, rfl⟩
theorem d_MD_tick_4 : ez_at X_MD_tick 4 (.invokestatic 69) 3 7 := ⟨by decide +kernel, rfl⟩
theorem d_MD_tick_7 : ez_br X_MD_tick 7 (.ifCond .eq 15) 3 10 15 22 := ⟨by decide +kernel, rfl, rfl⟩
theorem d_MD_tick_10 : ez_at X_MD_tick 10 (.aload_n 0) 1 11 := ⟨by decide +kernel, rfl⟩
theorem d_MD_tick_11 : ez_at X_MD_tick 11 (.iload_n 3) 1 12 := ⟨by decide +kernel, rfl⟩
theorem d_MD_tick_12 : ez_at X_MD_tick 12 (.invokevirtual 89) 3 15 := ⟨by decide +kernel, rfl⟩
theorem d_MD_tick_15 : ez_br X_MD_tick 15 (.ifCond .eq 7) 3 18 7 22 := ⟨by decide +kernel, rfl, rfl⟩
theorem d_MD_tick_18 : ez_at X_MD_tick 18 (.iconst 1) 1 19 := ⟨by decide +kernel, rfl⟩
theorem d_MD_tick_19 : ez_br X_MD_tick 19 (.goto 4) 3 22 4 23 := ⟨by decide +kernel, rfl, rfl⟩
theorem d_MD_tick_22 : ez_at X_MD_tick 22 (.iconst 0) 1 23 := ⟨by decide +kernel, rfl⟩
theorem d_MD_tick_23 : ez_at X_MD_tick 23 (.aload_n 0) 1 24 := ⟨by decide +kernel, rfl⟩
theorem d_MD_tick_24 : ez_at X_MD_tick 24 (.iload_n 1) 1 25 := ⟨by decide +kernel, rfl⟩
theorem d_MD_tick_25 : ez_at X_MD_tick 25 (.invokevirtual 105) 3 28 := ⟨by decide +kernel, rfl⟩
theorem d_MD_tick_28 : ez_at X_MD_tick 28 (.invokevirtual 77) 3 31 := ⟨by decide +kernel, rfl⟩
theorem d_MD_tick_31 : ez_br X_MD_tick 31 (.ifCond .eq 13) 3 34 13 44 := ⟨by decide +kernel, rfl, rfl⟩
theorem d_MD_tick_34 : ez_at X_MD_tick 34 (.aload_n 0) 1 35 := ⟨by decide +kernel, rfl⟩
theorem d_MD_tick_35 : ez_at X_MD_tick 35 (.iload_n 1) 1 36 := ⟨by decide +kernel, rfl⟩
theorem d_MD_tick_36 : ez_at X_MD_tick 36 (.iload_n 2) 1 37 := ⟨by decide +kernel, rfl⟩
theorem d_MD_tick_37 : ez_at X_MD_tick 37 (.iload_n 3) 1 38 := ⟨by decide +kernel, rfl⟩
theorem d_MD_tick_38 : ez_at X_MD_tick 38 (.invokevirtual 116) 3 41 := ⟨by decide +kernel, rfl⟩
theorem d_MD_tick_41 : ez_br X_MD_tick 41 (.goto 4) 3 44 4 45 := ⟨by decide +kernel, rfl, rfl⟩
theorem d_MD_tick_44 : ez_at X_MD_tick 44 (.iconst 0) 1 45 := ⟨by decide +kernel, rfl⟩
theorem d_MD_tick_45 : ez_at X_MD_tick 45 (.ireturn) 1 46 := ⟨by decide +kernel, rfl⟩
theorem d_MD_explore_0 : ez_at X_MD_explore 0 (.iconst 1) 1 1 := ⟨by decide +kernel, rfl⟩
theorem d_MD_explore_1 : ez_at X_MD_explore 1 (.aload_n 0) 1 2 := ⟨by decide +kernel, rfl⟩
theorem d_MD_explore_2 : ez_at X_MD_explore 2 (.iload_n 1) 1 3 := ⟨by decide +kernel, rfl⟩
theorem d_MD_explore_3 : ez_at X_MD_explore 3 (.invokevirtual 73) 3 6 := ⟨by decide +kernel, rfl⟩
theorem d_MD_explore_6 : ez_at X_MD_explore 6 (.ishl) 1 7 := ⟨by decide +kernel, rfl⟩
theorem d_MD_explore_7 : ez_at X_MD_explore 7 (.istore_n 2) 1 8 := ⟨by decide +kernel, rfl⟩
theorem d_MD_explore_8 : ez_at X_MD_explore 8 (.iconst 0) 1 9 := ⟨by decide +kernel, rfl⟩
theorem d_MD_explore_9 : ez_at X_MD_explore 9 (.istore_n 3) 1 10 := ⟨by decide +kernel, rfl⟩
theorem d_MD_explore_10 : ez_at X_MD_explore 10 (.iload_n 3) 1 11 := ⟨by decide +kernel, rfl⟩
theorem d_MD_explore_11 : ez_at X_MD_explore 11 (.bipush 32) 2 13 := ⟨by decide +kernel, rfl⟩
theorem d_MD_explore_13 : ez_br X_MD_explore 13 (.if_icmp .ge 79) 3 16 79 92 := ⟨by decide +kernel, rfl, rfl⟩
theorem d_MD_explore_16 : ez_at X_MD_explore 16 (.aload_n 0) 1 17 := ⟨by decide +kernel, rfl⟩
theorem d_MD_explore_17 : ez_at X_MD_explore 17 (.getfield 41) 3 20 := ⟨by decide +kernel, rfl⟩
theorem d_MD_explore_20 : ez_at X_MD_explore 20 (.bipush 32) 2 22 := ⟨by decide +kernel, rfl⟩
theorem d_MD_explore_22 : ez_at X_MD_explore 22 (.iload_n 1) 1 23 := ⟨by decide +kernel, rfl⟩
theorem d_MD_explore_23 : ez_at X_MD_explore 23 (.imul) 1 24 := ⟨by decide +kernel, rfl⟩
theorem d_MD_explore_24 : ez_at X_MD_explore 24 (.iload_n 3) 1 25 := ⟨by decide +kernel, rfl⟩
theorem d_MD_explore_25 : ez_at X_MD_explore 25 (.iadd) 1 26 := ⟨by decide +kernel, rfl⟩
theorem d_MD_explore_26 : ez_at X_MD_explore 26 (.iload_n 3) 1 27 := ⟨by decide +kernel, rfl⟩
theorem d_MD_explore_27 : ez_br X_MD_explore 27 (.ifCond .ne 7) 3 30 7 34 := ⟨by decide +kernel, rfl, rfl⟩
theorem d_MD_explore_30 : ez_at X_MD_explore 30 (.iconst 1) 1 31 := ⟨by decide +kernel, rfl⟩
theorem d_MD_explore_31 : ez_br X_MD_explore 31 (.goto 4) 3 34 4 35 := ⟨by decide +kernel, rfl, rfl⟩
theorem d_MD_explore_34 : ez_at X_MD_explore 34 (.iconst 0) 1 35 := ⟨by decide +kernel, rfl⟩
theorem d_MD_explore_35 : ez_at X_MD_explore 35 (.bastore) 1 36 := ⟨by decide +kernel, rfl⟩
theorem d_MD_explore_36 : ez_at X_MD_explore 36 (.iconst 0) 1 37 := ⟨by decide +kernel, rfl⟩
theorem d_MD_explore_37 : ez_at X_MD_explore 37 (.istore 4) 2 39 := ⟨by decide +kernel, rfl⟩
theorem d_MD_explore_39 : ez_at X_MD_explore 39 (.iload 4) 2 41 := ⟨by decide +kernel, rfl⟩
theorem d_MD_explore_41 : ez_at X_MD_explore 41 (.iconst 1) 1 42 := ⟨by decide +kernel, rfl⟩
theorem d_MD_explore_42 : ez_at X_MD_explore 42 (.aload_n 0) 1 43 := ⟨by decide +kernel, rfl⟩
theorem d_MD_explore_43 : ez_at X_MD_explore 43 (.getfield 62) 3 46 := ⟨by decide +kernel, rfl⟩
theorem d_MD_explore_46 : ez_at X_MD_explore 46 (.ishl) 1 47 := ⟨by decide +kernel, rfl⟩
theorem d_MD_explore_47 : ez_br X_MD_explore 47 (.if_icmp .ge 39) 3 50 39 86 := ⟨by decide +kernel, rfl, rfl⟩
theorem d_MD_explore_50 : ez_at X_MD_explore 50 (.iload_n 3) 1 51 := ⟨by decide +kernel, rfl⟩
theorem d_MD_explore_51 : ez_at X_MD_explore 51 (.iload_n 2) 1 52 := ⟨by decide +kernel, rfl⟩
theorem d_MD_explore_52 : ez_br X_MD_explore 52 (.if_icmp .ge 34) 3 55 34 86 := ⟨by decide +kernel, rfl, rfl⟩
theorem d_MD_explore_55 : ez_at X_MD_explore 55 (.aload_n 0) 1 56 := ⟨by decide +kernel, rfl⟩
theorem d_MD_explore_56 : ez_at X_MD_explore 56 (.getfield 38) 3 59 := ⟨by decide +kernel, rfl⟩
theorem d_MD_explore_59 : ez_at X_MD_explore 59 (.bipush 16) 2 61 := ⟨by decide +kernel, rfl⟩
theorem d_MD_explore_61 : ez_at X_MD_explore 61 (.bipush 32) 2 63 := ⟨by decide +kernel, rfl⟩
theorem d_MD_explore_63 : ez_at X_MD_explore 63 (.iload_n 1) 1 64 := ⟨by decide +kernel, rfl⟩
theorem d_MD_explore_64 : ez_at X_MD_explore 64 (.imul) 1 65 := ⟨by decide +kernel, rfl⟩
theorem d_MD_explore_65 : ez_at X_MD_explore 65 (.iload_n 3) 1 66 := ⟨by decide +kernel, rfl⟩
theorem d_MD_explore_66 : ez_at X_MD_explore 66 (.iadd) 1 67 := ⟨by decide +kernel, rfl⟩
theorem d_MD_explore_67 : ez_at X_MD_explore 67 (.imul) 1 68 := ⟨by decide +kernel, rfl⟩
theorem d_MD_explore_68 : ez_at X_MD_explore 68 (.iload 4) 2 70 := ⟨by decide +kernel, rfl⟩
theorem d_MD_explore_70 : ez_at X_MD_explore 70 (.iadd) 1 71 := ⟨by decide +kernel, rfl⟩
theorem d_MD_explore_71 : ez_at X_MD_explore 71 (.aload_n 0) 1 72 := ⟨by decide +kernel, rfl⟩
theorem d_MD_explore_72 : ez_at X_MD_explore 72 (.iload_n 1) 1 73 := ⟨by decide +kernel, rfl⟩
theorem d_MD_explore_73 : ez_at X_MD_explore 73 (.iload_n 3) 1 74 := ⟨by decide +kernel, rfl⟩
theorem d_MD_explore_74 : ez_at X_MD_explore 74 (.iload 4) 2 76 := ⟨by decide +kernel, rfl⟩
theorem d_MD_explore_76 : ez_at X_MD_explore 76 (.invokevirtual 116) 3 79 := ⟨by decide +kernel, rfl⟩
theorem d_MD_explore_79 : ez_at X_MD_explore 79 (.iastore) 1 80 := ⟨by decide +kernel, rfl⟩
theorem d_MD_explore_80 : ez_at X_MD_explore 80 (.iinc 4 1) 3 83 := ⟨by decide +kernel, rfl⟩
theorem d_MD_explore_83 : ez_br X_MD_explore 83 (.goto (-44)) 3 86 (-44) 39 := ⟨by decide +kernel, rfl, rfl⟩
theorem d_MD_explore_86 : ez_at X_MD_explore 86 (.iinc 3 1) 3 89 := ⟨by decide +kernel, rfl⟩
theorem d_MD_explore_89 : ez_br X_MD_explore 89 (.goto (-79)) 3 92 (-79) 10 := ⟨by decide +kernel, rfl, rfl⟩
theorem d_MD_explore_92 : ez_at X_MD_explore 92 (.iconst 1) 1 93 := ⟨by decide +kernel, rfl⟩
theorem d_MD_explore_93 : ez_at X_MD_explore 93 (.istore_n 3) 1 94 := ⟨by decide +kernel, rfl⟩
theorem d_MD_explore_94 : ez_at X_MD_explore 94 (.iload_n 3) 1 95 := ⟨by decide +kernel, rfl⟩
theorem d_MD_explore_95 : ez_br X_MD_explore 95 (.ifCond .eq 148) 3 98 148 243 := ⟨by decide +kernel, rfl, rfl⟩
theorem d_MD_explore_98 : ez_at X_MD_explore 98 (.iconst 0) 1 99 := ⟨by decide +kernel, rfl⟩
theorem d_MD_explore_99 : ez_at X_MD_explore 99 (.istore_n 3) 1 100 := ⟨by decide +kernel, rfl⟩
theorem d_MD_explore_100 : ez_at X_MD_explore 100 (.iconst 0) 1 101 := ⟨by decide +kernel, rfl⟩
theorem d_MD_explore_101 : ez_at X_MD_explore 101 (.istore 4) 2 103 := ⟨by decide +kernel, rfl⟩
theorem d_MD_explore_103 : ez_at X_MD_explore 103 (.iload 4) 2 105 := ⟨by decide +kernel, rfl⟩
theorem d_MD_explore_105 : ez_at X_MD_explore 105 (.iload_n 2) 1 106 := ⟨by decide +kernel, rfl⟩
theorem d_MD_explore_106 : ez_br X_MD_explore 106 (.if_icmp .ge 134) 3 109 134 240 := ⟨by decide +kernel, rfl, rfl⟩
theorem d_MD_explore_109 : ez_at X_MD_explore 109 (.iconst 0) 1 110 := ⟨by decide +kernel, rfl⟩
theorem d_MD_explore_110 : ez_at X_MD_explore 110 (.istore 5) 2 112 := ⟨by decide +kernel, rfl⟩
theorem d_MD_explore_112 : ez_at X_MD_explore 112 (.iload 5) 2 114 := ⟨by decide +kernel, rfl⟩
theorem d_MD_explore_114 : ez_at X_MD_explore 114 (.iconst 1) 1 115 := ⟨by decide +kernel, rfl⟩
theorem d_MD_explore_115 : ez_at X_MD_explore 115 (.aload_n 0) 1 116 := ⟨by decide +kernel, rfl⟩
theorem d_MD_explore_116 : ez_at X_MD_explore 116 (.getfield 62) 3 119 := ⟨by decide +kernel, rfl⟩
theorem d_MD_explore_119 : ez_at X_MD_explore 119 (.ishl) 1 120 := ⟨by decide +kernel, rfl⟩
theorem d_MD_explore_120 : ez_br X_MD_explore 120 (.if_icmp .ge 114) 3 123 114 234 := ⟨by decide +kernel, rfl, rfl⟩
theorem d_MD_explore_123 : ez_at X_MD_explore 123 (.aload_n 0) 1 124 := ⟨by decide +kernel, rfl⟩
theorem d_MD_explore_124 : ez_at X_MD_explore 124 (.getfield 41) 3 127 := ⟨by decide +kernel, rfl⟩
theorem d_MD_explore_127 : ez_at X_MD_explore 127 (.bipush 32) 2 129 := ⟨by decide +kernel, rfl⟩
theorem d_MD_explore_129 : ez_at X_MD_explore 129 (.iload_n 1) 1 130 := ⟨by decide +kernel, rfl⟩
theorem d_MD_explore_130 : ez_at X_MD_explore 130 (.imul) 1 131 := ⟨by decide +kernel, rfl⟩
theorem d_MD_explore_131 : ez_at X_MD_explore 131 (.iload 4) 2 133 := ⟨by decide +kernel, rfl⟩
theorem d_MD_explore_133 : ez_at X_MD_explore 133 (.iadd) 1 134 := ⟨by decide +kernel, rfl⟩
theorem d_MD_explore_134 : ez_at X_MD_explore 134 (.baload) 1 135 := ⟨by decide +kernel, rfl⟩
theorem d_MD_explore_135 : ez_br X_MD_explore 135 (.ifCond .eq 99) 3 138 99 234 := ⟨by decide +kernel, rfl, rfl⟩
theorem d_MD_explore_138 : ez_at X_MD_explore 138 (.bipush 32) 2 140 := ⟨by decide +kernel, rfl⟩
theorem d_MD_explore_140 : ez_at X_MD_explore 140 (.iload_n 1) 1 141 := ⟨by decide +kernel, rfl⟩
theorem d_MD_explore_141 : ez_at X_MD_explore 141 (.imul) 1 142 := ⟨by decide +kernel, rfl⟩
theorem d_MD_explore_142 : ez_at X_MD_explore 142 (.aload_n 0) 1 143 := ⟨by decide +kernel, rfl⟩
theorem d_MD_explore_143 : ez_at X_MD_explore 143 (.getfield 38) 3 146 := ⟨by decide +kernel, rfl⟩
theorem d_MD_explore_146 : ez_at X_MD_explore 146 (.bipush 16) 2 148 := ⟨by decide +kernel, rfl⟩
theorem d_MD_explore_148 : ez_at X_MD_explore 148 (.bipush 32) 2 150 := ⟨by decide +kernel, rfl⟩
theorem d_MD_explore_150 : ez_at X_MD_explore 150 (.iload_n 1) 1 151 := ⟨by decide +kernel, rfl⟩
theorem d_MD_explore_151 : ez_at X_MD_explore 151 (.imul) 1 152 := ⟨by decide +kernel, rfl⟩
theorem d_MD_explore_152 : ez_at X_MD_explore 152 (.iload 4) 2 154 := ⟨by decide +kernel, rfl⟩
theorem d_MD_explore_154 : ez_at X_MD_explore 154 (.iadd) 1 155 := ⟨by decide +kernel, rfl⟩
theorem d_MD_explore_155 : ez_at X_MD_explore 155 (.imul) 1 156 := ⟨by decide +kernel, rfl⟩
theorem d_MD_explore_156 : ez_at X_MD_explore 156 (.iload 5) 2 158 := ⟨by decide +kernel, rfl⟩
theorem d_MD_explore_158 : ez_at X_MD_explore 158 (.iadd) 1 159 := ⟨by decide +kernel, rfl⟩
theorem d_MD_explore_159 : ez_at X_MD_explore 159 (.iaload) 1 160 := ⟨by decide +kernel, rfl⟩
theorem d_MD_explore_160 : ez_at X_MD_explore 160 (.bipush 8) 2 162 := ⟨by decide +kernel, rfl⟩
theorem d_MD_explore_162 : ez_at X_MD_explore 162 (.idiv) 1 163 := ⟨by decide +kernel, rfl⟩
theorem d_MD_explore_163 : ez_at X_MD_explore 163 (.iadd) 1 164 := ⟨by decide +kernel, rfl⟩
theorem d_MD_explore_164 : ez_at X_MD_explore 164 (.istore 6) 2 166 := ⟨by decide +kernel, rfl⟩
theorem d_MD_explore_166 : ez_at X_MD_explore 166 (.iload_n 3) 1 167 := ⟨by decide +kernel, rfl⟩
theorem d_MD_explore_167 : ez_br X_MD_explore 167 (.ifCond .ne 23) 3 170 23 190 := ⟨by decide +kernel, rfl, rfl⟩
theorem d_MD_explore_170 : ez_at X_MD_explore 170 (.aload_n 0) 1 171 := ⟨by decide +kernel, rfl⟩
theorem d_MD_explore_171 : ez_at X_MD_explore 171 (.getfield 7) 3 174 := ⟨by decide +kernel, rfl⟩
theorem d_MD_explore_174 : ez_at X_MD_explore 174 (.iload 5) 2 176 := ⟨by decide +kernel, rfl⟩
theorem d_MD_explore_176 : ez_at X_MD_explore 176 (.baload) 1 177 := ⟨by decide +kernel, rfl⟩
theorem d_MD_explore_177 : ez_br X_MD_explore 177 (.ifCond .ne 17) 3 180 17 194 := ⟨by decide +kernel, rfl, rfl⟩
theorem d_MD_explore_180 : ez_at X_MD_explore 180 (.aload_n 0) 1 181 := ⟨by decide +kernel, rfl⟩
theorem d_MD_explore_181 : ez_at X_MD_explore 181 (.getfield 41) 3 184 := ⟨by decide +kernel, rfl⟩
theorem d_MD_explore_184 : ez_at X_MD_explore 184 (.iload 6) 2 186 := ⟨by decide +kernel, rfl⟩
theorem d_MD_explore_186 : ez_at X_MD_explore 186 (.baload) 1 187 := ⟨by decide +kernel, rfl⟩
theorem d_MD_explore_187 : ez_br X_MD_explore 187 (.ifCond .ne 7) 3 190 7 194 := ⟨by decide +kernel, rfl, rfl⟩
theorem d_MD_explore_190 : ez_at X_MD_explore 190 (.iconst 1) 1 191 := ⟨by decide +kernel, rfl⟩
theorem d_MD_explore_191 : ez_br X_MD_explore 191 (.goto 4) 3 194 4 195 := ⟨by decide +kernel, rfl, rfl⟩
theorem d_MD_explore_194 : ez_at X_MD_explore 194 (.iconst 0) 1 195 := ⟨by decide +kernel, rfl⟩
theorem d_MD_explore_195 : ez_at X_MD_explore 195 (.istore_n 3) 1 196 := ⟨by decide +kernel, rfl⟩
theorem d_MD_explore_196 : ez_at X_MD_explore 196 (.aload_n 0) 1 197 := ⟨by decide +kernel, rfl⟩
theorem d_MD_explore_197 : ez_at X_MD_explore 197 (.getfield 41) 3 200 := ⟨by decide +kernel, rfl⟩
theorem d_MD_explore_200 : ez_at X_MD_explore 200 (.iload 6) 2 202 := ⟨by decide +kernel, rfl⟩
theorem d_MD_explore_202 : ez_at X_MD_explore 202 (.aload_n 0) 1 203 := ⟨by decide +kernel, rfl⟩
theorem d_MD_explore_203 : ez_at X_MD_explore 203 (.getfield 41) 3 206 := ⟨by decide +kernel, rfl⟩
theorem d_MD_explore_206 : ez_at X_MD_explore 206 (.iload 6) 2 208 := ⟨by decide +kernel, rfl⟩
theorem d_MD_explore_208 : ez_at X_MD_explore 208 (.baload) 1 209 := ⟨by decide +kernel, rfl⟩
theorem d_MD_explore_209 : ez_br X_MD_explore 209 (.ifCond .ne 13) 3 212 13 222 := ⟨by decide +kernel, rfl, rfl⟩
theorem d_MD_explore_212 : ez_at X_MD_explore 212 (.aload_n 0) 1 213 := ⟨by decide +kernel, rfl⟩
theorem d_MD_explore_213 : ez_at X_MD_explore 213 (.getfield 7) 3 216 := ⟨by decide +kernel, rfl⟩
theorem d_MD_explore_216 : ez_at X_MD_explore 216 (.iload 5) 2 218 := ⟨by decide +kernel, rfl⟩
theorem d_MD_explore_218 : ez_at X_MD_explore 218 (.baload) 1 219 := ⟨by decide +kernel, rfl⟩
theorem d_MD_explore_219 : ez_br X_MD_explore 219 (.ifCond .ne 7) 3 222 7 226 := ⟨by decide +kernel, rfl, rfl⟩
theorem d_MD_explore_222 : ez_at X_MD_explore 222 (.iconst 1) 1 223 := ⟨by decide +kernel, rfl⟩
theorem d_MD_explore_223 : ez_br X_MD_explore 223 (.goto 4) 3 226 4 227 := ⟨by decide +kernel, rfl, rfl⟩
theorem d_MD_explore_226 : ez_at X_MD_explore 226 (.iconst 0) 1 227 := ⟨by decide +kernel, rfl⟩
theorem d_MD_explore_227 : ez_at X_MD_explore 227 (.bastore) 1 228 := ⟨by decide +kernel, rfl⟩
theorem d_MD_explore_228 : ez_at X_MD_explore 228 (.iinc 5 1) 3 231 := ⟨by decide +kernel, rfl⟩
theorem d_MD_explore_231 : ez_br X_MD_explore 231 (.goto (-119)) 3 234 (-119) 112 := ⟨by decide +kernel, rfl, rfl⟩
theorem d_MD_explore_234 : ez_at X_MD_explore 234 (.iinc 4 1) 3 237 := ⟨by decide +kernel, rfl⟩
theorem d_MD_explore_237 : ez_br X_MD_explore 237 (.goto (-134)) 3 240 (-134) 103 := ⟨by decide +kernel, rfl, rfl⟩
theorem d_MD_explore_240 : ez_br X_MD_explore 240 (.goto (-146)) 3 243 (-146) 94 := ⟨by decide +kernel, rfl, rfl⟩
theorem d_MD_explore_243 : ez_at X_MD_explore 243 (.return_) 1 244 := ⟨by decide +kernel, rfl⟩
theorem d_MD_reachedCount_0 : ez_at X_MD_reachedCount 0 (.iconst 0) 1 1 := ⟨by decide +kernel, rfl⟩
theorem d_MD_reachedCount_1 : ez_at X_MD_reachedCount 1 (.istore_n 2) 1 2 := ⟨by decide +kernel, rfl⟩
theorem d_MD_reachedCount_2 : ez_at X_MD_reachedCount 2 (.iconst 0) 1 3 := ⟨by decide +kernel, rfl⟩
theorem d_MD_reachedCount_3 : ez_at X_MD_reachedCount 3 (.istore_n 3) 1 4 := ⟨by decide +kernel, rfl⟩
theorem d_MD_reachedCount_4 : ez_at X_MD_reachedCount 4 (.iload_n 3) 1 5 := ⟨by decide +kernel, rfl⟩
theorem d_MD_reachedCount_5 : ez_at X_MD_reachedCount 5 (.bipush 32) 2 7 := ⟨by decide +kernel, rfl⟩
theorem d_MD_reachedCount_7 : ez_br X_MD_reachedCount 7 (.if_icmp .ge 31) 3 10 31 38 := ⟨by decide +kernel, rfl, rfl⟩
theorem d_MD_reachedCount_10 : ez_at X_MD_reachedCount 10 (.aload_n 0) 1 11 := ⟨by decide +kernel, rfl⟩
theorem d_MD_reachedCount_11 : ez_at X_MD_reachedCount 11 (.getfield 41) 3 14 := ⟨by decide +kernel, rfl⟩
theorem d_MD_reachedCount_14 : ez_at X_MD_reachedCount 14 (.bipush 32) 2 16 := ⟨by decide +kernel, rfl⟩
theorem d_MD_reachedCount_16 : ez_at X_MD_reachedCount 16 (.iload_n 1) 1 17 := ⟨by decide +kernel, rfl⟩
theorem d_MD_reachedCount_17 : ez_at X_MD_reachedCount 17 (.imul) 1 18 := ⟨by decide +kernel, rfl⟩
theorem d_MD_reachedCount_18 : ez_at X_MD_reachedCount 18 (.iload_n 3) 1 19 := ⟨by decide +kernel, rfl⟩
theorem d_MD_reachedCount_19 : ez_at X_MD_reachedCount 19 (.iadd) 1 20 := ⟨by decide +kernel, rfl⟩
theorem d_MD_reachedCount_20 : ez_at X_MD_reachedCount 20 (.baload) 1 21 := ⟨by decide +kernel, rfl⟩
theorem d_MD_reachedCount_21 : ez_br X_MD_reachedCount 21 (.ifCond .eq 9) 3 24 9 30 := ⟨by decide +kernel, rfl, rfl⟩
theorem d_MD_reachedCount_24 : ez_at X_MD_reachedCount 24 (.iload_n 2) 1 25 := ⟨by decide +kernel, rfl⟩
theorem d_MD_reachedCount_25 : ez_at X_MD_reachedCount 25 (.iconst 1) 1 26 := ⟨by decide +kernel, rfl⟩
theorem d_MD_reachedCount_26 : ez_at X_MD_reachedCount 26 (.iadd) 1 27 := ⟨by decide +kernel, rfl⟩
theorem d_MD_reachedCount_27 : ez_br X_MD_reachedCount 27 (.goto 4) 3 30 4 31 := ⟨by decide +kernel, rfl, rfl⟩
theorem d_MD_reachedCount_30 : ez_at X_MD_reachedCount 30 (.iload_n 2) 1 31 := ⟨by decide +kernel, rfl⟩
theorem d_MD_reachedCount_31 : ez_at X_MD_reachedCount 31 (.istore_n 2) 1 32 := ⟨by decide +kernel, rfl⟩
theorem d_MD_reachedCount_32 : ez_at X_MD_reachedCount 32 (.iinc 3 1) 3 35 := ⟨by decide +kernel, rfl⟩
theorem d_MD_reachedCount_35 : ez_br X_MD_reachedCount 35 (.goto (-31)) 3 38 (-31) 4 := ⟨by decide +kernel, rfl, rfl⟩
theorem d_MD_reachedCount_38 : ez_at X_MD_reachedCount 38 (.iload_n 2) 1 39 := ⟨by decide +kernel, rfl⟩
theorem d_MD_reachedCount_39 : ez_at X_MD_reachedCount 39 (.ireturn) 1 40 := ⟨by decide +kernel, rfl⟩
theorem d_MD_reached_0 : ez_at X_MD_reached 0 (.aload_n 0) 1 1 := ⟨by decide +kernel, rfl⟩
theorem d_MD_reached_1 : ez_at X_MD_reached 1 (.iload_n 1) 1 2 := ⟨by decide +kernel, rfl⟩
theorem d_MD_reached_2 : ez_at X_MD_reached 2 (.iconst 0) 1 3 := ⟨by decide +kernel, rfl⟩
theorem d_MD_reached_3 : ez_at X_MD_reached 3 (.iconst 1) 1 4 := ⟨by decide +kernel, rfl⟩
theorem d_MD_reached_4 : ez_at X_MD_reached 4 (.invokestatic 69) 3 7 := ⟨by decide +kernel, rfl⟩
theorem d_MD_reached_7 : ez_at X_MD_reached 7 (.aload_n 0) 1 8 := ⟨by decide +kernel, rfl⟩
theorem d_MD_reached_8 : ez_at X_MD_reached 8 (.iload_n 1) 1 9 := ⟨by decide +kernel, rfl⟩
theorem d_MD_reached_9 : ez_at X_MD_reached 9 (.invokevirtual 105) 3 12 := ⟨by decide +kernel, rfl⟩
theorem d_MD_reached_12 : ez_at X_MD_reached 12 (.invokevirtual 77) 3 15 := ⟨by decide +kernel, rfl⟩
theorem d_MD_reached_15 : ez_br X_MD_reached 15 (.ifCond .ne 5) 3 18 5 20 := ⟨by decide +kernel, rfl, rfl⟩
theorem d_MD_reached_18 : ez_at X_MD_reached 18 (.iconst 0) 1 19 := ⟨by decide +kernel, rfl⟩
theorem d_MD_reached_19 : ez_at X_MD_reached 19 (.ireturn) 1 20 := ⟨by decide +kernel, rfl⟩
theorem d_MD_reached_20 : ez_at X_MD_reached 20 (.aload_n 0) 1 21 := ⟨by decide +kernel, rfl⟩
theorem d_MD_reached_21 : ez_at X_MD_reached 21 (.iload_n 1) 1 22 := ⟨by decide +kernel, rfl⟩
theorem d_MD_reached_22 : ez_at X_MD_reached 22 (.invokevirtual 119) 3 25 := ⟨by decide +kernel, rfl⟩
theorem d_MD_reached_25 : ez_at X_MD_reached 25 (.aload_n 0) 1 26 := ⟨by decide +kernel, rfl⟩
theorem d_MD_reached_26 : ez_at X_MD_reached 26 (.iload_n 1) 1 27 := ⟨by decide +kernel, rfl⟩
theorem d_MD_reached_27 : ez_at X_MD_reached 27 (.invokevirtual 123) 3 30 := ⟨by decide +kernel, rfl⟩
theorem d_MD_reached_30 : ez_at X_MD_reached 30 (.ireturn) 1 31 := ⟨by decide +kernel, rfl⟩
theorem d_MD_state_0 : ez_at X_MD_state 0 (.aload_n 0) 1 1 := ⟨by decide +kernel, rfl⟩
theorem d_MD_state_1 : ez_at X_MD_state 1 (.iload_n 1) 1 2 := ⟨by decide +kernel, rfl⟩
theorem d_MD_state_2 : ez_at X_MD_state 2 (.iconst 0) 1 3 := ⟨by decide +kernel, rfl⟩
theorem d_MD_state_3 : ez_at X_MD_state 3 (.iconst 1) 1 4 := ⟨by decide +kernel, rfl⟩
theorem d_MD_state_4 : ez_at X_MD_state 4 (.invokestatic 69) 3 7 := ⟨by decide +kernel, rfl⟩
theorem d_MD_state_7 : ez_br X_MD_state 7 (.ifCond .eq 11) 3 10 11 18 := ⟨by decide +kernel, rfl, rfl⟩
theorem d_MD_state_10 : ez_at X_MD_state 10 (.iload_n 2) 1 11 := ⟨by decide +kernel, rfl⟩
theorem d_MD_state_11 : ez_br X_MD_state 11 (.ifCond .lt 7) 3 14 7 18 := ⟨by decide +kernel, rfl, rfl⟩
theorem d_MD_state_14 : ez_at X_MD_state 14 (.iconst 1) 1 15 := ⟨by decide +kernel, rfl⟩
theorem d_MD_state_15 : ez_br X_MD_state 15 (.goto 4) 3 18 4 19 := ⟨by decide +kernel, rfl, rfl⟩
theorem d_MD_state_18 : ez_at X_MD_state 18 (.iconst 0) 1 19 := ⟨by decide +kernel, rfl⟩
theorem d_MD_state_19 : ez_at X_MD_state 19 (.aload_n 0) 1 20 := ⟨by decide +kernel, rfl⟩
theorem d_MD_state_20 : ez_at X_MD_state 20 (.iload_n 1) 1 21 := ⟨by decide +kernel, rfl⟩
theorem d_MD_state_21 : ez_at X_MD_state 21 (.invokevirtual 105) 3 24 := ⟨by decide +kernel, rfl⟩
theorem d_MD_state_24 : ez_at X_MD_state 24 (.invokevirtual 77) 3 27 := ⟨by decide +kernel, rfl⟩
theorem d_MD_state_27 : ez_br X_MD_state 27 (.ifCond .ne 5) 3 30 5 32 := ⟨by decide +kernel, rfl, rfl⟩
theorem d_MD_state_30 : ez_at X_MD_state 30 (.iconst 0) 1 31 := ⟨by decide +kernel, rfl⟩
theorem d_MD_state_31 : ez_at X_MD_state 31 (.ireturn) 1 32 := ⟨by decide +kernel, rfl⟩
theorem d_MD_state_32 : ez_at X_MD_state 32 (.aload_n 0) 1 33 := ⟨by decide +kernel, rfl⟩
theorem d_MD_state_33 : ez_at X_MD_state 33 (.iload_n 1) 1 34 := ⟨by decide +kernel, rfl⟩
theorem d_MD_state_34 : ez_at X_MD_state 34 (.invokevirtual 119) 3 37 := ⟨by decide +kernel, rfl⟩
theorem d_MD_state_37 : ez_at X_MD_state 37 (.iload_n 2) 1 38 := ⟨by decide +kernel, rfl⟩
theorem d_MD_state_38 : ez_at X_MD_state 38 (.istore_n 3) 1 39 := ⟨by decide +kernel, rfl⟩
theorem d_MD_state_39 : ez_at X_MD_state 39 (.iconst 0) 1 40 := ⟨by decide +kernel, rfl⟩
theorem d_MD_state_40 : ez_at X_MD_state 40 (.istore 4) 2 42 := ⟨by decide +kernel, rfl⟩
theorem d_MD_state_42 : ez_at X_MD_state 42 (.iload 4) 2 44 := ⟨by decide +kernel, rfl⟩
theorem d_MD_state_44 : ez_at X_MD_state 44 (.bipush 32) 2 46 := ⟨by decide +kernel, rfl⟩
theorem d_MD_state_46 : ez_br X_MD_state 46 (.if_icmp .ge 34) 3 49 34 80 := ⟨by decide +kernel, rfl, rfl⟩
theorem d_MD_state_49 : ez_at X_MD_state 49 (.aload_n 0) 1 50 := ⟨by decide +kernel, rfl⟩
theorem d_MD_state_50 : ez_at X_MD_state 50 (.getfield 41) 3 53 := ⟨by decide +kernel, rfl⟩
theorem d_MD_state_53 : ez_at X_MD_state 53 (.bipush 32) 2 55 := ⟨by decide +kernel, rfl⟩
theorem d_MD_state_55 : ez_at X_MD_state 55 (.iload_n 1) 1 56 := ⟨by decide +kernel, rfl⟩
theorem d_MD_state_56 : ez_at X_MD_state 56 (.imul) 1 57 := ⟨by decide +kernel, rfl⟩
theorem d_MD_state_57 : ez_at X_MD_state 57 (.iload 4) 2 59 := ⟨by decide +kernel, rfl⟩
theorem d_MD_state_59 : ez_at X_MD_state 59 (.iadd) 1 60 := ⟨by decide +kernel, rfl⟩
theorem d_MD_state_60 : ez_at X_MD_state 60 (.baload) 1 61 := ⟨by decide +kernel, rfl⟩
theorem d_MD_state_61 : ez_br X_MD_state 61 (.ifCond .eq 13) 3 64 13 74 := ⟨by decide +kernel, rfl, rfl⟩
theorem d_MD_state_64 : ez_at X_MD_state 64 (.iload_n 3) 1 65 := ⟨by decide +kernel, rfl⟩
theorem d_MD_state_65 : ez_br X_MD_state 65 (.ifCond .ne 6) 3 68 6 71 := ⟨by decide +kernel, rfl, rfl⟩
theorem d_MD_state_68 : ez_at X_MD_state 68 (.iload 4) 2 70 := ⟨by decide +kernel, rfl⟩
theorem d_MD_state_70 : ez_at X_MD_state 70 (.ireturn) 1 71 := ⟨by decide +kernel, rfl⟩
theorem d_MD_state_71 : ez_at X_MD_state 71 (.iinc 3 (-1)) 3 74 := ⟨by decide +kernel, rfl⟩
theorem d_MD_state_74 : ez_at X_MD_state 74 (.iinc 4 1) 3 77 := ⟨by decide +kernel, rfl⟩
theorem d_MD_state_77 : ez_br X_MD_state 77 (.goto (-35)) 3 80 (-35) 42 := ⟨by decide +kernel, rfl, rfl⟩
theorem d_MD_state_80 : ez_at X_MD_state 80 (.iconst (-1)) 1 81 := ⟨by decide +kernel, rfl⟩
theorem d_MD_state_81 : ez_at X_MD_state 81 (.ireturn) 1 82 := ⟨by decide +kernel, rfl⟩
theorem d_MD_tells_0 : ez_at X_MD_tells 0 (.iconst 0) 1 1 := ⟨by decide +kernel, rfl⟩
theorem d_MD_tells_1 : ez_at X_MD_tells 1 (.istore 4) 2 3 := ⟨by decide +kernel, rfl⟩
theorem d_MD_tells_3 : ez_at X_MD_tells 3 (.iconst 0) 1 4 := ⟨by decide +kernel, rfl⟩
theorem d_MD_tells_4 : ez_at X_MD_tells 4 (.istore 5) 2 6 := ⟨by decide +kernel, rfl⟩
theorem d_MD_tells_6 : ez_at X_MD_tells 6 (.iload 5) 2 8 := ⟨by decide +kernel, rfl⟩
theorem d_MD_tells_8 : ez_at X_MD_tells 8 (.iconst 1) 1 9 := ⟨by decide +kernel, rfl⟩
theorem d_MD_tells_9 : ez_at X_MD_tells 9 (.aload_n 0) 1 10 := ⟨by decide +kernel, rfl⟩
theorem d_MD_tells_10 : ez_at X_MD_tells 10 (.getfield 62) 3 13 := ⟨by decide +kernel, rfl⟩
theorem d_MD_tells_13 : ez_at X_MD_tells 13 (.ishl) 1 14 := ⟨by decide +kernel, rfl⟩
theorem d_MD_tells_14 : ez_br X_MD_tells 14 (.if_icmp .ge 104) 3 17 104 118 := ⟨by decide +kernel, rfl, rfl⟩
theorem d_MD_tells_17 : ez_at X_MD_tells 17 (.aload_n 0) 1 18 := ⟨by decide +kernel, rfl⟩
theorem d_MD_tells_18 : ez_at X_MD_tells 18 (.getfield 38) 3 21 := ⟨by decide +kernel, rfl⟩
theorem d_MD_tells_21 : ez_at X_MD_tells 21 (.bipush 16) 2 23 := ⟨by decide +kernel, rfl⟩
theorem d_MD_tells_23 : ez_at X_MD_tells 23 (.bipush 32) 2 25 := ⟨by decide +kernel, rfl⟩
theorem d_MD_tells_25 : ez_at X_MD_tells 25 (.iload_n 1) 1 26 := ⟨by decide +kernel, rfl⟩
theorem d_MD_tells_26 : ez_at X_MD_tells 26 (.imul) 1 27 := ⟨by decide +kernel, rfl⟩
theorem d_MD_tells_27 : ez_at X_MD_tells 27 (.iload_n 2) 1 28 := ⟨by decide +kernel, rfl⟩
theorem d_MD_tells_28 : ez_at X_MD_tells 28 (.iadd) 1 29 := ⟨by decide +kernel, rfl⟩
theorem d_MD_tells_29 : ez_at X_MD_tells 29 (.imul) 1 30 := ⟨by decide +kernel, rfl⟩
theorem d_MD_tells_30 : ez_at X_MD_tells 30 (.iload 5) 2 32 := ⟨by decide +kernel, rfl⟩
theorem d_MD_tells_32 : ez_at X_MD_tells 32 (.iadd) 1 33 := ⟨by decide +kernel, rfl⟩
theorem d_MD_tells_33 : ez_at X_MD_tells 33 (.iaload) 1 34 := ⟨by decide +kernel, rfl⟩
theorem d_MD_tells_34 : ez_at X_MD_tells 34 (.istore 6) 2 36 := ⟨by decide +kernel, rfl⟩
theorem d_MD_tells_36 : ez_at X_MD_tells 36 (.aload_n 0) 1 37 := ⟨by decide +kernel, rfl⟩
theorem d_MD_tells_37 : ez_at X_MD_tells 37 (.getfield 38) 3 40 := ⟨by decide +kernel, rfl⟩
theorem d_MD_tells_40 : ez_at X_MD_tells 40 (.bipush 16) 2 42 := ⟨by decide +kernel, rfl⟩
theorem d_MD_tells_42 : ez_at X_MD_tells 42 (.bipush 32) 2 44 := ⟨by decide +kernel, rfl⟩
theorem d_MD_tells_44 : ez_at X_MD_tells 44 (.iload_n 1) 1 45 := ⟨by decide +kernel, rfl⟩
theorem d_MD_tells_45 : ez_at X_MD_tells 45 (.imul) 1 46 := ⟨by decide +kernel, rfl⟩
theorem d_MD_tells_46 : ez_at X_MD_tells 46 (.iload_n 3) 1 47 := ⟨by decide +kernel, rfl⟩
theorem d_MD_tells_47 : ez_at X_MD_tells 47 (.iadd) 1 48 := ⟨by decide +kernel, rfl⟩
theorem d_MD_tells_48 : ez_at X_MD_tells 48 (.imul) 1 49 := ⟨by decide +kernel, rfl⟩
theorem d_MD_tells_49 : ez_at X_MD_tells 49 (.iload 5) 2 51 := ⟨by decide +kernel, rfl⟩
theorem d_MD_tells_51 : ez_at X_MD_tells 51 (.iadd) 1 52 := ⟨by decide +kernel, rfl⟩
theorem d_MD_tells_52 : ez_at X_MD_tells 52 (.iaload) 1 53 := ⟨by decide +kernel, rfl⟩
theorem d_MD_tells_53 : ez_at X_MD_tells 53 (.istore 7) 2 55 := ⟨by decide +kernel, rfl⟩
theorem d_MD_tells_55 : ez_at X_MD_tells 55 (.iload 4) 2 57 := ⟨by decide +kernel, rfl⟩
theorem d_MD_tells_57 : ez_br X_MD_tells 57 (.ifCond .ne 48) 3 60 48 105 := ⟨by decide +kernel, rfl, rfl⟩
theorem d_MD_tells_60 : ez_at X_MD_tells 60 (.aload_n 0) 1 61 := ⟨by decide +kernel, rfl⟩
theorem d_MD_tells_61 : ez_at X_MD_tells 61 (.getfield 7) 3 64 := ⟨by decide +kernel, rfl⟩
theorem d_MD_tells_64 : ez_at X_MD_tells 64 (.iload 5) 2 66 := ⟨by decide +kernel, rfl⟩
theorem d_MD_tells_66 : ez_at X_MD_tells 66 (.baload) 1 67 := ⟨by decide +kernel, rfl⟩
theorem d_MD_tells_67 : ez_br X_MD_tells 67 (.ifCond .ne 42) 3 70 42 109 := ⟨by decide +kernel, rfl, rfl⟩
theorem d_MD_tells_70 : ez_at X_MD_tells 70 (.iload 6) 2 72 := ⟨by decide +kernel, rfl⟩
theorem d_MD_tells_72 : ez_at X_MD_tells 72 (.bipush 8) 2 74 := ⟨by decide +kernel, rfl⟩
theorem d_MD_tells_74 : ez_at X_MD_tells 74 (.irem) 1 75 := ⟨by decide +kernel, rfl⟩
theorem d_MD_tells_75 : ez_at X_MD_tells 75 (.iload 7) 2 77 := ⟨by decide +kernel, rfl⟩
theorem d_MD_tells_77 : ez_at X_MD_tells 77 (.bipush 8) 2 79 := ⟨by decide +kernel, rfl⟩
theorem d_MD_tells_79 : ez_at X_MD_tells 79 (.irem) 1 80 := ⟨by decide +kernel, rfl⟩
theorem d_MD_tells_80 : ez_br X_MD_tells 80 (.if_icmp .ne 25) 3 83 25 105 := ⟨by decide +kernel, rfl, rfl⟩
theorem d_MD_tells_83 : ez_at X_MD_tells 83 (.aload_n 0) 1 84 := ⟨by decide +kernel, rfl⟩
theorem d_MD_tells_84 : ez_at X_MD_tells 84 (.getfield 44) 3 87 := ⟨by decide +kernel, rfl⟩
theorem d_MD_tells_87 : ez_at X_MD_tells 87 (.bipush 32) 2 89 := ⟨by decide +kernel, rfl⟩
theorem d_MD_tells_89 : ez_at X_MD_tells 89 (.iload 6) 2 91 := ⟨by decide +kernel, rfl⟩
theorem d_MD_tells_91 : ez_at X_MD_tells 91 (.bipush 8) 2 93 := ⟨by decide +kernel, rfl⟩
theorem d_MD_tells_93 : ez_at X_MD_tells 93 (.idiv) 1 94 := ⟨by decide +kernel, rfl⟩
theorem d_MD_tells_94 : ez_at X_MD_tells 94 (.imul) 1 95 := ⟨by decide +kernel, rfl⟩
theorem d_MD_tells_95 : ez_at X_MD_tells 95 (.iload 7) 2 97 := ⟨by decide +kernel, rfl⟩
theorem d_MD_tells_97 : ez_at X_MD_tells 97 (.bipush 8) 2 99 := ⟨by decide +kernel, rfl⟩
theorem d_MD_tells_99 : ez_at X_MD_tells 99 (.idiv) 1 100 := ⟨by decide +kernel, rfl⟩
theorem d_MD_tells_100 : ez_at X_MD_tells 100 (.iadd) 1 101 := ⟨by decide +kernel, rfl⟩
theorem d_MD_tells_101 : ez_at X_MD_tells 101 (.baload) 1 102 := ⟨by decide +kernel, rfl⟩
theorem d_MD_tells_102 : ez_br X_MD_tells 102 (.ifCond .eq 7) 3 105 7 109 := ⟨by decide +kernel, rfl, rfl⟩
theorem d_MD_tells_105 : ez_at X_MD_tells 105 (.iconst 1) 1 106 := ⟨by decide +kernel, rfl⟩
theorem d_MD_tells_106 : ez_br X_MD_tells 106 (.goto 4) 3 109 4 110 := ⟨by decide +kernel, rfl, rfl⟩
theorem d_MD_tells_109 : ez_at X_MD_tells 109 (.iconst 0) 1 110 := ⟨by decide +kernel, rfl⟩
theorem d_MD_tells_110 : ez_at X_MD_tells 110 (.istore 4) 2 112 := ⟨by decide +kernel, rfl⟩
theorem d_MD_tells_112 : ez_at X_MD_tells 112 (.iinc 5 1) 3 115 := ⟨by decide +kernel, rfl⟩
theorem d_MD_tells_115 : ez_br X_MD_tells 115 (.goto (-109)) 3 118 (-109) 6 := ⟨by decide +kernel, rfl, rfl⟩
theorem d_MD_tells_118 : ez_at X_MD_tells 118 (.iload 4) 2 120 := ⟨by decide +kernel, rfl⟩
theorem d_MD_tells_120 : ez_at X_MD_tells 120 (.ireturn) 1 121 := ⟨by decide +kernel, rfl⟩
theorem d_MD_least_0 : ez_at X_MD_least 0 (.aload_n 0) 1 1 := ⟨by decide +kernel, rfl⟩
theorem d_MD_least_1 : ez_at X_MD_least 1 (.iload_n 1) 1 2 := ⟨by decide +kernel, rfl⟩
theorem d_MD_least_2 : ez_at X_MD_least 2 (.iconst 0) 1 3 := ⟨by decide +kernel, rfl⟩
theorem d_MD_least_3 : ez_at X_MD_least 3 (.iconst 1) 1 4 := ⟨by decide +kernel, rfl⟩
theorem d_MD_least_4 : ez_at X_MD_least 4 (.invokestatic 69) 3 7 := ⟨by decide +kernel, rfl⟩
theorem d_MD_least_7 : ez_at X_MD_least 7 (.aload_n 0) 1 8 := ⟨by decide +kernel, rfl⟩
theorem d_MD_least_8 : ez_at X_MD_least 8 (.iload_n 1) 1 9 := ⟨by decide +kernel, rfl⟩
theorem d_MD_least_9 : ez_at X_MD_least 9 (.invokevirtual 105) 3 12 := ⟨by decide +kernel, rfl⟩
theorem d_MD_least_12 : ez_at X_MD_least 12 (.invokevirtual 77) 3 15 := ⟨by decide +kernel, rfl⟩
theorem d_MD_least_15 : ez_br X_MD_least 15 (.ifCond .ne 5) 3 18 5 20 := ⟨by decide +kernel, rfl, rfl⟩
theorem d_MD_least_18 : ez_at X_MD_least 18 (.iconst 0) 1 19 := ⟨by decide +kernel, rfl⟩
theorem d_MD_least_19 : ez_at X_MD_least 19 (.ireturn) 1 20 := ⟨by decide +kernel, rfl⟩
theorem d_MD_least_20 : ez_at X_MD_least 20 (.aload_n 0) 1 21 := ⟨by decide +kernel, rfl⟩
theorem d_MD_least_21 : ez_at X_MD_least 21 (.iload_n 1) 1 22 := ⟨by decide +kernel, rfl⟩
theorem d_MD_least_22 : ez_at X_MD_least 22 (.invokevirtual 119) 3 25 := ⟨by decide +kernel, rfl⟩
theorem d_MD_least_25 : ez_at X_MD_least 25 (.iconst 0) 1 26 := ⟨by decide +kernel, rfl⟩
theorem d_MD_least_26 : ez_at X_MD_least 26 (.istore_n 2) 1 27 := ⟨by decide +kernel, rfl⟩
theorem d_MD_least_27 : ez_at X_MD_least 27 (.iload_n 2) 1 28 := ⟨by decide +kernel, rfl⟩
theorem d_MD_least_28 : ez_at X_MD_least 28 (.sipush 1024) 3 31 := ⟨by decide +kernel, rfl⟩
theorem d_MD_least_31 : ez_br X_MD_least 31 (.if_icmp .ge 16) 3 34 16 47 := ⟨by decide +kernel, rfl, rfl⟩
theorem d_MD_least_34 : ez_at X_MD_least 34 (.aload_n 0) 1 35 := ⟨by decide +kernel, rfl⟩
theorem d_MD_least_35 : ez_at X_MD_least 35 (.getfield 44) 3 38 := ⟨by decide +kernel, rfl⟩
theorem d_MD_least_38 : ez_at X_MD_least 38 (.iload_n 2) 1 39 := ⟨by decide +kernel, rfl⟩
theorem d_MD_least_39 : ez_at X_MD_least 39 (.iconst 0) 1 40 := ⟨by decide +kernel, rfl⟩
theorem d_MD_least_40 : ez_at X_MD_least 40 (.bastore) 1 41 := ⟨by decide +kernel, rfl⟩
theorem d_MD_least_41 : ez_at X_MD_least 41 (.iinc 2 1) 3 44 := ⟨by decide +kernel, rfl⟩
theorem d_MD_least_44 : ez_br X_MD_least 44 (.goto (-17)) 3 47 (-17) 27 := ⟨by decide +kernel, rfl, rfl⟩
theorem d_MD_least_47 : ez_at X_MD_least 47 (.iconst 1) 1 48 := ⟨by decide +kernel, rfl⟩
theorem d_MD_least_48 : ez_at X_MD_least 48 (.aload_n 0) 1 49 := ⟨by decide +kernel, rfl⟩
theorem d_MD_least_49 : ez_at X_MD_least 49 (.iload_n 1) 1 50 := ⟨by decide +kernel, rfl⟩
theorem d_MD_least_50 : ez_at X_MD_least 50 (.invokevirtual 73) 3 53 := ⟨by decide +kernel, rfl⟩
theorem d_MD_least_53 : ez_at X_MD_least 53 (.ishl) 1 54 := ⟨by decide +kernel, rfl⟩
theorem d_MD_least_54 : ez_at X_MD_least 54 (.istore_n 2) 1 55 := ⟨by decide +kernel, rfl⟩
theorem d_MD_least_55 : ez_at X_MD_least 55 (.iconst 1) 1 56 := ⟨by decide +kernel, rfl⟩
theorem d_MD_least_56 : ez_at X_MD_least 56 (.istore_n 3) 1 57 := ⟨by decide +kernel, rfl⟩
theorem d_MD_least_57 : ez_at X_MD_least 57 (.iload_n 3) 1 58 := ⟨by decide +kernel, rfl⟩
theorem d_MD_least_58 : ez_br X_MD_least 58 (.ifCond .eq 127) 3 61 127 185 := ⟨by decide +kernel, rfl, rfl⟩
theorem d_MD_least_61 : ez_at X_MD_least 61 (.iconst 0) 1 62 := ⟨by decide +kernel, rfl⟩
theorem d_MD_least_62 : ez_at X_MD_least 62 (.istore_n 3) 1 63 := ⟨by decide +kernel, rfl⟩
theorem d_MD_least_63 : ez_at X_MD_least 63 (.iconst 0) 1 64 := ⟨by decide +kernel, rfl⟩
theorem d_MD_least_64 : ez_at X_MD_least 64 (.istore 4) 2 66 := ⟨by decide +kernel, rfl⟩
theorem d_MD_least_66 : ez_at X_MD_least 66 (.iload 4) 2 68 := ⟨by decide +kernel, rfl⟩
theorem d_MD_least_68 : ez_at X_MD_least 68 (.iload_n 2) 1 69 := ⟨by decide +kernel, rfl⟩
theorem d_MD_least_69 : ez_br X_MD_least 69 (.if_icmp .ge 113) 3 72 113 182 := ⟨by decide +kernel, rfl, rfl⟩
theorem d_MD_least_72 : ez_at X_MD_least 72 (.iconst 0) 1 73 := ⟨by decide +kernel, rfl⟩
theorem d_MD_least_73 : ez_at X_MD_least 73 (.istore 5) 2 75 := ⟨by decide +kernel, rfl⟩
theorem d_MD_least_75 : ez_at X_MD_least 75 (.iload 5) 2 77 := ⟨by decide +kernel, rfl⟩
theorem d_MD_least_77 : ez_at X_MD_least 77 (.iload_n 2) 1 78 := ⟨by decide +kernel, rfl⟩
theorem d_MD_least_78 : ez_br X_MD_least 78 (.if_icmp .ge 98) 3 81 98 176 := ⟨by decide +kernel, rfl, rfl⟩
theorem d_MD_least_81 : ez_at X_MD_least 81 (.aload_n 0) 1 82 := ⟨by decide +kernel, rfl⟩
theorem d_MD_least_82 : ez_at X_MD_least 82 (.getfield 44) 3 85 := ⟨by decide +kernel, rfl⟩
theorem d_MD_least_85 : ez_at X_MD_least 85 (.bipush 32) 2 87 := ⟨by decide +kernel, rfl⟩
theorem d_MD_least_87 : ez_at X_MD_least 87 (.iload 4) 2 89 := ⟨by decide +kernel, rfl⟩
theorem d_MD_least_89 : ez_at X_MD_least 89 (.imul) 1 90 := ⟨by decide +kernel, rfl⟩
theorem d_MD_least_90 : ez_at X_MD_least 90 (.iload 5) 2 92 := ⟨by decide +kernel, rfl⟩
theorem d_MD_least_92 : ez_at X_MD_least 92 (.iadd) 1 93 := ⟨by decide +kernel, rfl⟩
theorem d_MD_least_93 : ez_at X_MD_least 93 (.baload) 1 94 := ⟨by decide +kernel, rfl⟩
theorem d_MD_least_94 : ez_br X_MD_least 94 (.ifCond .ne 19) 3 97 19 113 := ⟨by decide +kernel, rfl, rfl⟩
theorem d_MD_least_97 : ez_at X_MD_least 97 (.aload_n 0) 1 98 := ⟨by decide +kernel, rfl⟩
theorem d_MD_least_98 : ez_at X_MD_least 98 (.iload_n 1) 1 99 := ⟨by decide +kernel, rfl⟩
theorem d_MD_least_99 : ez_at X_MD_least 99 (.iload 4) 2 101 := ⟨by decide +kernel, rfl⟩
theorem d_MD_least_101 : ez_at X_MD_least 101 (.iload 5) 2 103 := ⟨by decide +kernel, rfl⟩
theorem d_MD_least_103 : ez_at X_MD_least 103 (.invokevirtual 126) 3 106 := ⟨by decide +kernel, rfl⟩
theorem d_MD_least_106 : ez_br X_MD_least 106 (.ifCond .eq 7) 3 109 7 113 := ⟨by decide +kernel, rfl, rfl⟩
theorem d_MD_least_109 : ez_at X_MD_least 109 (.iconst 1) 1 110 := ⟨by decide +kernel, rfl⟩
theorem d_MD_least_110 : ez_br X_MD_least 110 (.goto 4) 3 113 4 114 := ⟨by decide +kernel, rfl, rfl⟩
theorem d_MD_least_113 : ez_at X_MD_least 113 (.iconst 0) 1 114 := ⟨by decide +kernel, rfl⟩
theorem d_MD_least_114 : ez_at X_MD_least 114 (.istore 6) 2 116 := ⟨by decide +kernel, rfl⟩
theorem d_MD_least_116 : ez_at X_MD_least 116 (.iload_n 3) 1 117 := ⟨by decide +kernel, rfl⟩
theorem d_MD_least_117 : ez_br X_MD_least 117 (.ifCond .ne 8) 3 120 8 125 := ⟨by decide +kernel, rfl, rfl⟩
theorem d_MD_least_120 : ez_at X_MD_least 120 (.iload 6) 2 122 := ⟨by decide +kernel, rfl⟩
theorem d_MD_least_122 : ez_br X_MD_least 122 (.ifCond .eq 7) 3 125 7 129 := ⟨by decide +kernel, rfl, rfl⟩
theorem d_MD_least_125 : ez_at X_MD_least 125 (.iconst 1) 1 126 := ⟨by decide +kernel, rfl⟩
theorem d_MD_least_126 : ez_br X_MD_least 126 (.goto 4) 3 129 4 130 := ⟨by decide +kernel, rfl, rfl⟩
theorem d_MD_least_129 : ez_at X_MD_least 129 (.iconst 0) 1 130 := ⟨by decide +kernel, rfl⟩
theorem d_MD_least_130 : ez_at X_MD_least 130 (.istore_n 3) 1 131 := ⟨by decide +kernel, rfl⟩
theorem d_MD_least_131 : ez_at X_MD_least 131 (.aload_n 0) 1 132 := ⟨by decide +kernel, rfl⟩
theorem d_MD_least_132 : ez_at X_MD_least 132 (.getfield 44) 3 135 := ⟨by decide +kernel, rfl⟩
theorem d_MD_least_135 : ez_at X_MD_least 135 (.bipush 32) 2 137 := ⟨by decide +kernel, rfl⟩
theorem d_MD_least_137 : ez_at X_MD_least 137 (.iload 4) 2 139 := ⟨by decide +kernel, rfl⟩
theorem d_MD_least_139 : ez_at X_MD_least 139 (.imul) 1 140 := ⟨by decide +kernel, rfl⟩
theorem d_MD_least_140 : ez_at X_MD_least 140 (.iload 5) 2 142 := ⟨by decide +kernel, rfl⟩
theorem d_MD_least_142 : ez_at X_MD_least 142 (.iadd) 1 143 := ⟨by decide +kernel, rfl⟩
theorem d_MD_least_143 : ez_at X_MD_least 143 (.aload_n 0) 1 144 := ⟨by decide +kernel, rfl⟩
theorem d_MD_least_144 : ez_at X_MD_least 144 (.getfield 44) 3 147 := ⟨by decide +kernel, rfl⟩
theorem d_MD_least_147 : ez_at X_MD_least 147 (.bipush 32) 2 149 := ⟨by decide +kernel, rfl⟩
theorem d_MD_least_149 : ez_at X_MD_least 149 (.iload 4) 2 151 := ⟨by decide +kernel, rfl⟩
theorem d_MD_least_151 : ez_at X_MD_least 151 (.imul) 1 152 := ⟨by decide +kernel, rfl⟩
theorem d_MD_least_152 : ez_at X_MD_least 152 (.iload 5) 2 154 := ⟨by decide +kernel, rfl⟩
theorem d_MD_least_154 : ez_at X_MD_least 154 (.iadd) 1 155 := ⟨by decide +kernel, rfl⟩
theorem d_MD_least_155 : ez_at X_MD_least 155 (.baload) 1 156 := ⟨by decide +kernel, rfl⟩
theorem d_MD_least_156 : ez_br X_MD_least 156 (.ifCond .ne 8) 3 159 8 164 := ⟨by decide +kernel, rfl, rfl⟩
theorem d_MD_least_159 : ez_at X_MD_least 159 (.iload 6) 2 161 := ⟨by decide +kernel, rfl⟩
theorem d_MD_least_161 : ez_br X_MD_least 161 (.ifCond .eq 7) 3 164 7 168 := ⟨by decide +kernel, rfl, rfl⟩
theorem d_MD_least_164 : ez_at X_MD_least 164 (.iconst 1) 1 165 := ⟨by decide +kernel, rfl⟩
theorem d_MD_least_165 : ez_br X_MD_least 165 (.goto 4) 3 168 4 169 := ⟨by decide +kernel, rfl, rfl⟩
theorem d_MD_least_168 : ez_at X_MD_least 168 (.iconst 0) 1 169 := ⟨by decide +kernel, rfl⟩
theorem d_MD_least_169 : ez_at X_MD_least 169 (.bastore) 1 170 := ⟨by decide +kernel, rfl⟩
theorem d_MD_least_170 : ez_at X_MD_least 170 (.iinc 5 1) 3 173 := ⟨by decide +kernel, rfl⟩
theorem d_MD_least_173 : ez_br X_MD_least 173 (.goto (-98)) 3 176 (-98) 75 := ⟨by decide +kernel, rfl, rfl⟩
theorem d_MD_least_176 : ez_at X_MD_least 176 (.iinc 4 1) 3 179 := ⟨by decide +kernel, rfl⟩
theorem d_MD_least_179 : ez_br X_MD_least 179 (.goto (-113)) 3 182 (-113) 66 := ⟨by decide +kernel, rfl, rfl⟩
theorem d_MD_least_182 : ez_br X_MD_least 182 (.goto (-125)) 3 185 (-125) 57 := ⟨by decide +kernel, rfl, rfl⟩
theorem d_MD_least_185 : ez_at X_MD_least 185 (.iconst 0) 1 186 := ⟨by decide +kernel, rfl⟩
theorem d_MD_least_186 : ez_at X_MD_least 186 (.istore 4) 2 188 := ⟨by decide +kernel, rfl⟩
theorem d_MD_least_188 : ez_at X_MD_least 188 (.iconst 0) 1 189 := ⟨by decide +kernel, rfl⟩
theorem d_MD_least_189 : ez_at X_MD_least 189 (.istore 5) 2 191 := ⟨by decide +kernel, rfl⟩
theorem d_MD_least_191 : ez_at X_MD_least 191 (.iload 5) 2 193 := ⟨by decide +kernel, rfl⟩
theorem d_MD_least_193 : ez_at X_MD_least 193 (.iload_n 2) 1 194 := ⟨by decide +kernel, rfl⟩
theorem d_MD_least_194 : ez_br X_MD_least 194 (.if_icmp .ge 98) 3 197 98 292 := ⟨by decide +kernel, rfl, rfl⟩
theorem d_MD_least_197 : ez_at X_MD_least 197 (.aload_n 0) 1 198 := ⟨by decide +kernel, rfl⟩
theorem d_MD_least_198 : ez_at X_MD_least 198 (.getfield 41) 3 201 := ⟨by decide +kernel, rfl⟩
theorem d_MD_least_201 : ez_at X_MD_least 201 (.bipush 32) 2 203 := ⟨by decide +kernel, rfl⟩
theorem d_MD_least_203 : ez_at X_MD_least 203 (.iload_n 1) 1 204 := ⟨by decide +kernel, rfl⟩
theorem d_MD_least_204 : ez_at X_MD_least 204 (.imul) 1 205 := ⟨by decide +kernel, rfl⟩
theorem d_MD_least_205 : ez_at X_MD_least 205 (.iload 5) 2 207 := ⟨by decide +kernel, rfl⟩
theorem d_MD_least_207 : ez_at X_MD_least 207 (.iadd) 1 208 := ⟨by decide +kernel, rfl⟩
theorem d_MD_least_208 : ez_at X_MD_least 208 (.baload) 1 209 := ⟨by decide +kernel, rfl⟩
theorem d_MD_least_209 : ez_at X_MD_least 209 (.istore 6) 2 211 := ⟨by decide +kernel, rfl⟩
theorem d_MD_least_211 : ez_at X_MD_least 211 (.iconst 0) 1 212 := ⟨by decide +kernel, rfl⟩
theorem d_MD_least_212 : ez_at X_MD_least 212 (.istore 7) 2 214 := ⟨by decide +kernel, rfl⟩
theorem d_MD_least_214 : ez_at X_MD_least 214 (.iload 7) 2 216 := ⟨by decide +kernel, rfl⟩
theorem d_MD_least_216 : ez_at X_MD_least 216 (.iload 5) 2 218 := ⟨by decide +kernel, rfl⟩
theorem d_MD_least_218 : ez_br X_MD_least 218 (.if_icmp .ge 52) 3 221 52 270 := ⟨by decide +kernel, rfl, rfl⟩
theorem d_MD_least_221 : ez_at X_MD_least 221 (.iload 6) 2 223 := ⟨by decide +kernel, rfl⟩
theorem d_MD_least_223 : ez_br X_MD_least 223 (.ifCond .eq 38) 3 226 38 261 := ⟨by decide +kernel, rfl, rfl⟩
theorem d_MD_least_226 : ez_at X_MD_least 226 (.aload_n 0) 1 227 := ⟨by decide +kernel, rfl⟩
theorem d_MD_least_227 : ez_at X_MD_least 227 (.getfield 41) 3 230 := ⟨by decide +kernel, rfl⟩
theorem d_MD_least_230 : ez_at X_MD_least 230 (.bipush 32) 2 232 := ⟨by decide +kernel, rfl⟩
theorem d_MD_least_232 : ez_at X_MD_least 232 (.iload_n 1) 1 233 := ⟨by decide +kernel, rfl⟩
theorem d_MD_least_233 : ez_at X_MD_least 233 (.imul) 1 234 := ⟨by decide +kernel, rfl⟩
theorem d_MD_least_234 : ez_at X_MD_least 234 (.iload 7) 2 236 := ⟨by decide +kernel, rfl⟩
theorem d_MD_least_236 : ez_at X_MD_least 236 (.iadd) 1 237 := ⟨by decide +kernel, rfl⟩
theorem d_MD_least_237 : ez_at X_MD_least 237 (.baload) 1 238 := ⟨by decide +kernel, rfl⟩
theorem d_MD_least_238 : ez_br X_MD_least 238 (.ifCond .eq 19) 3 241 19 257 := ⟨by decide +kernel, rfl, rfl⟩
theorem d_MD_least_241 : ez_at X_MD_least 241 (.aload_n 0) 1 242 := ⟨by decide +kernel, rfl⟩
theorem d_MD_least_242 : ez_at X_MD_least 242 (.getfield 44) 3 245 := ⟨by decide +kernel, rfl⟩
theorem d_MD_least_245 : ez_at X_MD_least 245 (.bipush 32) 2 247 := ⟨by decide +kernel, rfl⟩
theorem d_MD_least_247 : ez_at X_MD_least 247 (.iload 5) 2 249 := ⟨by decide +kernel, rfl⟩
theorem d_MD_least_249 : ez_at X_MD_least 249 (.imul) 1 250 := ⟨by decide +kernel, rfl⟩
theorem d_MD_least_250 : ez_at X_MD_least 250 (.iload 7) 2 252 := ⟨by decide +kernel, rfl⟩
theorem d_MD_least_252 : ez_at X_MD_least 252 (.iadd) 1 253 := ⟨by decide +kernel, rfl⟩
theorem d_MD_least_253 : ez_at X_MD_least 253 (.baload) 1 254 := ⟨by decide +kernel, rfl⟩
theorem d_MD_least_254 : ez_br X_MD_least 254 (.ifCond .eq 7) 3 257 7 261 := ⟨by decide +kernel, rfl, rfl⟩
theorem d_MD_least_257 : ez_at X_MD_least 257 (.iconst 1) 1 258 := ⟨by decide +kernel, rfl⟩
theorem d_MD_least_258 : ez_br X_MD_least 258 (.goto 4) 3 261 4 262 := ⟨by decide +kernel, rfl, rfl⟩
theorem d_MD_least_261 : ez_at X_MD_least 261 (.iconst 0) 1 262 := ⟨by decide +kernel, rfl⟩
theorem d_MD_least_262 : ez_at X_MD_least 262 (.istore 6) 2 264 := ⟨by decide +kernel, rfl⟩
theorem d_MD_least_264 : ez_at X_MD_least 264 (.iinc 7 1) 3 267 := ⟨by decide +kernel, rfl⟩
theorem d_MD_least_267 : ez_br X_MD_least 267 (.goto (-53)) 3 270 (-53) 214 := ⟨by decide +kernel, rfl, rfl⟩
theorem d_MD_least_270 : ez_at X_MD_least 270 (.iload 6) 2 272 := ⟨by decide +kernel, rfl⟩
theorem d_MD_least_272 : ez_br X_MD_least 272 (.ifCond .eq 10) 3 275 10 282 := ⟨by decide +kernel, rfl, rfl⟩
theorem d_MD_least_275 : ez_at X_MD_least 275 (.iload 4) 2 277 := ⟨by decide +kernel, rfl⟩
theorem d_MD_least_277 : ez_at X_MD_least 277 (.iconst 1) 1 278 := ⟨by decide +kernel, rfl⟩
theorem d_MD_least_278 : ez_at X_MD_least 278 (.iadd) 1 279 := ⟨by decide +kernel, rfl⟩
theorem d_MD_least_279 : ez_br X_MD_least 279 (.goto 5) 3 282 5 284 := ⟨by decide +kernel, rfl, rfl⟩
theorem d_MD_least_282 : ez_at X_MD_least 282 (.iload 4) 2 284 := ⟨by decide +kernel, rfl⟩
theorem d_MD_least_284 : ez_at X_MD_least 284 (.istore 4) 2 286 := ⟨by decide +kernel, rfl⟩
theorem d_MD_least_286 : ez_at X_MD_least 286 (.iinc 5 1) 3 289 := ⟨by decide +kernel, rfl⟩
theorem d_MD_least_289 : ez_br X_MD_least 289 (.goto (-98)) 3 292 (-98) 191 := ⟨by decide +kernel, rfl, rfl⟩
theorem d_MD_least_292 : ez_at X_MD_least 292 (.iload 4) 2 294 := ⟨by decide +kernel, rfl⟩
theorem d_MD_least_294 : ez_at X_MD_least 294 (.ireturn) 1 295 := ⟨by decide +kernel, rfl⟩
theorem d_MD_meet_0 : ez_at X_MD_meet 0 (.aload_n 0) 1 1 := ⟨by decide +kernel, rfl⟩
theorem d_MD_meet_1 : ez_at X_MD_meet 1 (.getfield 56) 3 4 := ⟨by decide +kernel, rfl⟩
theorem d_MD_meet_4 : ez_at X_MD_meet 4 (.iload_n 1) 1 5 := ⟨by decide +kernel, rfl⟩
theorem d_MD_meet_5 : ez_at X_MD_meet 5 (.baload) 1 6 := ⟨by decide +kernel, rfl⟩
theorem d_MD_meet_6 : ez_br X_MD_meet 6 (.ifCond .ne 50) 3 9 50 56 := ⟨by decide +kernel, rfl, rfl⟩
theorem d_MD_meet_9 : ez_at X_MD_meet 9 (.aload_n 0) 1 10 := ⟨by decide +kernel, rfl⟩
theorem d_MD_meet_10 : ez_at X_MD_meet 10 (.getfield 56) 3 13 := ⟨by decide +kernel, rfl⟩
theorem d_MD_meet_13 : ez_at X_MD_meet 13 (.iload_n 1) 1 14 := ⟨by decide +kernel, rfl⟩
theorem d_MD_meet_14 : ez_at X_MD_meet 14 (.iconst 1) 1 15 := ⟨by decide +kernel, rfl⟩
theorem d_MD_meet_15 : ez_at X_MD_meet 15 (.bastore) 1 16 := ⟨by decide +kernel, rfl⟩
theorem d_MD_meet_16 : ez_at X_MD_meet 16 (.aload_n 0) 1 17 := ⟨by decide +kernel, rfl⟩
theorem d_MD_meet_17 : ez_at X_MD_meet 17 (.getfield 47) 3 20 := ⟨by decide +kernel, rfl⟩
theorem d_MD_meet_20 : ez_at X_MD_meet 20 (.aload_n 0) 1 21 := ⟨by decide +kernel, rfl⟩
theorem d_MD_meet_21 : ez_at X_MD_meet 21 (.getfield 129) 3 24 := ⟨by decide +kernel, rfl⟩
theorem d_MD_meet_24 : ez_at X_MD_meet 24 (.iload_n 1) 1 25 := ⟨by decide +kernel, rfl⟩
theorem d_MD_meet_25 : ez_at X_MD_meet 25 (.iastore) 1 26 := ⟨by decide +kernel, rfl⟩
theorem d_MD_meet_26 : ez_at X_MD_meet 26 (.aload_n 0) 1 27 := ⟨by decide +kernel, rfl⟩
theorem d_MD_meet_27 : ez_at X_MD_meet 27 (.getfield 50) 3 30 := ⟨by decide +kernel, rfl⟩
theorem d_MD_meet_30 : ez_at X_MD_meet 30 (.aload_n 0) 1 31 := ⟨by decide +kernel, rfl⟩
theorem d_MD_meet_31 : ez_at X_MD_meet 31 (.getfield 129) 3 34 := ⟨by decide +kernel, rfl⟩
theorem d_MD_meet_34 : ez_at X_MD_meet 34 (.iload_n 2) 1 35 := ⟨by decide +kernel, rfl⟩
theorem d_MD_meet_35 : ez_at X_MD_meet 35 (.iastore) 1 36 := ⟨by decide +kernel, rfl⟩
theorem d_MD_meet_36 : ez_at X_MD_meet 36 (.aload_n 0) 1 37 := ⟨by decide +kernel, rfl⟩
theorem d_MD_meet_37 : ez_at X_MD_meet 37 (.getfield 53) 3 40 := ⟨by decide +kernel, rfl⟩
theorem d_MD_meet_40 : ez_at X_MD_meet 40 (.aload_n 0) 1 41 := ⟨by decide +kernel, rfl⟩
theorem d_MD_meet_41 : ez_at X_MD_meet 41 (.getfield 129) 3 44 := ⟨by decide +kernel, rfl⟩
theorem d_MD_meet_44 : ez_at X_MD_meet 44 (.iload_n 3) 1 45 := ⟨by decide +kernel, rfl⟩
theorem d_MD_meet_45 : ez_at X_MD_meet 45 (.iastore) 1 46 := ⟨by decide +kernel, rfl⟩
theorem d_MD_meet_46 : ez_at X_MD_meet 46 (.aload_n 0) 1 47 := ⟨by decide +kernel, rfl⟩
theorem d_MD_meet_47 : ez_at X_MD_meet 47 (.dup) 1 48 := ⟨by decide +kernel, rfl⟩
theorem d_MD_meet_48 : ez_at X_MD_meet 48 (.getfield 129) 3 51 := ⟨by decide +kernel, rfl⟩
theorem d_MD_meet_51 : ez_at X_MD_meet 51 (.iconst 1) 1 52 := ⟨by decide +kernel, rfl⟩
theorem d_MD_meet_52 : ez_at X_MD_meet 52 (.iadd) 1 53 := ⟨by decide +kernel, rfl⟩
theorem d_MD_meet_53 : ez_at X_MD_meet 53 (.putfield 129) 3 56 := ⟨by decide +kernel, rfl⟩
theorem d_MD_meet_56 : ez_at X_MD_meet 56 (.return_) 1 57 := ⟨by decide +kernel, rfl⟩
theorem d_MD_goOver_0 : ez_at X_MD_goOver 0 (.aload_n 0) 1 1 := ⟨by decide +kernel, rfl⟩
theorem d_MD_goOver_1 : ez_at X_MD_goOver 1 (.iconst 0) 1 2 := ⟨by decide +kernel, rfl⟩
theorem d_MD_goOver_2 : ez_at X_MD_goOver 2 (.invokevirtual 119) 3 5 := ⟨by decide +kernel, rfl⟩
theorem d_MD_goOver_5 : ez_at X_MD_goOver 5 (.aload_n 0) 1 6 := ⟨by decide +kernel, rfl⟩
theorem d_MD_goOver_6 : ez_at X_MD_goOver 6 (.iconst 1) 1 7 := ⟨by decide +kernel, rfl⟩
theorem d_MD_goOver_7 : ez_at X_MD_goOver 7 (.invokevirtual 119) 3 10 := ⟨by decide +kernel, rfl⟩
theorem d_MD_goOver_10 : ez_at X_MD_goOver 10 (.iconst 0) 1 11 := ⟨by decide +kernel, rfl⟩
theorem d_MD_goOver_11 : ez_at X_MD_goOver 11 (.istore_n 1) 1 12 := ⟨by decide +kernel, rfl⟩
theorem d_MD_goOver_12 : ez_at X_MD_goOver 12 (.iload_n 1) 1 13 := ⟨by decide +kernel, rfl⟩
theorem d_MD_goOver_13 : ez_at X_MD_goOver 13 (.sipush 1024) 3 16 := ⟨by decide +kernel, rfl⟩
theorem d_MD_goOver_16 : ez_br X_MD_goOver 16 (.if_icmp .ge 16) 3 19 16 32 := ⟨by decide +kernel, rfl, rfl⟩
theorem d_MD_goOver_19 : ez_at X_MD_goOver 19 (.aload_n 0) 1 20 := ⟨by decide +kernel, rfl⟩
theorem d_MD_goOver_20 : ez_at X_MD_goOver 20 (.getfield 56) 3 23 := ⟨by decide +kernel, rfl⟩
theorem d_MD_goOver_23 : ez_at X_MD_goOver 23 (.iload_n 1) 1 24 := ⟨by decide +kernel, rfl⟩
theorem d_MD_goOver_24 : ez_at X_MD_goOver 24 (.iconst 0) 1 25 := ⟨by decide +kernel, rfl⟩
theorem d_MD_goOver_25 : ez_at X_MD_goOver 25 (.bastore) 1 26 := ⟨by decide +kernel, rfl⟩
theorem d_MD_goOver_26 : ez_at X_MD_goOver 26 (.iinc 1 1) 3 29 := ⟨by decide +kernel, rfl⟩
theorem d_MD_goOver_29 : ez_br X_MD_goOver 29 (.goto (-17)) 3 32 (-17) 12 := ⟨by decide +kernel, rfl, rfl⟩
theorem d_MD_goOver_32 : ez_at X_MD_goOver 32 (.aload_n 0) 1 33 := ⟨by decide +kernel, rfl⟩
theorem d_MD_goOver_33 : ez_at X_MD_goOver 33 (.iconst 0) 1 34 := ⟨by decide +kernel, rfl⟩
theorem d_MD_goOver_34 : ez_at X_MD_goOver 34 (.putfield 129) 3 37 := ⟨by decide +kernel, rfl⟩
theorem d_MD_goOver_37 : ez_at X_MD_goOver 37 (.aload_n 0) 1 38 := ⟨by decide +kernel, rfl⟩
theorem d_MD_goOver_38 : ez_at X_MD_goOver 38 (.iconst (-1)) 1 39 := ⟨by decide +kernel, rfl⟩
theorem d_MD_goOver_39 : ez_at X_MD_goOver 39 (.putfield 132) 3 42 := ⟨by decide +kernel, rfl⟩
theorem d_MD_goOver_42 : ez_at X_MD_goOver 42 (.aload_n 0) 1 43 := ⟨by decide +kernel, rfl⟩
theorem d_MD_goOver_43 : ez_at X_MD_goOver 43 (.iconst 0) 1 44 := ⟨by decide +kernel, rfl⟩
theorem d_MD_goOver_44 : ez_at X_MD_goOver 44 (.iconst (-1)) 1 45 := ⟨by decide +kernel, rfl⟩
theorem d_MD_goOver_45 : ez_at X_MD_goOver 45 (.iconst (-1)) 1 46 := ⟨by decide +kernel, rfl⟩
theorem d_MD_goOver_46 : ez_at X_MD_goOver 46 (.invokevirtual 135) 3 49 := ⟨by decide +kernel, rfl⟩
theorem d_MD_goOver_49 : ez_at X_MD_goOver 49 (.iconst 0) 1 50 := ⟨by decide +kernel, rfl⟩
theorem d_MD_goOver_50 : ez_at X_MD_goOver 50 (.istore_n 1) 1 51 := ⟨by decide +kernel, rfl⟩
theorem d_MD_goOver_51 : ez_at X_MD_goOver 51 (.iload_n 1) 1 52 := ⟨by decide +kernel, rfl⟩
theorem d_MD_goOver_52 : ez_at X_MD_goOver 52 (.aload_n 0) 1 53 := ⟨by decide +kernel, rfl⟩
theorem d_MD_goOver_53 : ez_at X_MD_goOver 53 (.getfield 129) 3 56 := ⟨by decide +kernel, rfl⟩
theorem d_MD_goOver_56 : ez_br X_MD_goOver 56 (.if_icmp .ge 138) 3 59 138 194 := ⟨by decide +kernel, rfl, rfl⟩
theorem d_MD_goOver_59 : ez_at X_MD_goOver 59 (.iconst 0) 1 60 := ⟨by decide +kernel, rfl⟩
theorem d_MD_goOver_60 : ez_at X_MD_goOver 60 (.istore_n 2) 1 61 := ⟨by decide +kernel, rfl⟩
theorem d_MD_goOver_61 : ez_at X_MD_goOver 61 (.iload_n 2) 1 62 := ⟨by decide +kernel, rfl⟩
theorem d_MD_goOver_62 : ez_at X_MD_goOver 62 (.iconst 1) 1 63 := ⟨by decide +kernel, rfl⟩
theorem d_MD_goOver_63 : ez_at X_MD_goOver 63 (.aload_n 0) 1 64 := ⟨by decide +kernel, rfl⟩
theorem d_MD_goOver_64 : ez_at X_MD_goOver 64 (.getfield 62) 3 67 := ⟨by decide +kernel, rfl⟩
theorem d_MD_goOver_67 : ez_at X_MD_goOver 67 (.ishl) 1 68 := ⟨by decide +kernel, rfl⟩
theorem d_MD_goOver_68 : ez_br X_MD_goOver 68 (.if_icmp .ge 120) 3 71 120 188 := ⟨by decide +kernel, rfl, rfl⟩
theorem d_MD_goOver_71 : ez_at X_MD_goOver 71 (.aload_n 0) 1 72 := ⟨by decide +kernel, rfl⟩
theorem d_MD_goOver_72 : ez_at X_MD_goOver 72 (.getfield 38) 3 75 := ⟨by decide +kernel, rfl⟩
theorem d_MD_goOver_75 : ez_at X_MD_goOver 75 (.bipush 16) 2 77 := ⟨by decide +kernel, rfl⟩
theorem d_MD_goOver_77 : ez_at X_MD_goOver 77 (.aload_n 0) 1 78 := ⟨by decide +kernel, rfl⟩
theorem d_MD_goOver_78 : ez_at X_MD_goOver 78 (.getfield 47) 3 81 := ⟨by decide +kernel, rfl⟩
theorem d_MD_goOver_81 : ez_at X_MD_goOver 81 (.iload_n 1) 1 82 := ⟨by decide +kernel, rfl⟩
theorem d_MD_goOver_82 : ez_at X_MD_goOver 82 (.iaload) 1 83 := ⟨by decide +kernel, rfl⟩
theorem d_MD_goOver_83 : ez_at X_MD_goOver 83 (.bipush 32) 2 85 := ⟨by decide +kernel, rfl⟩
theorem d_MD_goOver_85 : ez_at X_MD_goOver 85 (.idiv) 1 86 := ⟨by decide +kernel, rfl⟩
theorem d_MD_goOver_86 : ez_at X_MD_goOver 86 (.imul) 1 87 := ⟨by decide +kernel, rfl⟩
theorem d_MD_goOver_87 : ez_at X_MD_goOver 87 (.iload_n 2) 1 88 := ⟨by decide +kernel, rfl⟩
theorem d_MD_goOver_88 : ez_at X_MD_goOver 88 (.iadd) 1 89 := ⟨by decide +kernel, rfl⟩
theorem d_MD_goOver_89 : ez_at X_MD_goOver 89 (.iaload) 1 90 := ⟨by decide +kernel, rfl⟩
theorem d_MD_goOver_90 : ez_at X_MD_goOver 90 (.istore_n 3) 1 91 := ⟨by decide +kernel, rfl⟩
theorem d_MD_goOver_91 : ez_at X_MD_goOver 91 (.aload_n 0) 1 92 := ⟨by decide +kernel, rfl⟩
theorem d_MD_goOver_92 : ez_at X_MD_goOver 92 (.getfield 38) 3 95 := ⟨by decide +kernel, rfl⟩
theorem d_MD_goOver_95 : ez_at X_MD_goOver 95 (.bipush 16) 2 97 := ⟨by decide +kernel, rfl⟩
theorem d_MD_goOver_97 : ez_at X_MD_goOver 97 (.bipush 32) 2 99 := ⟨by decide +kernel, rfl⟩
theorem d_MD_goOver_99 : ez_at X_MD_goOver 99 (.aload_n 0) 1 100 := ⟨by decide +kernel, rfl⟩
theorem d_MD_goOver_100 : ez_at X_MD_goOver 100 (.getfield 47) 3 103 := ⟨by decide +kernel, rfl⟩
theorem d_MD_goOver_103 : ez_at X_MD_goOver 103 (.iload_n 1) 1 104 := ⟨by decide +kernel, rfl⟩
theorem d_MD_goOver_104 : ez_at X_MD_goOver 104 (.iaload) 1 105 := ⟨by decide +kernel, rfl⟩
theorem d_MD_goOver_105 : ez_at X_MD_goOver 105 (.bipush 32) 2 107 := ⟨by decide +kernel, rfl⟩
theorem d_MD_goOver_107 : ez_at X_MD_goOver 107 (.irem) 1 108 := ⟨by decide +kernel, rfl⟩
theorem d_MD_goOver_108 : ez_at X_MD_goOver 108 (.iadd) 1 109 := ⟨by decide +kernel, rfl⟩
theorem d_MD_goOver_109 : ez_at X_MD_goOver 109 (.imul) 1 110 := ⟨by decide +kernel, rfl⟩
theorem d_MD_goOver_110 : ez_at X_MD_goOver 110 (.iload_n 2) 1 111 := ⟨by decide +kernel, rfl⟩
theorem d_MD_goOver_111 : ez_at X_MD_goOver 111 (.iadd) 1 112 := ⟨by decide +kernel, rfl⟩
theorem d_MD_goOver_112 : ez_at X_MD_goOver 112 (.iaload) 1 113 := ⟨by decide +kernel, rfl⟩
theorem d_MD_goOver_113 : ez_at X_MD_goOver 113 (.istore 4) 2 115 := ⟨by decide +kernel, rfl⟩
theorem d_MD_goOver_115 : ez_at X_MD_goOver 115 (.aload_n 0) 1 116 := ⟨by decide +kernel, rfl⟩
theorem d_MD_goOver_116 : ez_at X_MD_goOver 116 (.getfield 7) 3 119 := ⟨by decide +kernel, rfl⟩
theorem d_MD_goOver_119 : ez_at X_MD_goOver 119 (.iload_n 2) 1 120 := ⟨by decide +kernel, rfl⟩
theorem d_MD_goOver_120 : ez_at X_MD_goOver 120 (.baload) 1 121 := ⟨by decide +kernel, rfl⟩
theorem d_MD_goOver_121 : ez_br X_MD_goOver 121 (.ifCond .ne 33) 3 124 33 154 := ⟨by decide +kernel, rfl, rfl⟩
theorem d_MD_goOver_124 : ez_at X_MD_goOver 124 (.aload_n 0) 1 125 := ⟨by decide +kernel, rfl⟩
theorem d_MD_goOver_125 : ez_at X_MD_goOver 125 (.getfield 132) 3 128 := ⟨by decide +kernel, rfl⟩
theorem d_MD_goOver_128 : ez_at X_MD_goOver 128 (.iconst (-1)) 1 129 := ⟨by decide +kernel, rfl⟩
theorem d_MD_goOver_129 : ez_br X_MD_goOver 129 (.if_icmp .ne 25) 3 132 25 154 := ⟨by decide +kernel, rfl, rfl⟩
theorem d_MD_goOver_132 : ez_at X_MD_goOver 132 (.iload_n 3) 1 133 := ⟨by decide +kernel, rfl⟩
theorem d_MD_goOver_133 : ez_at X_MD_goOver 133 (.bipush 8) 2 135 := ⟨by decide +kernel, rfl⟩
theorem d_MD_goOver_135 : ez_at X_MD_goOver 135 (.irem) 1 136 := ⟨by decide +kernel, rfl⟩
theorem d_MD_goOver_136 : ez_at X_MD_goOver 136 (.iload 4) 2 138 := ⟨by decide +kernel, rfl⟩
theorem d_MD_goOver_138 : ez_at X_MD_goOver 138 (.bipush 8) 2 140 := ⟨by decide +kernel, rfl⟩
theorem d_MD_goOver_140 : ez_at X_MD_goOver 140 (.irem) 1 141 := ⟨by decide +kernel, rfl⟩
theorem d_MD_goOver_141 : ez_br X_MD_goOver 141 (.if_icmp .eq 13) 3 144 13 154 := ⟨by decide +kernel, rfl, rfl⟩
theorem d_MD_goOver_144 : ez_at X_MD_goOver 144 (.aload_n 0) 1 145 := ⟨by decide +kernel, rfl⟩
theorem d_MD_goOver_145 : ez_at X_MD_goOver 145 (.iload_n 1) 1 146 := ⟨by decide +kernel, rfl⟩
theorem d_MD_goOver_146 : ez_at X_MD_goOver 146 (.putfield 132) 3 149 := ⟨by decide +kernel, rfl⟩
theorem d_MD_goOver_149 : ez_at X_MD_goOver 149 (.aload_n 0) 1 150 := ⟨by decide +kernel, rfl⟩
theorem d_MD_goOver_150 : ez_at X_MD_goOver 150 (.iload_n 2) 1 151 := ⟨by decide +kernel, rfl⟩
theorem d_MD_goOver_151 : ez_at X_MD_goOver 151 (.putfield 138) 3 154 := ⟨by decide +kernel, rfl⟩
theorem d_MD_goOver_154 : ez_at X_MD_goOver 154 (.aload_n 0) 1 155 := ⟨by decide +kernel, rfl⟩
theorem d_MD_goOver_155 : ez_at X_MD_goOver 155 (.getfield 7) 3 158 := ⟨by decide +kernel, rfl⟩
theorem d_MD_goOver_158 : ez_at X_MD_goOver 158 (.iload_n 2) 1 159 := ⟨by decide +kernel, rfl⟩
theorem d_MD_goOver_159 : ez_at X_MD_goOver 159 (.baload) 1 160 := ⟨by decide +kernel, rfl⟩
theorem d_MD_goOver_160 : ez_br X_MD_goOver 160 (.ifCond .ne 22) 3 163 22 182 := ⟨by decide +kernel, rfl, rfl⟩
theorem d_MD_goOver_163 : ez_at X_MD_goOver 163 (.aload_n 0) 1 164 := ⟨by decide +kernel, rfl⟩
theorem d_MD_goOver_164 : ez_at X_MD_goOver 164 (.bipush 32) 2 166 := ⟨by decide +kernel, rfl⟩
theorem d_MD_goOver_166 : ez_at X_MD_goOver 166 (.iload_n 3) 1 167 := ⟨by decide +kernel, rfl⟩
theorem d_MD_goOver_167 : ez_at X_MD_goOver 167 (.bipush 8) 2 169 := ⟨by decide +kernel, rfl⟩
theorem d_MD_goOver_169 : ez_at X_MD_goOver 169 (.idiv) 1 170 := ⟨by decide +kernel, rfl⟩
theorem d_MD_goOver_170 : ez_at X_MD_goOver 170 (.imul) 1 171 := ⟨by decide +kernel, rfl⟩
theorem d_MD_goOver_171 : ez_at X_MD_goOver 171 (.iload 4) 2 173 := ⟨by decide +kernel, rfl⟩
theorem d_MD_goOver_173 : ez_at X_MD_goOver 173 (.bipush 8) 2 175 := ⟨by decide +kernel, rfl⟩
theorem d_MD_goOver_175 : ez_at X_MD_goOver 175 (.idiv) 1 176 := ⟨by decide +kernel, rfl⟩
theorem d_MD_goOver_176 : ez_at X_MD_goOver 176 (.iadd) 1 177 := ⟨by decide +kernel, rfl⟩
theorem d_MD_goOver_177 : ez_at X_MD_goOver 177 (.iload_n 1) 1 178 := ⟨by decide +kernel, rfl⟩
theorem d_MD_goOver_178 : ez_at X_MD_goOver 178 (.iload_n 2) 1 179 := ⟨by decide +kernel, rfl⟩
theorem d_MD_goOver_179 : ez_at X_MD_goOver 179 (.invokevirtual 135) 3 182 := ⟨by decide +kernel, rfl⟩
theorem d_MD_goOver_182 : ez_at X_MD_goOver 182 (.iinc 2 1) 3 185 := ⟨by decide +kernel, rfl⟩
theorem d_MD_goOver_185 : ez_br X_MD_goOver 185 (.goto (-124)) 3 188 (-124) 61 := ⟨by decide +kernel, rfl, rfl⟩
theorem d_MD_goOver_188 : ez_at X_MD_goOver 188 (.iinc 1 1) 3 191 := ⟨by decide +kernel, rfl⟩
theorem d_MD_goOver_191 : ez_br X_MD_goOver 191 (.goto (-140)) 3 194 (-140) 51 := ⟨by decide +kernel, rfl, rfl⟩
theorem d_MD_goOver_194 : ez_at X_MD_goOver 194 (.return_) 1 195 := ⟨by decide +kernel, rfl⟩
theorem d_MD_shownCount_0 : ez_at X_MD_shownCount 0 (.iconst 0) 1 1 := ⟨by decide +kernel, rfl⟩
theorem d_MD_shownCount_1 : ez_at X_MD_shownCount 1 (.istore_n 1) 1 2 := ⟨by decide +kernel, rfl⟩
theorem d_MD_shownCount_2 : ez_at X_MD_shownCount 2 (.aload_n 0) 1 3 := ⟨by decide +kernel, rfl⟩
theorem d_MD_shownCount_3 : ez_at X_MD_shownCount 3 (.getfield 132) 3 6 := ⟨by decide +kernel, rfl⟩
theorem d_MD_shownCount_6 : ez_at X_MD_shownCount 6 (.istore_n 2) 1 7 := ⟨by decide +kernel, rfl⟩
theorem d_MD_shownCount_7 : ez_at X_MD_shownCount 7 (.iload_n 2) 1 8 := ⟨by decide +kernel, rfl⟩
theorem d_MD_shownCount_8 : ez_at X_MD_shownCount 8 (.iconst (-1)) 1 9 := ⟨by decide +kernel, rfl⟩
theorem d_MD_shownCount_9 : ez_br X_MD_shownCount 9 (.if_icmp .eq 16) 3 12 16 25 := ⟨by decide +kernel, rfl, rfl⟩
theorem d_MD_shownCount_12 : ez_at X_MD_shownCount 12 (.iinc 1 1) 3 15 := ⟨by decide +kernel, rfl⟩
theorem d_MD_shownCount_15 : ez_at X_MD_shownCount 15 (.aload_n 0) 1 16 := ⟨by decide +kernel, rfl⟩
theorem d_MD_shownCount_16 : ez_at X_MD_shownCount 16 (.getfield 50) 3 19 := ⟨by decide +kernel, rfl⟩
theorem d_MD_shownCount_19 : ez_at X_MD_shownCount 19 (.iload_n 2) 1 20 := ⟨by decide +kernel, rfl⟩
theorem d_MD_shownCount_20 : ez_at X_MD_shownCount 20 (.iaload) 1 21 := ⟨by decide +kernel, rfl⟩
theorem d_MD_shownCount_21 : ez_at X_MD_shownCount 21 (.istore_n 2) 1 22 := ⟨by decide +kernel, rfl⟩
theorem d_MD_shownCount_22 : ez_br X_MD_shownCount 22 (.goto (-15)) 3 25 (-15) 7 := ⟨by decide +kernel, rfl, rfl⟩
theorem d_MD_shownCount_25 : ez_at X_MD_shownCount 25 (.iload_n 1) 1 26 := ⟨by decide +kernel, rfl⟩
theorem d_MD_shownCount_26 : ez_at X_MD_shownCount 26 (.ireturn) 1 27 := ⟨by decide +kernel, rfl⟩
theorem d_MD_compare_0 : ez_at X_MD_compare 0 (.aload_n 0) 1 1 := ⟨by decide +kernel, rfl⟩
theorem d_MD_compare_1 : ez_at X_MD_compare 1 (.aload_n 0) 1 2 := ⟨by decide +kernel, rfl⟩
theorem d_MD_compare_2 : ez_at X_MD_compare 2 (.invokevirtual 141) 3 5 := ⟨by decide +kernel, rfl⟩
theorem d_MD_compare_5 : ez_at X_MD_compare 5 (.iconst 1) 1 6 := ⟨by decide +kernel, rfl⟩
theorem d_MD_compare_6 : ez_at X_MD_compare 6 (.invokevirtual 77) 3 9 := ⟨by decide +kernel, rfl⟩
theorem d_MD_compare_9 : ez_br X_MD_compare 9 (.ifCond .ne 5) 3 12 5 14 := ⟨by decide +kernel, rfl, rfl⟩
theorem d_MD_compare_12 : ez_at X_MD_compare 12 (.iconst 0) 1 13 := ⟨by decide +kernel, rfl⟩
theorem d_MD_compare_13 : ez_at X_MD_compare 13 (.ireturn) 1 14 := ⟨by decide +kernel, rfl⟩
theorem d_MD_compare_14 : ez_at X_MD_compare 14 (.aload_n 0) 1 15 := ⟨by decide +kernel, rfl⟩
theorem d_MD_compare_15 : ez_at X_MD_compare 15 (.invokevirtual 145) 3 18 := ⟨by decide +kernel, rfl⟩
theorem d_MD_compare_18 : ez_at X_MD_compare 18 (.aload_n 0) 1 19 := ⟨by decide +kernel, rfl⟩
theorem d_MD_compare_19 : ez_at X_MD_compare 19 (.invokevirtual 148) 3 22 := ⟨by decide +kernel, rfl⟩
theorem d_MD_compare_22 : ez_at X_MD_compare 22 (.ireturn) 1 23 := ⟨by decide +kernel, rfl⟩
theorem d_MD_shown_0 : ez_at X_MD_shown 0 (.aload_n 0) 1 1 := ⟨by decide +kernel, rfl⟩
theorem d_MD_shown_1 : ez_at X_MD_shown 1 (.invokevirtual 141) 3 4 := ⟨by decide +kernel, rfl⟩
theorem d_MD_shown_4 : ez_at X_MD_shown 4 (.istore_n 2) 1 5 := ⟨by decide +kernel, rfl⟩
theorem d_MD_shown_5 : ez_at X_MD_shown 5 (.iconst 0) 1 6 := ⟨by decide +kernel, rfl⟩
theorem d_MD_shown_6 : ez_at X_MD_shown 6 (.istore_n 3) 1 7 := ⟨by decide +kernel, rfl⟩
theorem d_MD_shown_7 : ez_at X_MD_shown 7 (.iload_n 2) 1 8 := ⟨by decide +kernel, rfl⟩
theorem d_MD_shown_8 : ez_br X_MD_shown 8 (.ifCond .eq 12) 3 11 12 20 := ⟨by decide +kernel, rfl, rfl⟩
theorem d_MD_shown_11 : ez_at X_MD_shown 11 (.aload_n 0) 1 12 := ⟨by decide +kernel, rfl⟩
theorem d_MD_shown_12 : ez_at X_MD_shown 12 (.invokevirtual 145) 3 15 := ⟨by decide +kernel, rfl⟩
theorem d_MD_shown_15 : ez_at X_MD_shown 15 (.aload_n 0) 1 16 := ⟨by decide +kernel, rfl⟩
theorem d_MD_shown_16 : ez_at X_MD_shown 16 (.invokevirtual 148) 3 19 := ⟨by decide +kernel, rfl⟩
theorem d_MD_shown_19 : ez_at X_MD_shown 19 (.istore_n 3) 1 20 := ⟨by decide +kernel, rfl⟩
theorem d_MD_shown_20 : ez_at X_MD_shown 20 (.aload_n 0) 1 21 := ⟨by decide +kernel, rfl⟩
theorem d_MD_shown_21 : ez_at X_MD_shown 21 (.iload_n 1) 1 22 := ⟨by decide +kernel, rfl⟩
theorem d_MD_shown_22 : ez_br X_MD_shown 22 (.ifCond .lt 16) 3 25 16 38 := ⟨by decide +kernel, rfl, rfl⟩
theorem d_MD_shown_25 : ez_at X_MD_shown 25 (.iload_n 2) 1 26 := ⟨by decide +kernel, rfl⟩
theorem d_MD_shown_26 : ez_br X_MD_shown 26 (.ifCond .eq 8) 3 29 8 34 := ⟨by decide +kernel, rfl, rfl⟩
theorem d_MD_shown_29 : ez_at X_MD_shown 29 (.iload_n 1) 1 30 := ⟨by decide +kernel, rfl⟩
theorem d_MD_shown_30 : ez_at X_MD_shown 30 (.iload_n 3) 1 31 := ⟨by decide +kernel, rfl⟩
theorem d_MD_shown_31 : ez_br X_MD_shown 31 (.if_icmp .ge 7) 3 34 7 38 := ⟨by decide +kernel, rfl, rfl⟩
theorem d_MD_shown_34 : ez_at X_MD_shown 34 (.iconst 1) 1 35 := ⟨by decide +kernel, rfl⟩
theorem d_MD_shown_35 : ez_br X_MD_shown 35 (.goto 4) 3 38 4 39 := ⟨by decide +kernel, rfl, rfl⟩
theorem d_MD_shown_38 : ez_at X_MD_shown 38 (.iconst 0) 1 39 := ⟨by decide +kernel, rfl⟩
theorem d_MD_shown_39 : ez_at X_MD_shown 39 (.iload_n 2) 1 40 := ⟨by decide +kernel, rfl⟩
theorem d_MD_shown_40 : ez_at X_MD_shown 40 (.invokevirtual 77) 3 43 := ⟨by decide +kernel, rfl⟩
theorem d_MD_shown_43 : ez_br X_MD_shown 43 (.ifCond .ne 5) 3 46 5 48 := ⟨by decide +kernel, rfl, rfl⟩
theorem d_MD_shown_46 : ez_at X_MD_shown 46 (.iconst 0) 1 47 := ⟨by decide +kernel, rfl⟩
theorem d_MD_shown_47 : ez_at X_MD_shown 47 (.ireturn) 1 48 := ⟨by decide +kernel, rfl⟩
theorem d_MD_shown_48 : ez_at X_MD_shown 48 (.iload_n 1) 1 49 := ⟨by decide +kernel, rfl⟩
theorem d_MD_shown_49 : ez_at X_MD_shown 49 (.iload_n 3) 1 50 := ⟨by decide +kernel, rfl⟩
theorem d_MD_shown_50 : ez_at X_MD_shown 50 (.iconst 1) 1 51 := ⟨by decide +kernel, rfl⟩
theorem d_MD_shown_51 : ez_at X_MD_shown 51 (.isub) 1 52 := ⟨by decide +kernel, rfl⟩
theorem d_MD_shown_52 : ez_br X_MD_shown 52 (.if_icmp .ne 8) 3 55 8 60 := ⟨by decide +kernel, rfl, rfl⟩
theorem d_MD_shown_55 : ez_at X_MD_shown 55 (.aload_n 0) 1 56 := ⟨by decide +kernel, rfl⟩
theorem d_MD_shown_56 : ez_at X_MD_shown 56 (.getfield 138) 3 59 := ⟨by decide +kernel, rfl⟩
theorem d_MD_shown_59 : ez_at X_MD_shown 59 (.ireturn) 1 60 := ⟨by decide +kernel, rfl⟩
theorem d_MD_shown_60 : ez_at X_MD_shown 60 (.aload_n 0) 1 61 := ⟨by decide +kernel, rfl⟩
theorem d_MD_shown_61 : ez_at X_MD_shown 61 (.getfield 132) 3 64 := ⟨by decide +kernel, rfl⟩
theorem d_MD_shown_64 : ez_at X_MD_shown 64 (.istore 4) 2 66 := ⟨by decide +kernel, rfl⟩
theorem d_MD_shown_66 : ez_at X_MD_shown 66 (.iload_n 3) 1 67 := ⟨by decide +kernel, rfl⟩
theorem d_MD_shown_67 : ez_at X_MD_shown 67 (.iconst 2) 1 68 := ⟨by decide +kernel, rfl⟩
theorem d_MD_shown_68 : ez_at X_MD_shown 68 (.isub) 1 69 := ⟨by decide +kernel, rfl⟩
theorem d_MD_shown_69 : ez_at X_MD_shown 69 (.istore 5) 2 71 := ⟨by decide +kernel, rfl⟩
theorem d_MD_shown_71 : ez_at X_MD_shown 71 (.iload 5) 2 73 := ⟨by decide +kernel, rfl⟩
theorem d_MD_shown_73 : ez_at X_MD_shown 73 (.iload_n 1) 1 74 := ⟨by decide +kernel, rfl⟩
theorem d_MD_shown_74 : ez_br X_MD_shown 74 (.if_icmp .le 18) 3 77 18 92 := ⟨by decide +kernel, rfl, rfl⟩
theorem d_MD_shown_77 : ez_at X_MD_shown 77 (.aload_n 0) 1 78 := ⟨by decide +kernel, rfl⟩
theorem d_MD_shown_78 : ez_at X_MD_shown 78 (.getfield 50) 3 81 := ⟨by decide +kernel, rfl⟩
theorem d_MD_shown_81 : ez_at X_MD_shown 81 (.iload 4) 2 83 := ⟨by decide +kernel, rfl⟩
theorem d_MD_shown_83 : ez_at X_MD_shown 83 (.iaload) 1 84 := ⟨by decide +kernel, rfl⟩
theorem d_MD_shown_84 : ez_at X_MD_shown 84 (.istore 4) 2 86 := ⟨by decide +kernel, rfl⟩
theorem d_MD_shown_86 : ez_at X_MD_shown 86 (.iinc 5 (-1)) 3 89 := ⟨by decide +kernel, rfl⟩
theorem d_MD_shown_89 : ez_br X_MD_shown 89 (.goto (-18)) 3 92 (-18) 71 := ⟨by decide +kernel, rfl, rfl⟩
theorem d_MD_shown_92 : ez_at X_MD_shown 92 (.aload_n 0) 1 93 := ⟨by decide +kernel, rfl⟩
theorem d_MD_shown_93 : ez_at X_MD_shown 93 (.getfield 53) 3 96 := ⟨by decide +kernel, rfl⟩
theorem d_MD_shown_96 : ez_at X_MD_shown 96 (.iload 4) 2 98 := ⟨by decide +kernel, rfl⟩
theorem d_MD_shown_98 : ez_at X_MD_shown 98 (.iaload) 1 99 := ⟨by decide +kernel, rfl⟩
theorem d_MD_shown_99 : ez_at X_MD_shown 99 (.ireturn) 1 100 := ⟨by decide +kernel, rfl⟩
theorem d_MD_last_0 : ez_at X_MD_last 0 (.aload_n 0) 1 1 := ⟨by decide +kernel, rfl⟩
theorem d_MD_last_1 : ez_at X_MD_last 1 (.iload_n 1) 1 2 := ⟨by decide +kernel, rfl⟩
theorem d_MD_last_2 : ez_at X_MD_last 2 (.iconst 0) 1 3 := ⟨by decide +kernel, rfl⟩
theorem d_MD_last_3 : ez_at X_MD_last 3 (.iconst 1) 1 4 := ⟨by decide +kernel, rfl⟩
theorem d_MD_last_4 : ez_at X_MD_last 4 (.invokestatic 69) 3 7 := ⟨by decide +kernel, rfl⟩
theorem d_MD_last_7 : ez_at X_MD_last 7 (.aload_n 0) 1 8 := ⟨by decide +kernel, rfl⟩
theorem d_MD_last_8 : ez_at X_MD_last 8 (.invokevirtual 141) 3 11 := ⟨by decide +kernel, rfl⟩
theorem d_MD_last_11 : ez_at X_MD_last 11 (.invokevirtual 77) 3 14 := ⟨by decide +kernel, rfl⟩
theorem d_MD_last_14 : ez_br X_MD_last 14 (.ifCond .ne 5) 3 17 5 19 := ⟨by decide +kernel, rfl, rfl⟩
theorem d_MD_last_17 : ez_at X_MD_last 17 (.iconst 0) 1 18 := ⟨by decide +kernel, rfl⟩
theorem d_MD_last_18 : ez_at X_MD_last 18 (.ireturn) 1 19 := ⟨by decide +kernel, rfl⟩
theorem d_MD_last_19 : ez_at X_MD_last 19 (.aload_n 0) 1 20 := ⟨by decide +kernel, rfl⟩
theorem d_MD_last_20 : ez_at X_MD_last 20 (.invokevirtual 145) 3 23 := ⟨by decide +kernel, rfl⟩
theorem d_MD_last_23 : ez_at X_MD_last 23 (.aload_n 0) 1 24 := ⟨by decide +kernel, rfl⟩
theorem d_MD_last_24 : ez_at X_MD_last 24 (.getfield 132) 3 27 := ⟨by decide +kernel, rfl⟩
theorem d_MD_last_27 : ez_at X_MD_last 27 (.iconst (-1)) 1 28 := ⟨by decide +kernel, rfl⟩
theorem d_MD_last_28 : ez_br X_MD_last 28 (.if_icmp .ne 5) 3 31 5 33 := ⟨by decide +kernel, rfl, rfl⟩
theorem d_MD_last_31 : ez_at X_MD_last 31 (.iconst (-1)) 1 32 := ⟨by decide +kernel, rfl⟩
theorem d_MD_last_32 : ez_at X_MD_last 32 (.ireturn) 1 33 := ⟨by decide +kernel, rfl⟩
theorem d_MD_last_33 : ez_at X_MD_last 33 (.iload_n 1) 1 34 := ⟨by decide +kernel, rfl⟩
theorem d_MD_last_34 : ez_br X_MD_last 34 (.ifCond .ne 18) 3 37 18 52 := ⟨by decide +kernel, rfl, rfl⟩
theorem d_MD_last_37 : ez_at X_MD_last 37 (.aload_n 0) 1 38 := ⟨by decide +kernel, rfl⟩
theorem d_MD_last_38 : ez_at X_MD_last 38 (.getfield 47) 3 41 := ⟨by decide +kernel, rfl⟩
theorem d_MD_last_41 : ez_at X_MD_last 41 (.aload_n 0) 1 42 := ⟨by decide +kernel, rfl⟩
theorem d_MD_last_42 : ez_at X_MD_last 42 (.getfield 132) 3 45 := ⟨by decide +kernel, rfl⟩
theorem d_MD_last_45 : ez_at X_MD_last 45 (.iaload) 1 46 := ⟨by decide +kernel, rfl⟩
theorem d_MD_last_46 : ez_at X_MD_last 46 (.bipush 32) 2 48 := ⟨by decide +kernel, rfl⟩
theorem d_MD_last_48 : ez_at X_MD_last 48 (.idiv) 1 49 := ⟨by decide +kernel, rfl⟩
theorem d_MD_last_49 : ez_br X_MD_last 49 (.goto 15) 3 52 15 64 := ⟨by decide +kernel, rfl, rfl⟩
theorem d_MD_last_52 : ez_at X_MD_last 52 (.aload_n 0) 1 53 := ⟨by decide +kernel, rfl⟩
theorem d_MD_last_53 : ez_at X_MD_last 53 (.getfield 47) 3 56 := ⟨by decide +kernel, rfl⟩
theorem d_MD_last_56 : ez_at X_MD_last 56 (.aload_n 0) 1 57 := ⟨by decide +kernel, rfl⟩
theorem d_MD_last_57 : ez_at X_MD_last 57 (.getfield 132) 3 60 := ⟨by decide +kernel, rfl⟩
theorem d_MD_last_60 : ez_at X_MD_last 60 (.iaload) 1 61 := ⟨by decide +kernel, rfl⟩
theorem d_MD_last_61 : ez_at X_MD_last 61 (.bipush 32) 2 63 := ⟨by decide +kernel, rfl⟩
theorem d_MD_last_63 : ez_at X_MD_last 63 (.irem) 1 64 := ⟨by decide +kernel, rfl⟩
theorem d_MD_last_64 : ez_at X_MD_last 64 (.istore_n 2) 1 65 := ⟨by decide +kernel, rfl⟩
theorem d_MD_last_65 : ez_at X_MD_last 65 (.aload_n 0) 1 66 := ⟨by decide +kernel, rfl⟩
theorem d_MD_last_66 : ez_at X_MD_last 66 (.getfield 38) 3 69 := ⟨by decide +kernel, rfl⟩
theorem d_MD_last_69 : ez_at X_MD_last 69 (.bipush 16) 2 71 := ⟨by decide +kernel, rfl⟩
theorem d_MD_last_71 : ez_at X_MD_last 71 (.bipush 32) 2 73 := ⟨by decide +kernel, rfl⟩
theorem d_MD_last_73 : ez_at X_MD_last 73 (.iload_n 1) 1 74 := ⟨by decide +kernel, rfl⟩
theorem d_MD_last_74 : ez_at X_MD_last 74 (.imul) 1 75 := ⟨by decide +kernel, rfl⟩
theorem d_MD_last_75 : ez_at X_MD_last 75 (.iload_n 2) 1 76 := ⟨by decide +kernel, rfl⟩
theorem d_MD_last_76 : ez_at X_MD_last 76 (.iadd) 1 77 := ⟨by decide +kernel, rfl⟩
theorem d_MD_last_77 : ez_at X_MD_last 77 (.imul) 1 78 := ⟨by decide +kernel, rfl⟩
theorem d_MD_last_78 : ez_at X_MD_last 78 (.aload_n 0) 1 79 := ⟨by decide +kernel, rfl⟩
theorem d_MD_last_79 : ez_at X_MD_last 79 (.getfield 138) 3 82 := ⟨by decide +kernel, rfl⟩
theorem d_MD_last_82 : ez_at X_MD_last 82 (.iadd) 1 83 := ⟨by decide +kernel, rfl⟩
theorem d_MD_last_83 : ez_at X_MD_last 83 (.iaload) 1 84 := ⟨by decide +kernel, rfl⟩
theorem d_MD_last_84 : ez_at X_MD_last 84 (.bipush 8) 2 86 := ⟨by decide +kernel, rfl⟩
theorem d_MD_last_86 : ez_at X_MD_last 86 (.irem) 1 87 := ⟨by decide +kernel, rfl⟩
theorem d_MD_last_87 : ez_at X_MD_last 87 (.ireturn) 1 88 := ⟨by decide +kernel, rfl⟩
theorem d_MD_pairs_0 : ez_at X_MD_pairs 0 (.aload_n 0) 1 1 := ⟨by decide +kernel, rfl⟩
theorem d_MD_pairs_1 : ez_at X_MD_pairs 1 (.aload_n 0) 1 2 := ⟨by decide +kernel, rfl⟩
theorem d_MD_pairs_2 : ez_at X_MD_pairs 2 (.invokevirtual 141) 3 5 := ⟨by decide +kernel, rfl⟩
theorem d_MD_pairs_5 : ez_at X_MD_pairs 5 (.iconst 1) 1 6 := ⟨by decide +kernel, rfl⟩
theorem d_MD_pairs_6 : ez_at X_MD_pairs 6 (.invokevirtual 77) 3 9 := ⟨by decide +kernel, rfl⟩
theorem d_MD_pairs_9 : ez_br X_MD_pairs 9 (.ifCond .ne 5) 3 12 5 14 := ⟨by decide +kernel, rfl, rfl⟩
theorem d_MD_pairs_12 : ez_at X_MD_pairs 12 (.iconst 0) 1 13 := ⟨by decide +kernel, rfl⟩
theorem d_MD_pairs_13 : ez_at X_MD_pairs 13 (.ireturn) 1 14 := ⟨by decide +kernel, rfl⟩
theorem d_MD_pairs_14 : ez_at X_MD_pairs 14 (.aload_n 0) 1 15 := ⟨by decide +kernel, rfl⟩
theorem d_MD_pairs_15 : ez_at X_MD_pairs 15 (.invokevirtual 145) 3 18 := ⟨by decide +kernel, rfl⟩
theorem d_MD_pairs_18 : ez_at X_MD_pairs 18 (.aload_n 0) 1 19 := ⟨by decide +kernel, rfl⟩
theorem d_MD_pairs_19 : ez_at X_MD_pairs 19 (.getfield 129) 3 22 := ⟨by decide +kernel, rfl⟩
theorem d_MD_pairs_22 : ez_at X_MD_pairs 22 (.ireturn) 1 23 := ⟨by decide +kernel, rfl⟩
theorem d_MD_areSame_0 : ez_at X_MD_areSame 0 (.iconst 0) 1 1 := ⟨by decide +kernel, rfl⟩
theorem d_MD_areSame_1 : ez_at X_MD_areSame 1 (.istore_n 1) 1 2 := ⟨by decide +kernel, rfl⟩
theorem d_MD_areSame_2 : ez_at X_MD_areSame 2 (.iload_n 1) 1 3 := ⟨by decide +kernel, rfl⟩
theorem d_MD_areSame_3 : ez_at X_MD_areSame 3 (.sipush 576) 3 6 := ⟨by decide +kernel, rfl⟩
theorem d_MD_areSame_6 : ez_br X_MD_areSame 6 (.if_icmp .ge 16) 3 9 16 22 := ⟨by decide +kernel, rfl, rfl⟩
theorem d_MD_areSame_9 : ez_at X_MD_areSame 9 (.aload_n 0) 1 10 := ⟨by decide +kernel, rfl⟩
theorem d_MD_areSame_10 : ez_at X_MD_areSame 10 (.getfield 59) 3 13 := ⟨by decide +kernel, rfl⟩
theorem d_MD_areSame_13 : ez_at X_MD_areSame 13 (.iload_n 1) 1 14 := ⟨by decide +kernel, rfl⟩
theorem d_MD_areSame_14 : ez_at X_MD_areSame 14 (.iconst 0) 1 15 := ⟨by decide +kernel, rfl⟩
theorem d_MD_areSame_15 : ez_at X_MD_areSame 15 (.bastore) 1 16 := ⟨by decide +kernel, rfl⟩
theorem d_MD_areSame_16 : ez_at X_MD_areSame 16 (.iinc 1 1) 3 19 := ⟨by decide +kernel, rfl⟩
theorem d_MD_areSame_19 : ez_br X_MD_areSame 19 (.goto (-17)) 3 22 (-17) 2 := ⟨by decide +kernel, rfl, rfl⟩
theorem d_MD_areSame_22 : ez_at X_MD_areSame 22 (.iconst 0) 1 23 := ⟨by decide +kernel, rfl⟩
theorem d_MD_areSame_23 : ez_at X_MD_areSame 23 (.istore_n 1) 1 24 := ⟨by decide +kernel, rfl⟩
theorem d_MD_areSame_24 : ez_at X_MD_areSame 24 (.iload_n 1) 1 25 := ⟨by decide +kernel, rfl⟩
theorem d_MD_areSame_25 : ez_at X_MD_areSame 25 (.iconst 3) 1 26 := ⟨by decide +kernel, rfl⟩
theorem d_MD_areSame_26 : ez_br X_MD_areSame 26 (.if_icmp .ge 67) 3 29 67 93 := ⟨by decide +kernel, rfl, rfl⟩
theorem d_MD_areSame_29 : ez_at X_MD_areSame 29 (.aload_n 0) 1 30 := ⟨by decide +kernel, rfl⟩
theorem d_MD_areSame_30 : ez_at X_MD_areSame 30 (.getfield 29) 3 33 := ⟨by decide +kernel, rfl⟩
theorem d_MD_areSame_33 : ez_at X_MD_areSame 33 (.iload_n 1) 1 34 := ⟨by decide +kernel, rfl⟩
theorem d_MD_areSame_34 : ez_at X_MD_areSame 34 (.iaload) 1 35 := ⟨by decide +kernel, rfl⟩
theorem d_MD_areSame_35 : ez_at X_MD_areSame 35 (.istore_n 2) 1 36 := ⟨by decide +kernel, rfl⟩
theorem d_MD_areSame_36 : ez_at X_MD_areSame 36 (.aload_n 0) 1 37 := ⟨by decide +kernel, rfl⟩
theorem d_MD_areSame_37 : ez_at X_MD_areSame 37 (.getfield 29) 3 40 := ⟨by decide +kernel, rfl⟩
theorem d_MD_areSame_40 : ez_at X_MD_areSame 40 (.iconst 3) 1 41 := ⟨by decide +kernel, rfl⟩
theorem d_MD_areSame_41 : ez_at X_MD_areSame 41 (.iload_n 1) 1 42 := ⟨by decide +kernel, rfl⟩
theorem d_MD_areSame_42 : ez_at X_MD_areSame 42 (.iadd) 1 43 := ⟨by decide +kernel, rfl⟩
theorem d_MD_areSame_43 : ez_at X_MD_areSame 43 (.iaload) 1 44 := ⟨by decide +kernel, rfl⟩
theorem d_MD_areSame_44 : ez_at X_MD_areSame 44 (.istore_n 3) 1 45 := ⟨by decide +kernel, rfl⟩
theorem d_MD_areSame_45 : ez_at X_MD_areSame 45 (.iload_n 2) 1 46 := ⟨by decide +kernel, rfl⟩
theorem d_MD_areSame_46 : ez_at X_MD_areSame 46 (.iconst (-1)) 1 47 := ⟨by decide +kernel, rfl⟩
theorem d_MD_areSame_47 : ez_br X_MD_areSame 47 (.if_icmp .ne 7) 3 50 7 54 := ⟨by decide +kernel, rfl, rfl⟩
theorem d_MD_areSame_50 : ez_at X_MD_areSame 50 (.iconst 1) 1 51 := ⟨by decide +kernel, rfl⟩
theorem d_MD_areSame_51 : ez_br X_MD_areSame 51 (.goto 4) 3 54 4 55 := ⟨by decide +kernel, rfl, rfl⟩
theorem d_MD_areSame_54 : ez_at X_MD_areSame 54 (.iconst 0) 1 55 := ⟨by decide +kernel, rfl⟩
theorem d_MD_areSame_55 : ez_at X_MD_areSame 55 (.iload_n 3) 1 56 := ⟨by decide +kernel, rfl⟩
theorem d_MD_areSame_56 : ez_at X_MD_areSame 56 (.iconst (-1)) 1 57 := ⟨by decide +kernel, rfl⟩
theorem d_MD_areSame_57 : ez_br X_MD_areSame 57 (.if_icmp .ne 7) 3 60 7 64 := ⟨by decide +kernel, rfl, rfl⟩
theorem d_MD_areSame_60 : ez_at X_MD_areSame 60 (.iconst 1) 1 61 := ⟨by decide +kernel, rfl⟩
theorem d_MD_areSame_61 : ez_br X_MD_areSame 61 (.goto 4) 3 64 4 65 := ⟨by decide +kernel, rfl, rfl⟩
theorem d_MD_areSame_64 : ez_at X_MD_areSame 64 (.iconst 0) 1 65 := ⟨by decide +kernel, rfl⟩
theorem d_MD_areSame_65 : ez_br X_MD_areSame 65 (.if_icmp .eq 5) 3 68 5 70 := ⟨by decide +kernel, rfl, rfl⟩
theorem d_MD_areSame_68 : ez_at X_MD_areSame 68 (.iconst 0) 1 69 := ⟨by decide +kernel, rfl⟩
theorem d_MD_areSame_69 : ez_at X_MD_areSame 69 (.ireturn) 1 70 := ⟨by decide +kernel, rfl⟩
theorem d_MD_areSame_70 : ez_at X_MD_areSame 70 (.iload_n 2) 1 71 := ⟨by decide +kernel, rfl⟩
theorem d_MD_areSame_71 : ez_at X_MD_areSame 71 (.iconst (-1)) 1 72 := ⟨by decide +kernel, rfl⟩
theorem d_MD_areSame_72 : ez_br X_MD_areSame 72 (.if_icmp .eq 15) 3 75 15 87 := ⟨by decide +kernel, rfl, rfl⟩
theorem d_MD_areSame_75 : ez_at X_MD_areSame 75 (.aload_n 0) 1 76 := ⟨by decide +kernel, rfl⟩
theorem d_MD_areSame_76 : ez_at X_MD_areSame 76 (.getfield 59) 3 79 := ⟨by decide +kernel, rfl⟩
theorem d_MD_areSame_79 : ez_at X_MD_areSame 79 (.bipush 24) 2 81 := ⟨by decide +kernel, rfl⟩
theorem d_MD_areSame_81 : ez_at X_MD_areSame 81 (.iload_n 2) 1 82 := ⟨by decide +kernel, rfl⟩
theorem d_MD_areSame_82 : ez_at X_MD_areSame 82 (.imul) 1 83 := ⟨by decide +kernel, rfl⟩
theorem d_MD_areSame_83 : ez_at X_MD_areSame 83 (.iload_n 3) 1 84 := ⟨by decide +kernel, rfl⟩
theorem d_MD_areSame_84 : ez_at X_MD_areSame 84 (.iadd) 1 85 := ⟨by decide +kernel, rfl⟩
theorem d_MD_areSame_85 : ez_at X_MD_areSame 85 (.iconst 1) 1 86 := ⟨by decide +kernel, rfl⟩
theorem d_MD_areSame_86 : ez_at X_MD_areSame 86 (.bastore) 1 87 := ⟨by decide +kernel, rfl⟩
theorem d_MD_areSame_87 : ez_at X_MD_areSame 87 (.iinc 1 1) 3 90 := ⟨by decide +kernel, rfl⟩
theorem d_MD_areSame_90 : ez_br X_MD_areSame 90 (.goto (-66)) 3 93 (-66) 24 := ⟨by decide +kernel, rfl, rfl⟩
theorem d_MD_areSame_93 : ez_at X_MD_areSame 93 (.iconst 1) 1 94 := ⟨by decide +kernel, rfl⟩
theorem d_MD_areSame_94 : ez_at X_MD_areSame 94 (.istore_n 1) 1 95 := ⟨by decide +kernel, rfl⟩
theorem d_MD_areSame_95 : ez_at X_MD_areSame 95 (.iload_n 1) 1 96 := ⟨by decide +kernel, rfl⟩
theorem d_MD_areSame_96 : ez_br X_MD_areSame 96 (.ifCond .eq 163) 3 99 163 259 := ⟨by decide +kernel, rfl, rfl⟩
theorem d_MD_areSame_99 : ez_at X_MD_areSame 99 (.iconst 0) 1 100 := ⟨by decide +kernel, rfl⟩
theorem d_MD_areSame_100 : ez_at X_MD_areSame 100 (.istore_n 1) 1 101 := ⟨by decide +kernel, rfl⟩
theorem d_MD_areSame_101 : ez_at X_MD_areSame 101 (.iconst 0) 1 102 := ⟨by decide +kernel, rfl⟩
theorem d_MD_areSame_102 : ez_at X_MD_areSame 102 (.istore_n 2) 1 103 := ⟨by decide +kernel, rfl⟩
theorem d_MD_areSame_103 : ez_at X_MD_areSame 103 (.iload_n 2) 1 104 := ⟨by decide +kernel, rfl⟩
theorem d_MD_areSame_104 : ez_at X_MD_areSame 104 (.sipush 576) 3 107 := ⟨by decide +kernel, rfl⟩
theorem d_MD_areSame_107 : ez_br X_MD_areSame 107 (.if_icmp .ge 149) 3 110 149 256 := ⟨by decide +kernel, rfl, rfl⟩
theorem d_MD_areSame_110 : ez_at X_MD_areSame 110 (.aload_n 0) 1 111 := ⟨by decide +kernel, rfl⟩
theorem d_MD_areSame_111 : ez_at X_MD_areSame 111 (.getfield 59) 3 114 := ⟨by decide +kernel, rfl⟩
theorem d_MD_areSame_114 : ez_at X_MD_areSame 114 (.iload_n 2) 1 115 := ⟨by decide +kernel, rfl⟩
theorem d_MD_areSame_115 : ez_at X_MD_areSame 115 (.baload) 1 116 := ⟨by decide +kernel, rfl⟩
theorem d_MD_areSame_116 : ez_br X_MD_areSame 116 (.ifCond .eq 134) 3 119 134 250 := ⟨by decide +kernel, rfl, rfl⟩
theorem d_MD_areSame_119 : ez_at X_MD_areSame 119 (.iload_n 2) 1 120 := ⟨by decide +kernel, rfl⟩
theorem d_MD_areSame_120 : ez_at X_MD_areSame 120 (.bipush 24) 2 122 := ⟨by decide +kernel, rfl⟩
theorem d_MD_areSame_122 : ez_at X_MD_areSame 122 (.idiv) 1 123 := ⟨by decide +kernel, rfl⟩
theorem d_MD_areSame_123 : ez_at X_MD_areSame 123 (.istore_n 3) 1 124 := ⟨by decide +kernel, rfl⟩
theorem d_MD_areSame_124 : ez_at X_MD_areSame 124 (.iload_n 2) 1 125 := ⟨by decide +kernel, rfl⟩
theorem d_MD_areSame_125 : ez_at X_MD_areSame 125 (.bipush 24) 2 127 := ⟨by decide +kernel, rfl⟩
theorem d_MD_areSame_127 : ez_at X_MD_areSame 127 (.irem) 1 128 := ⟨by decide +kernel, rfl⟩
theorem d_MD_areSame_128 : ez_at X_MD_areSame 128 (.istore 4) 2 130 := ⟨by decide +kernel, rfl⟩
theorem d_MD_areSame_130 : ez_at X_MD_areSame 130 (.aload_n 0) 1 131 := ⟨by decide +kernel, rfl⟩
theorem d_MD_areSame_131 : ez_at X_MD_areSame 131 (.getfield 17) 3 134 := ⟨by decide +kernel, rfl⟩
theorem d_MD_areSame_134 : ez_at X_MD_areSame 134 (.iload_n 3) 1 135 := ⟨by decide +kernel, rfl⟩
theorem d_MD_areSame_135 : ez_at X_MD_areSame 135 (.iaload) 1 136 := ⟨by decide +kernel, rfl⟩
theorem d_MD_areSame_136 : ez_at X_MD_areSame 136 (.istore 5) 2 138 := ⟨by decide +kernel, rfl⟩
theorem d_MD_areSame_138 : ez_at X_MD_areSame 138 (.iload 5) 2 140 := ⟨by decide +kernel, rfl⟩
theorem d_MD_areSame_140 : ez_at X_MD_areSame 140 (.aload_n 0) 1 141 := ⟨by decide +kernel, rfl⟩
theorem d_MD_areSame_141 : ez_at X_MD_areSame 141 (.getfield 17) 3 144 := ⟨by decide +kernel, rfl⟩
theorem d_MD_areSame_144 : ez_at X_MD_areSame 144 (.bipush 24) 2 146 := ⟨by decide +kernel, rfl⟩
theorem d_MD_areSame_146 : ez_at X_MD_areSame 146 (.iload 4) 2 148 := ⟨by decide +kernel, rfl⟩
theorem d_MD_areSame_148 : ez_at X_MD_areSame 148 (.iadd) 1 149 := ⟨by decide +kernel, rfl⟩
theorem d_MD_areSame_149 : ez_at X_MD_areSame 149 (.iaload) 1 150 := ⟨by decide +kernel, rfl⟩
theorem d_MD_areSame_150 : ez_br X_MD_areSame 150 (.if_icmp .ne 28) 3 153 28 178 := ⟨by decide +kernel, rfl, rfl⟩
theorem d_MD_areSame_153 : ez_at X_MD_areSame 153 (.iload 5) 2 155 := ⟨by decide +kernel, rfl⟩
theorem d_MD_areSame_155 : ez_at X_MD_areSame 155 (.iconst 1) 1 156 := ⟨by decide +kernel, rfl⟩
theorem d_MD_areSame_156 : ez_br X_MD_areSame 156 (.if_icmp .gt 24) 3 159 24 180 := ⟨by decide +kernel, rfl, rfl⟩
theorem d_MD_areSame_159 : ez_at X_MD_areSame 159 (.aload_n 0) 1 160 := ⟨by decide +kernel, rfl⟩
theorem d_MD_areSame_160 : ez_at X_MD_areSame 160 (.getfield 20) 3 163 := ⟨by decide +kernel, rfl⟩
theorem d_MD_areSame_163 : ez_at X_MD_areSame 163 (.iload_n 3) 1 164 := ⟨by decide +kernel, rfl⟩
theorem d_MD_areSame_164 : ez_at X_MD_areSame 164 (.iaload) 1 165 := ⟨by decide +kernel, rfl⟩
theorem d_MD_areSame_165 : ez_at X_MD_areSame 165 (.aload_n 0) 1 166 := ⟨by decide +kernel, rfl⟩
theorem d_MD_areSame_166 : ez_at X_MD_areSame 166 (.getfield 20) 3 169 := ⟨by decide +kernel, rfl⟩
theorem d_MD_areSame_169 : ez_at X_MD_areSame 169 (.bipush 24) 2 171 := ⟨by decide +kernel, rfl⟩
theorem d_MD_areSame_171 : ez_at X_MD_areSame 171 (.iload 4) 2 173 := ⟨by decide +kernel, rfl⟩
theorem d_MD_areSame_173 : ez_at X_MD_areSame 173 (.iadd) 1 174 := ⟨by decide +kernel, rfl⟩
theorem d_MD_areSame_174 : ez_at X_MD_areSame 174 (.iaload) 1 175 := ⟨by decide +kernel, rfl⟩
theorem d_MD_areSame_175 : ez_br X_MD_areSame 175 (.if_icmp .eq 5) 3 178 5 180 := ⟨by decide +kernel, rfl, rfl⟩
theorem d_MD_areSame_178 : ez_at X_MD_areSame 178 (.iconst 0) 1 179 := ⟨by decide +kernel, rfl⟩
theorem d_MD_areSame_179 : ez_at X_MD_areSame 179 (.ireturn) 1 180 := ⟨by decide +kernel, rfl⟩
theorem d_MD_areSame_180 : ez_at X_MD_areSame 180 (.iconst 0) 1 181 := ⟨by decide +kernel, rfl⟩
theorem d_MD_areSame_181 : ez_at X_MD_areSame 181 (.istore 6) 2 183 := ⟨by decide +kernel, rfl⟩
theorem d_MD_areSame_183 : ez_at X_MD_areSame 183 (.iload 6) 2 185 := ⟨by decide +kernel, rfl⟩
theorem d_MD_areSame_185 : ez_at X_MD_areSame 185 (.iload 5) 2 187 := ⟨by decide +kernel, rfl⟩
theorem d_MD_areSame_187 : ez_at X_MD_areSame 187 (.invokestatic 96) 3 190 := ⟨by decide +kernel, rfl⟩
theorem d_MD_areSame_190 : ez_br X_MD_areSame 190 (.if_icmp .ge 60) 3 193 60 250 := ⟨by decide +kernel, rfl, rfl⟩
theorem d_MD_areSame_193 : ez_at X_MD_areSame 193 (.bipush 24) 2 195 := ⟨by decide +kernel, rfl⟩
theorem d_MD_areSame_195 : ez_at X_MD_areSame 195 (.aload_n 0) 1 196 := ⟨by decide +kernel, rfl⟩
theorem d_MD_areSame_196 : ez_at X_MD_areSame 196 (.iconst 0) 1 197 := ⟨by decide +kernel, rfl⟩
theorem d_MD_areSame_197 : ez_at X_MD_areSame 197 (.iload_n 3) 1 198 := ⟨by decide +kernel, rfl⟩
theorem d_MD_areSame_198 : ez_at X_MD_areSame 198 (.iload 6) 2 200 := ⟨by decide +kernel, rfl⟩
theorem d_MD_areSame_200 : ez_at X_MD_areSame 200 (.invokevirtual 85) 3 203 := ⟨by decide +kernel, rfl⟩
theorem d_MD_areSame_203 : ez_at X_MD_areSame 203 (.imul) 1 204 := ⟨by decide +kernel, rfl⟩
theorem d_MD_areSame_204 : ez_at X_MD_areSame 204 (.aload_n 0) 1 205 := ⟨by decide +kernel, rfl⟩
theorem d_MD_areSame_205 : ez_at X_MD_areSame 205 (.iconst 1) 1 206 := ⟨by decide +kernel, rfl⟩
theorem d_MD_areSame_206 : ez_at X_MD_areSame 206 (.iload 4) 2 208 := ⟨by decide +kernel, rfl⟩
theorem d_MD_areSame_208 : ez_at X_MD_areSame 208 (.iload 6) 2 210 := ⟨by decide +kernel, rfl⟩
theorem d_MD_areSame_210 : ez_at X_MD_areSame 210 (.invokevirtual 85) 3 213 := ⟨by decide +kernel, rfl⟩
theorem d_MD_areSame_213 : ez_at X_MD_areSame 213 (.iadd) 1 214 := ⟨by decide +kernel, rfl⟩
theorem d_MD_areSame_214 : ez_at X_MD_areSame 214 (.istore 7) 2 216 := ⟨by decide +kernel, rfl⟩
theorem d_MD_areSame_216 : ez_at X_MD_areSame 216 (.iload_n 1) 1 217 := ⟨by decide +kernel, rfl⟩
theorem d_MD_areSame_217 : ez_br X_MD_areSame 217 (.ifCond .ne 13) 3 220 13 230 := ⟨by decide +kernel, rfl, rfl⟩
theorem d_MD_areSame_220 : ez_at X_MD_areSame 220 (.aload_n 0) 1 221 := ⟨by decide +kernel, rfl⟩
theorem d_MD_areSame_221 : ez_at X_MD_areSame 221 (.getfield 59) 3 224 := ⟨by decide +kernel, rfl⟩
theorem d_MD_areSame_224 : ez_at X_MD_areSame 224 (.iload 7) 2 226 := ⟨by decide +kernel, rfl⟩
theorem d_MD_areSame_226 : ez_at X_MD_areSame 226 (.baload) 1 227 := ⟨by decide +kernel, rfl⟩
theorem d_MD_areSame_227 : ez_br X_MD_areSame 227 (.ifCond .ne 7) 3 230 7 234 := ⟨by decide +kernel, rfl, rfl⟩
theorem d_MD_areSame_230 : ez_at X_MD_areSame 230 (.iconst 1) 1 231 := ⟨by decide +kernel, rfl⟩
theorem d_MD_areSame_231 : ez_br X_MD_areSame 231 (.goto 4) 3 234 4 235 := ⟨by decide +kernel, rfl, rfl⟩
theorem d_MD_areSame_234 : ez_at X_MD_areSame 234 (.iconst 0) 1 235 := ⟨by decide +kernel, rfl⟩
theorem d_MD_areSame_235 : ez_at X_MD_areSame 235 (.istore_n 1) 1 236 := ⟨by decide +kernel, rfl⟩
theorem d_MD_areSame_236 : ez_at X_MD_areSame 236 (.aload_n 0) 1 237 := ⟨by decide +kernel, rfl⟩
theorem d_MD_areSame_237 : ez_at X_MD_areSame 237 (.getfield 59) 3 240 := ⟨by decide +kernel, rfl⟩
theorem d_MD_areSame_240 : ez_at X_MD_areSame 240 (.iload 7) 2 242 := ⟨by decide +kernel, rfl⟩
theorem d_MD_areSame_242 : ez_at X_MD_areSame 242 (.iconst 1) 1 243 := ⟨by decide +kernel, rfl⟩
theorem d_MD_areSame_243 : ez_at X_MD_areSame 243 (.bastore) 1 244 := ⟨by decide +kernel, rfl⟩
theorem d_MD_areSame_244 : ez_at X_MD_areSame 244 (.iinc 6 1) 3 247 := ⟨by decide +kernel, rfl⟩
theorem d_MD_areSame_247 : ez_br X_MD_areSame 247 (.goto (-64)) 3 250 (-64) 183 := ⟨by decide +kernel, rfl, rfl⟩
theorem d_MD_areSame_250 : ez_at X_MD_areSame 250 (.iinc 2 1) 3 253 := ⟨by decide +kernel, rfl⟩
theorem d_MD_areSame_253 : ez_br X_MD_areSame 253 (.goto (-150)) 3 256 (-150) 103 := ⟨by decide +kernel, rfl, rfl⟩
theorem d_MD_areSame_256 : ez_br X_MD_areSame 256 (.goto (-161)) 3 259 (-161) 95 := ⟨by decide +kernel, rfl, rfl⟩
theorem d_MD_areSame_259 : ez_at X_MD_areSame 259 (.aload_n 0) 1 260 := ⟨by decide +kernel, rfl⟩
theorem d_MD_areSame_260 : ez_at X_MD_areSame 260 (.invokevirtual 152) 3 263 := ⟨by decide +kernel, rfl⟩
theorem d_MD_areSame_263 : ez_at X_MD_areSame 263 (.ireturn) 1 264 := ⟨by decide +kernel, rfl⟩
theorem d_MD_areSingle_0 : ez_at X_MD_areSingle 0 (.iconst 1) 1 1 := ⟨by decide +kernel, rfl⟩
theorem d_MD_areSingle_1 : ez_at X_MD_areSingle 1 (.istore_n 1) 1 2 := ⟨by decide +kernel, rfl⟩
theorem d_MD_areSingle_2 : ez_at X_MD_areSingle 2 (.iconst 0) 1 3 := ⟨by decide +kernel, rfl⟩
theorem d_MD_areSingle_3 : ez_at X_MD_areSingle 3 (.istore_n 2) 1 4 := ⟨by decide +kernel, rfl⟩
theorem d_MD_areSingle_4 : ez_at X_MD_areSingle 4 (.iload_n 2) 1 5 := ⟨by decide +kernel, rfl⟩
theorem d_MD_areSingle_5 : ez_at X_MD_areSingle 5 (.bipush 24) 2 7 := ⟨by decide +kernel, rfl⟩
theorem d_MD_areSingle_7 : ez_br X_MD_areSingle 7 (.if_icmp .ge 100) 3 10 100 107 := ⟨by decide +kernel, rfl, rfl⟩
theorem d_MD_areSingle_10 : ez_at X_MD_areSingle 10 (.iconst 0) 1 11 := ⟨by decide +kernel, rfl⟩
theorem d_MD_areSingle_11 : ez_at X_MD_areSingle 11 (.istore_n 3) 1 12 := ⟨by decide +kernel, rfl⟩
theorem d_MD_areSingle_12 : ez_at X_MD_areSingle 12 (.iconst 0) 1 13 := ⟨by decide +kernel, rfl⟩
theorem d_MD_areSingle_13 : ez_at X_MD_areSingle 13 (.istore 4) 2 15 := ⟨by decide +kernel, rfl⟩
theorem d_MD_areSingle_15 : ez_at X_MD_areSingle 15 (.iconst 0) 1 16 := ⟨by decide +kernel, rfl⟩
theorem d_MD_areSingle_16 : ez_at X_MD_areSingle 16 (.istore 5) 2 18 := ⟨by decide +kernel, rfl⟩
theorem d_MD_areSingle_18 : ez_at X_MD_areSingle 18 (.iload 5) 2 20 := ⟨by decide +kernel, rfl⟩
theorem d_MD_areSingle_20 : ez_at X_MD_areSingle 20 (.bipush 24) 2 22 := ⟨by decide +kernel, rfl⟩
theorem d_MD_areSingle_22 : ez_br X_MD_areSingle 22 (.if_icmp .ge 58) 3 25 58 80 := ⟨by decide +kernel, rfl, rfl⟩
theorem d_MD_areSingle_25 : ez_at X_MD_areSingle 25 (.aload_n 0) 1 26 := ⟨by decide +kernel, rfl⟩
theorem d_MD_areSingle_26 : ez_at X_MD_areSingle 26 (.getfield 59) 3 29 := ⟨by decide +kernel, rfl⟩
theorem d_MD_areSingle_29 : ez_at X_MD_areSingle 29 (.bipush 24) 2 31 := ⟨by decide +kernel, rfl⟩
theorem d_MD_areSingle_31 : ez_at X_MD_areSingle 31 (.iload_n 2) 1 32 := ⟨by decide +kernel, rfl⟩
theorem d_MD_areSingle_32 : ez_at X_MD_areSingle 32 (.imul) 1 33 := ⟨by decide +kernel, rfl⟩
theorem d_MD_areSingle_33 : ez_at X_MD_areSingle 33 (.iload 5) 2 35 := ⟨by decide +kernel, rfl⟩
theorem d_MD_areSingle_35 : ez_at X_MD_areSingle 35 (.iadd) 1 36 := ⟨by decide +kernel, rfl⟩
theorem d_MD_areSingle_36 : ez_at X_MD_areSingle 36 (.baload) 1 37 := ⟨by decide +kernel, rfl⟩
theorem d_MD_areSingle_37 : ez_br X_MD_areSingle 37 (.ifCond .eq 9) 3 40 9 46 := ⟨by decide +kernel, rfl, rfl⟩
theorem d_MD_areSingle_40 : ez_at X_MD_areSingle 40 (.iload_n 3) 1 41 := ⟨by decide +kernel, rfl⟩
theorem d_MD_areSingle_41 : ez_at X_MD_areSingle 41 (.iconst 1) 1 42 := ⟨by decide +kernel, rfl⟩
theorem d_MD_areSingle_42 : ez_at X_MD_areSingle 42 (.iadd) 1 43 := ⟨by decide +kernel, rfl⟩
theorem d_MD_areSingle_43 : ez_br X_MD_areSingle 43 (.goto 4) 3 46 4 47 := ⟨by decide +kernel, rfl, rfl⟩
theorem d_MD_areSingle_46 : ez_at X_MD_areSingle 46 (.iload_n 3) 1 47 := ⟨by decide +kernel, rfl⟩
theorem d_MD_areSingle_47 : ez_at X_MD_areSingle 47 (.istore_n 3) 1 48 := ⟨by decide +kernel, rfl⟩
theorem d_MD_areSingle_48 : ez_at X_MD_areSingle 48 (.aload_n 0) 1 49 := ⟨by decide +kernel, rfl⟩
theorem d_MD_areSingle_49 : ez_at X_MD_areSingle 49 (.getfield 59) 3 52 := ⟨by decide +kernel, rfl⟩
theorem d_MD_areSingle_52 : ez_at X_MD_areSingle 52 (.bipush 24) 2 54 := ⟨by decide +kernel, rfl⟩
theorem d_MD_areSingle_54 : ez_at X_MD_areSingle 54 (.iload 5) 2 56 := ⟨by decide +kernel, rfl⟩
theorem d_MD_areSingle_56 : ez_at X_MD_areSingle 56 (.imul) 1 57 := ⟨by decide +kernel, rfl⟩
theorem d_MD_areSingle_57 : ez_at X_MD_areSingle 57 (.iload_n 2) 1 58 := ⟨by decide +kernel, rfl⟩
theorem d_MD_areSingle_58 : ez_at X_MD_areSingle 58 (.iadd) 1 59 := ⟨by decide +kernel, rfl⟩
theorem d_MD_areSingle_59 : ez_at X_MD_areSingle 59 (.baload) 1 60 := ⟨by decide +kernel, rfl⟩
theorem d_MD_areSingle_60 : ez_br X_MD_areSingle 60 (.ifCond .eq 10) 3 63 10 70 := ⟨by decide +kernel, rfl, rfl⟩
theorem d_MD_areSingle_63 : ez_at X_MD_areSingle 63 (.iload 4) 2 65 := ⟨by decide +kernel, rfl⟩
theorem d_MD_areSingle_65 : ez_at X_MD_areSingle 65 (.iconst 1) 1 66 := ⟨by decide +kernel, rfl⟩
theorem d_MD_areSingle_66 : ez_at X_MD_areSingle 66 (.iadd) 1 67 := ⟨by decide +kernel, rfl⟩
theorem d_MD_areSingle_67 : ez_br X_MD_areSingle 67 (.goto 5) 3 70 5 72 := ⟨by decide +kernel, rfl, rfl⟩
theorem d_MD_areSingle_70 : ez_at X_MD_areSingle 70 (.iload 4) 2 72 := ⟨by decide +kernel, rfl⟩
theorem d_MD_areSingle_72 : ez_at X_MD_areSingle 72 (.istore 4) 2 74 := ⟨by decide +kernel, rfl⟩
theorem d_MD_areSingle_74 : ez_at X_MD_areSingle 74 (.iinc 5 1) 3 77 := ⟨by decide +kernel, rfl⟩
theorem d_MD_areSingle_77 : ez_br X_MD_areSingle 77 (.goto (-59)) 3 80 (-59) 18 := ⟨by decide +kernel, rfl, rfl⟩
theorem d_MD_areSingle_80 : ez_at X_MD_areSingle 80 (.iload_n 1) 1 81 := ⟨by decide +kernel, rfl⟩
theorem d_MD_areSingle_81 : ez_br X_MD_areSingle 81 (.ifCond .eq 18) 3 84 18 99 := ⟨by decide +kernel, rfl, rfl⟩
theorem d_MD_areSingle_84 : ez_at X_MD_areSingle 84 (.iload_n 3) 1 85 := ⟨by decide +kernel, rfl⟩
theorem d_MD_areSingle_85 : ez_at X_MD_areSingle 85 (.iconst 2) 1 86 := ⟨by decide +kernel, rfl⟩
theorem d_MD_areSingle_86 : ez_br X_MD_areSingle 86 (.if_icmp .ge 13) 3 89 13 99 := ⟨by decide +kernel, rfl, rfl⟩
theorem d_MD_areSingle_89 : ez_at X_MD_areSingle 89 (.iload 4) 2 91 := ⟨by decide +kernel, rfl⟩
theorem d_MD_areSingle_91 : ez_at X_MD_areSingle 91 (.iconst 2) 1 92 := ⟨by decide +kernel, rfl⟩
theorem d_MD_areSingle_92 : ez_br X_MD_areSingle 92 (.if_icmp .ge 7) 3 95 7 99 := ⟨by decide +kernel, rfl, rfl⟩
theorem d_MD_areSingle_95 : ez_at X_MD_areSingle 95 (.iconst 1) 1 96 := ⟨by decide +kernel, rfl⟩
theorem d_MD_areSingle_96 : ez_br X_MD_areSingle 96 (.goto 4) 3 99 4 100 := ⟨by decide +kernel, rfl, rfl⟩
theorem d_MD_areSingle_99 : ez_at X_MD_areSingle 99 (.iconst 0) 1 100 := ⟨by decide +kernel, rfl⟩
theorem d_MD_areSingle_100 : ez_at X_MD_areSingle 100 (.istore_n 1) 1 101 := ⟨by decide +kernel, rfl⟩
theorem d_MD_areSingle_101 : ez_at X_MD_areSingle 101 (.iinc 2 1) 3 104 := ⟨by decide +kernel, rfl⟩
theorem d_MD_areSingle_104 : ez_br X_MD_areSingle 104 (.goto (-100)) 3 107 (-100) 4 := ⟨by decide +kernel, rfl, rfl⟩
theorem d_MD_areSingle_107 : ez_at X_MD_areSingle 107 (.iload_n 1) 1 108 := ⟨by decide +kernel, rfl⟩
theorem d_MD_areSingle_108 : ez_at X_MD_areSingle 108 (.ireturn) 1 109 := ⟨by decide +kernel, rfl⟩
theorem d_MD_same_0 : ez_at X_MD_same 0 (.aload_n 0) 1 1 := ⟨by decide +kernel, rfl⟩
theorem d_MD_same_1 : ez_at X_MD_same 1 (.aload_n 0) 1 2 := ⟨by decide +kernel, rfl⟩
theorem d_MD_same_2 : ez_at X_MD_same 2 (.invokevirtual 141) 3 5 := ⟨by decide +kernel, rfl⟩
theorem d_MD_same_5 : ez_at X_MD_same 5 (.iconst 1) 1 6 := ⟨by decide +kernel, rfl⟩
theorem d_MD_same_6 : ez_at X_MD_same 6 (.invokevirtual 77) 3 9 := ⟨by decide +kernel, rfl⟩
theorem d_MD_same_9 : ez_br X_MD_same 9 (.ifCond .eq 14) 3 12 14 23 := ⟨by decide +kernel, rfl, rfl⟩
theorem d_MD_same_12 : ez_at X_MD_same 12 (.aload_n 0) 1 13 := ⟨by decide +kernel, rfl⟩
theorem d_MD_same_13 : ez_at X_MD_same 13 (.invokevirtual 155) 3 16 := ⟨by decide +kernel, rfl⟩
theorem d_MD_same_16 : ez_br X_MD_same 16 (.ifCond .eq 7) 3 19 7 23 := ⟨by decide +kernel, rfl, rfl⟩
theorem d_MD_same_19 : ez_at X_MD_same 19 (.iconst 1) 1 20 := ⟨by decide +kernel, rfl⟩
theorem d_MD_same_20 : ez_br X_MD_same 20 (.goto 4) 3 23 4 24 := ⟨by decide +kernel, rfl, rfl⟩
theorem d_MD_same_23 : ez_at X_MD_same 23 (.iconst 0) 1 24 := ⟨by decide +kernel, rfl⟩
theorem d_MD_same_24 : ez_at X_MD_same 24 (.ireturn) 1 25 := ⟨by decide +kernel, rfl⟩
theorem d_MD_matched_0 : ez_at X_MD_matched 0 (.aload_n 0) 1 1 := ⟨by decide +kernel, rfl⟩
theorem d_MD_matched_1 : ez_at X_MD_matched 1 (.aload_n 0) 1 2 := ⟨by decide +kernel, rfl⟩
theorem d_MD_matched_2 : ez_at X_MD_matched 2 (.iconst 0) 1 3 := ⟨by decide +kernel, rfl⟩
theorem d_MD_matched_3 : ez_at X_MD_matched 3 (.iload_n 1) 1 4 := ⟨by decide +kernel, rfl⟩
theorem d_MD_matched_4 : ez_at X_MD_matched 4 (.invokevirtual 81) 3 7 := ⟨by decide +kernel, rfl⟩
theorem d_MD_matched_7 : ez_at X_MD_matched 7 (.aload_n 0) 1 8 := ⟨by decide +kernel, rfl⟩
theorem d_MD_matched_8 : ez_at X_MD_matched 8 (.invokevirtual 141) 3 11 := ⟨by decide +kernel, rfl⟩
theorem d_MD_matched_11 : ez_at X_MD_matched 11 (.invokevirtual 77) 3 14 := ⟨by decide +kernel, rfl⟩
theorem d_MD_matched_14 : ez_br X_MD_matched 14 (.ifCond .ne 5) 3 17 5 19 := ⟨by decide +kernel, rfl, rfl⟩
theorem d_MD_matched_17 : ez_at X_MD_matched 17 (.iconst 0) 1 18 := ⟨by decide +kernel, rfl⟩
theorem d_MD_matched_18 : ez_at X_MD_matched 18 (.ireturn) 1 19 := ⟨by decide +kernel, rfl⟩
theorem d_MD_matched_19 : ez_at X_MD_matched 19 (.aload_n 0) 1 20 := ⟨by decide +kernel, rfl⟩
theorem d_MD_matched_20 : ez_at X_MD_matched 20 (.invokevirtual 155) 3 23 := ⟨by decide +kernel, rfl⟩
theorem d_MD_matched_23 : ez_br X_MD_matched 23 (.ifCond .ne 5) 3 26 5 28 := ⟨by decide +kernel, rfl, rfl⟩
theorem d_MD_matched_26 : ez_at X_MD_matched 26 (.iconst (-1)) 1 27 := ⟨by decide +kernel, rfl⟩
theorem d_MD_matched_27 : ez_at X_MD_matched 27 (.ireturn) 1 28 := ⟨by decide +kernel, rfl⟩
theorem d_MD_matched_28 : ez_at X_MD_matched 28 (.iconst (-1)) 1 29 := ⟨by decide +kernel, rfl⟩
theorem d_MD_matched_29 : ez_at X_MD_matched 29 (.istore_n 2) 1 30 := ⟨by decide +kernel, rfl⟩
theorem d_MD_matched_30 : ez_at X_MD_matched 30 (.iconst 0) 1 31 := ⟨by decide +kernel, rfl⟩
theorem d_MD_matched_31 : ez_at X_MD_matched 31 (.istore_n 3) 1 32 := ⟨by decide +kernel, rfl⟩
theorem d_MD_matched_32 : ez_at X_MD_matched 32 (.iload_n 3) 1 33 := ⟨by decide +kernel, rfl⟩
theorem d_MD_matched_33 : ez_at X_MD_matched 33 (.bipush 24) 2 35 := ⟨by decide +kernel, rfl⟩
theorem d_MD_matched_35 : ez_br X_MD_matched 35 (.if_icmp .ge 29) 3 38 29 64 := ⟨by decide +kernel, rfl, rfl⟩
theorem d_MD_matched_38 : ez_at X_MD_matched 38 (.aload_n 0) 1 39 := ⟨by decide +kernel, rfl⟩
theorem d_MD_matched_39 : ez_at X_MD_matched 39 (.getfield 59) 3 42 := ⟨by decide +kernel, rfl⟩
theorem d_MD_matched_42 : ez_at X_MD_matched 42 (.bipush 24) 2 44 := ⟨by decide +kernel, rfl⟩
theorem d_MD_matched_44 : ez_at X_MD_matched 44 (.iload_n 1) 1 45 := ⟨by decide +kernel, rfl⟩
theorem d_MD_matched_45 : ez_at X_MD_matched 45 (.imul) 1 46 := ⟨by decide +kernel, rfl⟩
theorem d_MD_matched_46 : ez_at X_MD_matched 46 (.iload_n 3) 1 47 := ⟨by decide +kernel, rfl⟩
theorem d_MD_matched_47 : ez_at X_MD_matched 47 (.iadd) 1 48 := ⟨by decide +kernel, rfl⟩
theorem d_MD_matched_48 : ez_at X_MD_matched 48 (.baload) 1 49 := ⟨by decide +kernel, rfl⟩
theorem d_MD_matched_49 : ez_br X_MD_matched 49 (.ifCond .eq 7) 3 52 7 56 := ⟨by decide +kernel, rfl, rfl⟩
theorem d_MD_matched_52 : ez_at X_MD_matched 52 (.iload_n 3) 1 53 := ⟨by decide +kernel, rfl⟩
theorem d_MD_matched_53 : ez_br X_MD_matched 53 (.goto 4) 3 56 4 57 := ⟨by decide +kernel, rfl, rfl⟩
theorem d_MD_matched_56 : ez_at X_MD_matched 56 (.iload_n 2) 1 57 := ⟨by decide +kernel, rfl⟩
theorem d_MD_matched_57 : ez_at X_MD_matched 57 (.istore_n 2) 1 58 := ⟨by decide +kernel, rfl⟩
theorem d_MD_matched_58 : ez_at X_MD_matched 58 (.iinc 3 1) 3 61 := ⟨by decide +kernel, rfl⟩
theorem d_MD_matched_61 : ez_br X_MD_matched 61 (.goto (-29)) 3 64 (-29) 32 := ⟨by decide +kernel, rfl, rfl⟩
theorem d_MD_matched_64 : ez_at X_MD_matched 64 (.iload_n 2) 1 65 := ⟨by decide +kernel, rfl⟩
theorem d_MD_matched_65 : ez_at X_MD_matched 65 (.ireturn) 1 66 := ⟨by decide +kernel, rfl⟩
theorem d_MD_idle_0 : ez_at X_MD_idle 0 (.aload_n 0) 1 1 := ⟨by decide +kernel, rfl⟩
theorem d_MD_idle_1 : ez_at X_MD_idle 1 (.iload_n 1) 1 2 := ⟨by decide +kernel, rfl⟩
theorem d_MD_idle_2 : ez_at X_MD_idle 2 (.iconst 0) 1 3 := ⟨by decide +kernel, rfl⟩
theorem d_MD_idle_3 : ez_at X_MD_idle 3 (.iconst 1) 1 4 := ⟨by decide +kernel, rfl⟩
theorem d_MD_idle_4 : ez_at X_MD_idle 4 (.invokestatic 69) 3 7 := ⟨by decide +kernel, rfl⟩
theorem d_MD_idle_7 : ez_br X_MD_idle 7 (.ifCond .eq 11) 3 10 11 18 := ⟨by decide +kernel, rfl, rfl⟩
theorem d_MD_idle_10 : ez_at X_MD_idle 10 (.iload_n 2) 1 11 := ⟨by decide +kernel, rfl⟩
theorem d_MD_idle_11 : ez_br X_MD_idle 11 (.ifCond .lt 7) 3 14 7 18 := ⟨by decide +kernel, rfl, rfl⟩
theorem d_MD_idle_14 : ez_at X_MD_idle 14 (.iconst 1) 1 15 := ⟨by decide +kernel, rfl⟩
theorem d_MD_idle_15 : ez_br X_MD_idle 15 (.goto 4) 3 18 4 19 := ⟨by decide +kernel, rfl, rfl⟩
theorem d_MD_idle_18 : ez_at X_MD_idle 18 (.iconst 0) 1 19 := ⟨by decide +kernel, rfl⟩
theorem d_MD_idle_19 : ez_at X_MD_idle 19 (.iconst 1) 1 20 := ⟨by decide +kernel, rfl⟩
theorem d_MD_idle_20 : ez_at X_MD_idle 20 (.invokevirtual 77) 3 23 := ⟨by decide +kernel, rfl⟩
theorem d_MD_idle_23 : ez_br X_MD_idle 23 (.ifCond .ne 5) 3 26 5 28 := ⟨by decide +kernel, rfl, rfl⟩
theorem d_MD_idle_26 : ez_at X_MD_idle 26 (.iconst 0) 1 27 := ⟨by decide +kernel, rfl⟩
theorem d_MD_idle_27 : ez_at X_MD_idle 27 (.ireturn) 1 28 := ⟨by decide +kernel, rfl⟩
theorem d_MD_idle_28 : ez_at X_MD_idle 28 (.iconst 0) 1 29 := ⟨by decide +kernel, rfl⟩
theorem d_MD_idle_29 : ez_at X_MD_idle 29 (.istore_n 3) 1 30 := ⟨by decide +kernel, rfl⟩
theorem d_MD_idle_30 : ez_at X_MD_idle 30 (.iload_n 3) 1 31 := ⟨by decide +kernel, rfl⟩
theorem d_MD_idle_31 : ez_at X_MD_idle 31 (.bipush 24) 2 33 := ⟨by decide +kernel, rfl⟩
theorem d_MD_idle_33 : ez_br X_MD_idle 33 (.if_icmp .ge 16) 3 36 16 49 := ⟨by decide +kernel, rfl, rfl⟩
theorem d_MD_idle_36 : ez_at X_MD_idle 36 (.aload_n 0) 1 37 := ⟨by decide +kernel, rfl⟩
theorem d_MD_idle_37 : ez_at X_MD_idle 37 (.getfield 32) 3 40 := ⟨by decide +kernel, rfl⟩
theorem d_MD_idle_40 : ez_at X_MD_idle 40 (.iload_n 3) 1 41 := ⟨by decide +kernel, rfl⟩
theorem d_MD_idle_41 : ez_at X_MD_idle 41 (.iconst 0) 1 42 := ⟨by decide +kernel, rfl⟩
theorem d_MD_idle_42 : ez_at X_MD_idle 42 (.bastore) 1 43 := ⟨by decide +kernel, rfl⟩
theorem d_MD_idle_43 : ez_at X_MD_idle 43 (.iinc 3 1) 3 46 := ⟨by decide +kernel, rfl⟩
theorem d_MD_idle_46 : ez_br X_MD_idle 46 (.goto (-16)) 3 49 (-16) 30 := ⟨by decide +kernel, rfl, rfl⟩
theorem d_MD_idle_49 : ez_at X_MD_idle 49 (.iconst 0) 1 50 := ⟨by decide +kernel, rfl⟩
theorem d_MD_idle_50 : ez_at X_MD_idle 50 (.istore_n 3) 1 51 := ⟨by decide +kernel, rfl⟩
theorem d_MD_idle_51 : ez_at X_MD_idle 51 (.iload_n 3) 1 52 := ⟨by decide +kernel, rfl⟩
theorem d_MD_idle_52 : ez_at X_MD_idle 52 (.iconst 3) 1 53 := ⟨by decide +kernel, rfl⟩
theorem d_MD_idle_53 : ez_br X_MD_idle 53 (.if_icmp .ge 39) 3 56 39 92 := ⟨by decide +kernel, rfl, rfl⟩
theorem d_MD_idle_56 : ez_at X_MD_idle 56 (.aload_n 0) 1 57 := ⟨by decide +kernel, rfl⟩
theorem d_MD_idle_57 : ez_at X_MD_idle 57 (.getfield 29) 3 60 := ⟨by decide +kernel, rfl⟩
theorem d_MD_idle_60 : ez_at X_MD_idle 60 (.iconst 3) 1 61 := ⟨by decide +kernel, rfl⟩
theorem d_MD_idle_61 : ez_at X_MD_idle 61 (.iload_n 1) 1 62 := ⟨by decide +kernel, rfl⟩
theorem d_MD_idle_62 : ez_at X_MD_idle 62 (.imul) 1 63 := ⟨by decide +kernel, rfl⟩
theorem d_MD_idle_63 : ez_at X_MD_idle 63 (.iload_n 3) 1 64 := ⟨by decide +kernel, rfl⟩
theorem d_MD_idle_64 : ez_at X_MD_idle 64 (.iadd) 1 65 := ⟨by decide +kernel, rfl⟩
theorem d_MD_idle_65 : ez_at X_MD_idle 65 (.iaload) 1 66 := ⟨by decide +kernel, rfl⟩
theorem d_MD_idle_66 : ez_at X_MD_idle 66 (.iconst (-1)) 1 67 := ⟨by decide +kernel, rfl⟩
theorem d_MD_idle_67 : ez_br X_MD_idle 67 (.if_icmp .eq 19) 3 70 19 86 := ⟨by decide +kernel, rfl, rfl⟩
theorem d_MD_idle_70 : ez_at X_MD_idle 70 (.aload_n 0) 1 71 := ⟨by decide +kernel, rfl⟩
theorem d_MD_idle_71 : ez_at X_MD_idle 71 (.getfield 32) 3 74 := ⟨by decide +kernel, rfl⟩
theorem d_MD_idle_74 : ez_at X_MD_idle 74 (.aload_n 0) 1 75 := ⟨by decide +kernel, rfl⟩
theorem d_MD_idle_75 : ez_at X_MD_idle 75 (.getfield 29) 3 78 := ⟨by decide +kernel, rfl⟩
theorem d_MD_idle_78 : ez_at X_MD_idle 78 (.iconst 3) 1 79 := ⟨by decide +kernel, rfl⟩
theorem d_MD_idle_79 : ez_at X_MD_idle 79 (.iload_n 1) 1 80 := ⟨by decide +kernel, rfl⟩
theorem d_MD_idle_80 : ez_at X_MD_idle 80 (.imul) 1 81 := ⟨by decide +kernel, rfl⟩
theorem d_MD_idle_81 : ez_at X_MD_idle 81 (.iload_n 3) 1 82 := ⟨by decide +kernel, rfl⟩
theorem d_MD_idle_82 : ez_at X_MD_idle 82 (.iadd) 1 83 := ⟨by decide +kernel, rfl⟩
theorem d_MD_idle_83 : ez_at X_MD_idle 83 (.iaload) 1 84 := ⟨by decide +kernel, rfl⟩
theorem d_MD_idle_84 : ez_at X_MD_idle 84 (.iconst 1) 1 85 := ⟨by decide +kernel, rfl⟩
theorem d_MD_idle_85 : ez_at X_MD_idle 85 (.bastore) 1 86 := ⟨by decide +kernel, rfl⟩
theorem d_MD_idle_86 : ez_at X_MD_idle 86 (.iinc 3 1) 3 89 := ⟨by decide +kernel, rfl⟩
theorem d_MD_idle_89 : ez_br X_MD_idle 89 (.goto (-38)) 3 92 (-38) 51 := ⟨by decide +kernel, rfl, rfl⟩
theorem d_MD_idle_92 : ez_at X_MD_idle 92 (.iconst 1) 1 93 := ⟨by decide +kernel, rfl⟩
theorem d_MD_idle_93 : ez_at X_MD_idle 93 (.istore_n 3) 1 94 := ⟨by decide +kernel, rfl⟩
theorem d_MD_idle_94 : ez_at X_MD_idle 94 (.iload_n 3) 1 95 := ⟨by decide +kernel, rfl⟩
theorem d_MD_idle_95 : ez_br X_MD_idle 95 (.ifCond .eq 104) 3 98 104 199 := ⟨by decide +kernel, rfl, rfl⟩
theorem d_MD_idle_98 : ez_at X_MD_idle 98 (.iconst 0) 1 99 := ⟨by decide +kernel, rfl⟩
theorem d_MD_idle_99 : ez_at X_MD_idle 99 (.istore_n 3) 1 100 := ⟨by decide +kernel, rfl⟩
theorem d_MD_idle_100 : ez_at X_MD_idle 100 (.iconst 0) 1 101 := ⟨by decide +kernel, rfl⟩
theorem d_MD_idle_101 : ez_at X_MD_idle 101 (.istore 4) 2 103 := ⟨by decide +kernel, rfl⟩
theorem d_MD_idle_103 : ez_at X_MD_idle 103 (.iload 4) 2 105 := ⟨by decide +kernel, rfl⟩
theorem d_MD_idle_105 : ez_at X_MD_idle 105 (.aload_n 0) 1 106 := ⟨by decide +kernel, rfl⟩
theorem d_MD_idle_106 : ez_at X_MD_idle 106 (.getfield 13) 3 109 := ⟨by decide +kernel, rfl⟩
theorem d_MD_idle_109 : ez_at X_MD_idle 109 (.iload_n 1) 1 110 := ⟨by decide +kernel, rfl⟩
theorem d_MD_idle_110 : ez_at X_MD_idle 110 (.iaload) 1 111 := ⟨by decide +kernel, rfl⟩
theorem d_MD_idle_111 : ez_br X_MD_idle 111 (.if_icmp .ge 85) 3 114 85 196 := ⟨by decide +kernel, rfl, rfl⟩
theorem d_MD_idle_114 : ez_at X_MD_idle 114 (.iconst 0) 1 115 := ⟨by decide +kernel, rfl⟩
theorem d_MD_idle_115 : ez_at X_MD_idle 115 (.istore 5) 2 117 := ⟨by decide +kernel, rfl⟩
theorem d_MD_idle_117 : ez_at X_MD_idle 117 (.iload 5) 2 119 := ⟨by decide +kernel, rfl⟩
theorem d_MD_idle_119 : ez_at X_MD_idle 119 (.aload_n 0) 1 120 := ⟨by decide +kernel, rfl⟩
theorem d_MD_idle_120 : ez_at X_MD_idle 120 (.getfield 17) 3 123 := ⟨by decide +kernel, rfl⟩
theorem d_MD_idle_123 : ez_at X_MD_idle 123 (.bipush 24) 2 125 := ⟨by decide +kernel, rfl⟩
theorem d_MD_idle_125 : ez_at X_MD_idle 125 (.iload_n 1) 1 126 := ⟨by decide +kernel, rfl⟩
theorem d_MD_idle_126 : ez_at X_MD_idle 126 (.imul) 1 127 := ⟨by decide +kernel, rfl⟩
theorem d_MD_idle_127 : ez_at X_MD_idle 127 (.iload 4) 2 129 := ⟨by decide +kernel, rfl⟩
theorem d_MD_idle_129 : ez_at X_MD_idle 129 (.iadd) 1 130 := ⟨by decide +kernel, rfl⟩
theorem d_MD_idle_130 : ez_at X_MD_idle 130 (.iaload) 1 131 := ⟨by decide +kernel, rfl⟩
theorem d_MD_idle_131 : ez_at X_MD_idle 131 (.invokestatic 96) 3 134 := ⟨by decide +kernel, rfl⟩
theorem d_MD_idle_134 : ez_br X_MD_idle 134 (.if_icmp .ge 56) 3 137 56 190 := ⟨by decide +kernel, rfl, rfl⟩
theorem d_MD_idle_137 : ez_at X_MD_idle 137 (.aload_n 0) 1 138 := ⟨by decide +kernel, rfl⟩
theorem d_MD_idle_138 : ez_at X_MD_idle 138 (.getfield 32) 3 141 := ⟨by decide +kernel, rfl⟩
theorem d_MD_idle_141 : ez_at X_MD_idle 141 (.iload 4) 2 143 := ⟨by decide +kernel, rfl⟩
theorem d_MD_idle_143 : ez_at X_MD_idle 143 (.baload) 1 144 := ⟨by decide +kernel, rfl⟩
theorem d_MD_idle_144 : ez_br X_MD_idle 144 (.ifCond .eq 46) 3 147 46 190 := ⟨by decide +kernel, rfl, rfl⟩
theorem d_MD_idle_147 : ez_at X_MD_idle 147 (.aload_n 0) 1 148 := ⟨by decide +kernel, rfl⟩
theorem d_MD_idle_148 : ez_at X_MD_idle 148 (.iload_n 1) 1 149 := ⟨by decide +kernel, rfl⟩
theorem d_MD_idle_149 : ez_at X_MD_idle 149 (.iload 4) 2 151 := ⟨by decide +kernel, rfl⟩
theorem d_MD_idle_151 : ez_at X_MD_idle 151 (.iload 5) 2 153 := ⟨by decide +kernel, rfl⟩
theorem d_MD_idle_153 : ez_at X_MD_idle 153 (.invokevirtual 85) 3 156 := ⟨by decide +kernel, rfl⟩
theorem d_MD_idle_156 : ez_at X_MD_idle 156 (.istore 6) 2 158 := ⟨by decide +kernel, rfl⟩
theorem d_MD_idle_158 : ez_at X_MD_idle 158 (.iload 6) 2 160 := ⟨by decide +kernel, rfl⟩
theorem d_MD_idle_160 : ez_at X_MD_idle 160 (.iconst (-1)) 1 161 := ⟨by decide +kernel, rfl⟩
theorem d_MD_idle_161 : ez_br X_MD_idle 161 (.if_icmp .eq 23) 3 164 23 184 := ⟨by decide +kernel, rfl, rfl⟩
theorem d_MD_idle_164 : ez_at X_MD_idle 164 (.aload_n 0) 1 165 := ⟨by decide +kernel, rfl⟩
theorem d_MD_idle_165 : ez_at X_MD_idle 165 (.getfield 32) 3 168 := ⟨by decide +kernel, rfl⟩
theorem d_MD_idle_168 : ez_at X_MD_idle 168 (.iload 6) 2 170 := ⟨by decide +kernel, rfl⟩
theorem d_MD_idle_170 : ez_at X_MD_idle 170 (.baload) 1 171 := ⟨by decide +kernel, rfl⟩
theorem d_MD_idle_171 : ez_br X_MD_idle 171 (.ifCond .ne 13) 3 174 13 184 := ⟨by decide +kernel, rfl, rfl⟩
theorem d_MD_idle_174 : ez_at X_MD_idle 174 (.aload_n 0) 1 175 := ⟨by decide +kernel, rfl⟩
theorem d_MD_idle_175 : ez_at X_MD_idle 175 (.getfield 32) 3 178 := ⟨by decide +kernel, rfl⟩
theorem d_MD_idle_178 : ez_at X_MD_idle 178 (.iload 6) 2 180 := ⟨by decide +kernel, rfl⟩
theorem d_MD_idle_180 : ez_at X_MD_idle 180 (.iconst 1) 1 181 := ⟨by decide +kernel, rfl⟩
theorem d_MD_idle_181 : ez_at X_MD_idle 181 (.bastore) 1 182 := ⟨by decide +kernel, rfl⟩
theorem d_MD_idle_182 : ez_at X_MD_idle 182 (.iconst 1) 1 183 := ⟨by decide +kernel, rfl⟩
theorem d_MD_idle_183 : ez_at X_MD_idle 183 (.istore_n 3) 1 184 := ⟨by decide +kernel, rfl⟩
theorem d_MD_idle_184 : ez_at X_MD_idle 184 (.iinc 5 1) 3 187 := ⟨by decide +kernel, rfl⟩
theorem d_MD_idle_187 : ez_br X_MD_idle 187 (.goto (-70)) 3 190 (-70) 117 := ⟨by decide +kernel, rfl, rfl⟩
theorem d_MD_idle_190 : ez_at X_MD_idle 190 (.iinc 4 1) 3 193 := ⟨by decide +kernel, rfl⟩
theorem d_MD_idle_193 : ez_br X_MD_idle 193 (.goto (-90)) 3 196 (-90) 103 := ⟨by decide +kernel, rfl, rfl⟩
theorem d_MD_idle_196 : ez_br X_MD_idle 196 (.goto (-102)) 3 199 (-102) 94 := ⟨by decide +kernel, rfl, rfl⟩
theorem d_MD_idle_199 : ez_at X_MD_idle 199 (.iload_n 2) 1 200 := ⟨by decide +kernel, rfl⟩
theorem d_MD_idle_200 : ez_at X_MD_idle 200 (.istore 4) 2 202 := ⟨by decide +kernel, rfl⟩
theorem d_MD_idle_202 : ez_at X_MD_idle 202 (.iconst 0) 1 203 := ⟨by decide +kernel, rfl⟩
theorem d_MD_idle_203 : ez_at X_MD_idle 203 (.istore 5) 2 205 := ⟨by decide +kernel, rfl⟩
theorem d_MD_idle_205 : ez_at X_MD_idle 205 (.iload 5) 2 207 := ⟨by decide +kernel, rfl⟩
theorem d_MD_idle_207 : ez_at X_MD_idle 207 (.aload_n 0) 1 208 := ⟨by decide +kernel, rfl⟩
theorem d_MD_idle_208 : ez_at X_MD_idle 208 (.getfield 13) 3 211 := ⟨by decide +kernel, rfl⟩
theorem d_MD_idle_211 : ez_at X_MD_idle 211 (.iload_n 1) 1 212 := ⟨by decide +kernel, rfl⟩
theorem d_MD_idle_212 : ez_at X_MD_idle 212 (.iaload) 1 213 := ⟨by decide +kernel, rfl⟩
theorem d_MD_idle_213 : ez_br X_MD_idle 213 (.if_icmp .ge 30) 3 216 30 243 := ⟨by decide +kernel, rfl, rfl⟩
theorem d_MD_idle_216 : ez_at X_MD_idle 216 (.aload_n 0) 1 217 := ⟨by decide +kernel, rfl⟩
theorem d_MD_idle_217 : ez_at X_MD_idle 217 (.getfield 32) 3 220 := ⟨by decide +kernel, rfl⟩
theorem d_MD_idle_220 : ez_at X_MD_idle 220 (.iload 5) 2 222 := ⟨by decide +kernel, rfl⟩
theorem d_MD_idle_222 : ez_at X_MD_idle 222 (.baload) 1 223 := ⟨by decide +kernel, rfl⟩
theorem d_MD_idle_223 : ez_br X_MD_idle 223 (.ifCond .ne 14) 3 226 14 237 := ⟨by decide +kernel, rfl, rfl⟩
theorem d_MD_idle_226 : ez_at X_MD_idle 226 (.iload 4) 2 228 := ⟨by decide +kernel, rfl⟩
theorem d_MD_idle_228 : ez_br X_MD_idle 228 (.ifCond .ne 6) 3 231 6 234 := ⟨by decide +kernel, rfl, rfl⟩
theorem d_MD_idle_231 : ez_at X_MD_idle 231 (.iload 5) 2 233 := ⟨by decide +kernel, rfl⟩
theorem d_MD_idle_233 : ez_at X_MD_idle 233 (.ireturn) 1 234 := ⟨by decide +kernel, rfl⟩
theorem d_MD_idle_234 : ez_at X_MD_idle 234 (.iinc 4 (-1)) 3 237 := ⟨by decide +kernel, rfl⟩
theorem d_MD_idle_237 : ez_at X_MD_idle 237 (.iinc 5 1) 3 240 := ⟨by decide +kernel, rfl⟩
theorem d_MD_idle_240 : ez_br X_MD_idle 240 (.goto (-35)) 3 243 (-35) 205 := ⟨by decide +kernel, rfl, rfl⟩
theorem d_MD_idle_243 : ez_at X_MD_idle 243 (.iconst (-1)) 1 244 := ⟨by decide +kernel, rfl⟩
theorem d_MD_idle_244 : ez_at X_MD_idle 244 (.ireturn) 1 245 := ⟨by decide +kernel, rfl⟩
theorem d_MD_blocks_0 : ez_at X_MD_blocks 0 (.aload_n 0) 1 1 := ⟨by decide +kernel, rfl⟩
theorem d_MD_blocks_1 : ez_at X_MD_blocks 1 (.iload_n 1) 1 2 := ⟨by decide +kernel, rfl⟩
theorem d_MD_blocks_2 : ez_at X_MD_blocks 2 (.iconst 0) 1 3 := ⟨by decide +kernel, rfl⟩
theorem d_MD_blocks_3 : ez_at X_MD_blocks 3 (.iconst 1) 1 4 := ⟨by decide +kernel, rfl⟩
theorem d_MD_blocks_4 : ez_at X_MD_blocks 4 (.invokestatic 69) 3 7 := ⟨by decide +kernel, rfl⟩
theorem d_MD_blocks_7 : ez_at X_MD_blocks 7 (.iconst 1) 1 8 := ⟨by decide +kernel, rfl⟩
theorem d_MD_blocks_8 : ez_at X_MD_blocks 8 (.invokevirtual 77) 3 11 := ⟨by decide +kernel, rfl⟩
theorem d_MD_blocks_11 : ez_br X_MD_blocks 11 (.ifCond .eq 12) 3 14 12 23 := ⟨by decide +kernel, rfl, rfl⟩
theorem d_MD_blocks_14 : ez_at X_MD_blocks 14 (.aload_n 0) 1 15 := ⟨by decide +kernel, rfl⟩
theorem d_MD_blocks_15 : ez_at X_MD_blocks 15 (.getfield 13) 3 18 := ⟨by decide +kernel, rfl⟩
theorem d_MD_blocks_18 : ez_at X_MD_blocks 18 (.iload_n 1) 1 19 := ⟨by decide +kernel, rfl⟩
theorem d_MD_blocks_19 : ez_at X_MD_blocks 19 (.iaload) 1 20 := ⟨by decide +kernel, rfl⟩
theorem d_MD_blocks_20 : ez_br X_MD_blocks 20 (.goto 4) 3 23 4 24 := ⟨by decide +kernel, rfl, rfl⟩
theorem d_MD_blocks_23 : ez_at X_MD_blocks 23 (.iconst 0) 1 24 := ⟨by decide +kernel, rfl⟩
theorem d_MD_blocks_24 : ez_at X_MD_blocks 24 (.ireturn) 1 25 := ⟨by decide +kernel, rfl⟩
end
section
/-! ===== decoded: LW ===== -/
theorem d_LW_cell_0 : ez_at X_LW_cell 0 (.iload_n 1) 1 1 := ⟨by decide +kernel, rfl⟩
theorem d_LW_cell_1 : ez_at X_LW_cell 1 (.aload_n 0) 1 2 := ⟨by decide +kernel, rfl⟩
theorem d_LW_cell_2 : ez_at X_LW_cell 2 (.arraylength) 1 3 := ⟨by decide +kernel, rfl⟩
theorem d_LW_cell_3 : ez_br X_LW_cell 3 (.if_icmp .ge 9) 3 6 9 12 := ⟨by decide +kernel, rfl, rfl⟩
theorem d_LW_cell_6 : ez_at X_LW_cell 6 (.aload_n 0) 1 7 := ⟨by decide +kernel, rfl⟩
theorem d_LW_cell_7 : ez_at X_LW_cell 7 (.iload_n 1) 1 8 := ⟨by decide +kernel, rfl⟩
theorem d_LW_cell_8 : ez_at X_LW_cell 8 (.iaload) 1 9 := ⟨by decide +kernel, rfl⟩
theorem d_LW_cell_9 : ez_br X_LW_cell 9 (.goto 4) 3 12 4 13 := ⟨by decide +kernel, rfl, rfl⟩
theorem d_LW_cell_12 : ez_at X_LW_cell 12 (.iconst 0) 1 13 := ⟨by decide +kernel, rfl⟩
theorem d_LW_cell_13 : ez_at X_LW_cell 13 (.ireturn) 1 14 := ⟨by decide +kernel, rfl⟩
theorem d_LW_block_0 : ez_at X_LW_block 0 (.aload 4) 2 2 := ⟨by decide +kernel, rfl⟩
theorem d_LW_block_2 : ez_at X_LW_block 2 (.iconst 0) 1 3 := ⟨by decide +kernel, rfl⟩
theorem d_LW_block_3 : ez_at X_LW_block 3 (.aload_n 0) 1 4 := ⟨by decide +kernel, rfl⟩
theorem d_LW_block_4 : ez_at X_LW_block 4 (.iload_n 1) 1 5 := ⟨by decide +kernel, rfl⟩
theorem d_LW_block_5 : ez_at X_LW_block 5 (.iload_n 2) 1 6 := ⟨by decide +kernel, rfl⟩
theorem d_LW_block_6 : ez_at X_LW_block 6 (.iload_n 3) 1 7 := ⟨by decide +kernel, rfl⟩
theorem d_LW_block_7 : ez_at X_LW_block 7 (.invokevirtual 7) 3 10 := ⟨by decide +kernel, rfl⟩
theorem d_LW_block_10 : ez_at X_LW_block 10 (.i2l) 1 11 := ⟨by decide +kernel, rfl⟩
theorem d_LW_block_11 : ez_at X_LW_block 11 (.lastore) 1 12 := ⟨by decide +kernel, rfl⟩
theorem d_LW_block_12 : ez_br X_LW_block 12 (.goto 11) 3 15 11 23 := ⟨by decide +kernel, rfl, rfl⟩
theorem d_LW_block_15 : ez_at X_LW_block 15 (.astore 5) 2 17 := ⟨by decide +kernel, rfl⟩
theorem d_LW_block_17 : ez_at X_LW_block 17 (.iconst 1) 1 18 := ⟨by decide +kernel, rfl⟩
theorem d_LW_block_18 : ez_at X_LW_block 18 (.ireturn) 1 19 := ⟨by decide +kernel, rfl⟩
theorem d_LW_block_19 : ez_at X_LW_block 19 (.astore 5) 2 21 := ⟨by decide +kernel, rfl⟩
theorem d_LW_block_21 : ez_at X_LW_block 21 (.iconst 2) 1 22 := ⟨by decide +kernel, rfl⟩
theorem d_LW_block_22 : ez_at X_LW_block 22 (.ireturn) 1 23 := ⟨by decide +kernel, rfl⟩
theorem d_LW_block_23 : ez_at X_LW_block 23 (.iconst 0) 1 24 := ⟨by decide +kernel, rfl⟩
theorem d_LW_block_24 : ez_at X_LW_block 24 (.ireturn) 1 25 := ⟨by decide +kernel, rfl⟩
theorem d_LW_wire_0 : ez_at X_LW_wire 0 (.aload 5) 2 2 := ⟨by decide +kernel, rfl⟩
theorem d_LW_wire_2 : ez_at X_LW_wire 2 (.iconst 0) 1 3 := ⟨by decide +kernel, rfl⟩
theorem d_LW_wire_3 : ez_at X_LW_wire 3 (.aload_n 0) 1 4 := ⟨by decide +kernel, rfl⟩
theorem d_LW_wire_4 : ez_at X_LW_wire 4 (.iload_n 1) 1 5 := ⟨by decide +kernel, rfl⟩
theorem d_LW_wire_5 : ez_at X_LW_wire 5 (.iload_n 2) 1 6 := ⟨by decide +kernel, rfl⟩
theorem d_LW_wire_6 : ez_at X_LW_wire 6 (.iload_n 3) 1 7 := ⟨by decide +kernel, rfl⟩
theorem d_LW_wire_7 : ez_at X_LW_wire 7 (.iload 4) 2 9 := ⟨by decide +kernel, rfl⟩
theorem d_LW_wire_9 : ez_at X_LW_wire 9 (.invokevirtual 17) 3 12 := ⟨by decide +kernel, rfl⟩
theorem d_LW_wire_12 : ez_at X_LW_wire 12 (.i2l) 1 13 := ⟨by decide +kernel, rfl⟩
theorem d_LW_wire_13 : ez_at X_LW_wire 13 (.lastore) 1 14 := ⟨by decide +kernel, rfl⟩
theorem d_LW_wire_14 : ez_br X_LW_wire 14 (.goto 7) 3 17 7 21 := ⟨by decide +kernel, rfl, rfl⟩
theorem d_LW_wire_17 : ez_at X_LW_wire 17 (.astore 6) 2 19 := ⟨by decide +kernel, rfl⟩
theorem d_LW_wire_19 : ez_at X_LW_wire 19 (.iconst 1) 1 20 := ⟨by decide +kernel, rfl⟩
theorem d_LW_wire_20 : ez_at X_LW_wire 20 (.ireturn) 1 21 := ⟨by decide +kernel, rfl⟩
theorem d_LW_wire_21 : ez_at X_LW_wire 21 (.iconst 0) 1 22 := ⟨by decide +kernel, rfl⟩
theorem d_LW_wire_22 : ez_at X_LW_wire 22 (.ireturn) 1 23 := ⟨by decide +kernel, rfl⟩
theorem d_LW_out_0 : ez_at X_LW_out 0 (.aload 4) 2 2 := ⟨by decide +kernel, rfl⟩
theorem d_LW_out_2 : ez_at X_LW_out 2 (.iconst 0) 1 3 := ⟨by decide +kernel, rfl⟩
theorem d_LW_out_3 : ez_at X_LW_out 3 (.aload_n 0) 1 4 := ⟨by decide +kernel, rfl⟩
theorem d_LW_out_4 : ez_at X_LW_out 4 (.iload_n 1) 1 5 := ⟨by decide +kernel, rfl⟩
theorem d_LW_out_5 : ez_at X_LW_out 5 (.iload_n 2) 1 6 := ⟨by decide +kernel, rfl⟩
theorem d_LW_out_6 : ez_at X_LW_out 6 (.iload_n 3) 1 7 := ⟨by decide +kernel, rfl⟩
theorem d_LW_out_7 : ez_at X_LW_out 7 (.invokevirtual 21) 3 10 := ⟨by decide +kernel, rfl⟩
theorem d_LW_out_10 : ez_at X_LW_out 10 (.i2l) 1 11 := ⟨by decide +kernel, rfl⟩
theorem d_LW_out_11 : ez_at X_LW_out 11 (.lastore) 1 12 := ⟨by decide +kernel, rfl⟩
theorem d_LW_out_12 : ez_br X_LW_out 12 (.goto 7) 3 15 7 19 := ⟨by decide +kernel, rfl, rfl⟩
theorem d_LW_out_15 : ez_at X_LW_out 15 (.astore 5) 2 17 := ⟨by decide +kernel, rfl⟩
theorem d_LW_out_17 : ez_at X_LW_out 17 (.iconst 1) 1 18 := ⟨by decide +kernel, rfl⟩
theorem d_LW_out_18 : ez_at X_LW_out 18 (.ireturn) 1 19 := ⟨by decide +kernel, rfl⟩
theorem d_LW_out_19 : ez_at X_LW_out 19 (.iconst 0) 1 20 := ⟨by decide +kernel, rfl⟩
theorem d_LW_out_20 : ez_at X_LW_out 20 (.ireturn) 1 21 := ⟨by decide +kernel, rfl⟩
theorem d_LW_bar_0 : ez_at X_LW_bar 0 (.aload_n 3) 1 1 := ⟨by decide +kernel, rfl⟩
theorem d_LW_bar_1 : ez_at X_LW_bar 1 (.iconst 0) 1 2 := ⟨by decide +kernel, rfl⟩
theorem d_LW_bar_2 : ez_at X_LW_bar 2 (.aload_n 0) 1 3 := ⟨by decide +kernel, rfl⟩
theorem d_LW_bar_3 : ez_at X_LW_bar 3 (.iload_n 1) 1 4 := ⟨by decide +kernel, rfl⟩
theorem d_LW_bar_4 : ez_at X_LW_bar 4 (.iload_n 2) 1 5 := ⟨by decide +kernel, rfl⟩
theorem d_LW_bar_5 : ez_at X_LW_bar 5 (.invokevirtual 24) 3 8 := ⟨by decide +kernel, rfl⟩
theorem d_LW_bar_8 : ez_br X_LW_bar 8 (.ifCond .eq 7) 3 11 7 15 := ⟨by decide +kernel, rfl, rfl⟩
theorem d_LW_bar_11 : ez_at X_LW_bar 11 (.lconst 1) 1 12 := ⟨by decide +kernel, rfl⟩
theorem d_LW_bar_12 : ez_br X_LW_bar 12 (.goto 4) 3 15 4 16 := ⟨by decide +kernel, rfl, rfl⟩
theorem d_LW_bar_15 : ez_at X_LW_bar 15 (.lconst 0) 1 16 := ⟨by decide +kernel, rfl⟩
theorem d_LW_bar_16 : ez_at X_LW_bar 16 (.lastore) 1 17 := ⟨by decide +kernel, rfl⟩
theorem d_LW_bar_17 : ez_br X_LW_bar 17 (.goto 7) 3 20 7 24 := ⟨by decide +kernel, rfl, rfl⟩
theorem d_LW_bar_20 : ez_at X_LW_bar 20 (.astore 4) 2 22 := ⟨by decide +kernel, rfl⟩
theorem d_LW_bar_22 : ez_at X_LW_bar 22 (.iconst 1) 1 23 := ⟨by decide +kernel, rfl⟩
theorem d_LW_bar_23 : ez_at X_LW_bar 23 (.ireturn) 1 24 := ⟨by decide +kernel, rfl⟩
theorem d_LW_bar_24 : ez_at X_LW_bar 24 (.iconst 0) 1 25 := ⟨by decide +kernel, rfl⟩
theorem d_LW_bar_25 : ez_at X_LW_bar 25 (.ireturn) 1 26 := ⟨by decide +kernel, rfl⟩
theorem d_LW_wrong_0 : ez_at X_LW_wrong 0 (.aload_n 2) 1 1 := ⟨by decide +kernel, rfl⟩
theorem d_LW_wrong_1 : ez_at X_LW_wrong 1 (.iconst 0) 1 2 := ⟨by decide +kernel, rfl⟩
theorem d_LW_wrong_2 : ez_at X_LW_wrong 2 (.aload_n 0) 1 3 := ⟨by decide +kernel, rfl⟩
theorem d_LW_wrong_3 : ez_at X_LW_wrong 3 (.iload_n 1) 1 4 := ⟨by decide +kernel, rfl⟩
theorem d_LW_wrong_4 : ez_at X_LW_wrong 4 (.invokevirtual 28) 3 7 := ⟨by decide +kernel, rfl⟩
theorem d_LW_wrong_7 : ez_at X_LW_wrong 7 (.i2l) 1 8 := ⟨by decide +kernel, rfl⟩
theorem d_LW_wrong_8 : ez_at X_LW_wrong 8 (.lastore) 1 9 := ⟨by decide +kernel, rfl⟩
theorem d_LW_wrong_9 : ez_br X_LW_wrong 9 (.goto 6) 3 12 6 15 := ⟨by decide +kernel, rfl, rfl⟩
theorem d_LW_wrong_12 : ez_at X_LW_wrong 12 (.astore_n 3) 1 13 := ⟨by decide +kernel, rfl⟩
theorem d_LW_wrong_13 : ez_at X_LW_wrong 13 (.iconst 1) 1 14 := ⟨by decide +kernel, rfl⟩
theorem d_LW_wrong_14 : ez_at X_LW_wrong 14 (.ireturn) 1 15 := ⟨by decide +kernel, rfl⟩
theorem d_LW_wrong_15 : ez_at X_LW_wrong 15 (.iconst 0) 1 16 := ⟨by decide +kernel, rfl⟩
theorem d_LW_wrong_16 : ez_at X_LW_wrong 16 (.ireturn) 1 17 := ⟨by decide +kernel, rfl⟩
theorem d_LW_value_0 : ez_at X_LW_value 0 (.aload 5) 2 2 := ⟨by decide +kernel, rfl⟩
theorem d_LW_value_2 : ez_at X_LW_value 2 (.iconst 0) 1 3 := ⟨by decide +kernel, rfl⟩
theorem d_LW_value_3 : ez_at X_LW_value 3 (.aload_n 0) 1 4 := ⟨by decide +kernel, rfl⟩
theorem d_LW_value_4 : ez_at X_LW_value 4 (.iload_n 1) 1 5 := ⟨by decide +kernel, rfl⟩
theorem d_LW_value_5 : ez_at X_LW_value 5 (.iload_n 2) 1 6 := ⟨by decide +kernel, rfl⟩
theorem d_LW_value_6 : ez_at X_LW_value 6 (.iload_n 3) 1 7 := ⟨by decide +kernel, rfl⟩
theorem d_LW_value_7 : ez_at X_LW_value 7 (.iload 4) 2 9 := ⟨by decide +kernel, rfl⟩
theorem d_LW_value_9 : ez_at X_LW_value 9 (.invokevirtual 32) 3 12 := ⟨by decide +kernel, rfl⟩
theorem d_LW_value_12 : ez_at X_LW_value 12 (.i2l) 1 13 := ⟨by decide +kernel, rfl⟩
theorem d_LW_value_13 : ez_at X_LW_value 13 (.lastore) 1 14 := ⟨by decide +kernel, rfl⟩
theorem d_LW_value_14 : ez_br X_LW_value 14 (.goto 11) 3 17 11 25 := ⟨by decide +kernel, rfl, rfl⟩
theorem d_LW_value_17 : ez_at X_LW_value 17 (.astore 6) 2 19 := ⟨by decide +kernel, rfl⟩
theorem d_LW_value_19 : ez_at X_LW_value 19 (.iconst 1) 1 20 := ⟨by decide +kernel, rfl⟩
theorem d_LW_value_20 : ez_at X_LW_value 20 (.ireturn) 1 21 := ⟨by decide +kernel, rfl⟩
theorem d_LW_value_21 : ez_at X_LW_value 21 (.astore 6) 2 23 := ⟨by decide +kernel, rfl⟩
theorem d_LW_value_23 : ez_at X_LW_value 23 (.iconst 2) 1 24 := ⟨by decide +kernel, rfl⟩
theorem d_LW_value_24 : ez_at X_LW_value 24 (.ireturn) 1 25 := ⟨by decide +kernel, rfl⟩
theorem d_LW_value_25 : ez_at X_LW_value 25 (.iconst 0) 1 26 := ⟨by decide +kernel, rfl⟩
theorem d_LW_value_26 : ez_at X_LW_value 26 (.ireturn) 1 27 := ⟨by decide +kernel, rfl⟩
theorem d_LW_tick_0 : ez_at X_LW_tick 0 (.aload 4) 2 2 := ⟨by decide +kernel, rfl⟩
theorem d_LW_tick_2 : ez_at X_LW_tick 2 (.iconst 0) 1 3 := ⟨by decide +kernel, rfl⟩
theorem d_LW_tick_3 : ez_at X_LW_tick 3 (.aload_n 0) 1 4 := ⟨by decide +kernel, rfl⟩
theorem d_LW_tick_4 : ez_at X_LW_tick 4 (.iload_n 1) 1 5 := ⟨by decide +kernel, rfl⟩
theorem d_LW_tick_5 : ez_at X_LW_tick 5 (.iload_n 2) 1 6 := ⟨by decide +kernel, rfl⟩
theorem d_LW_tick_6 : ez_at X_LW_tick 6 (.iload_n 3) 1 7 := ⟨by decide +kernel, rfl⟩
theorem d_LW_tick_7 : ez_at X_LW_tick 7 (.invokevirtual 35) 3 10 := ⟨by decide +kernel, rfl⟩
theorem d_LW_tick_10 : ez_at X_LW_tick 10 (.i2l) 1 11 := ⟨by decide +kernel, rfl⟩
theorem d_LW_tick_11 : ez_at X_LW_tick 11 (.lastore) 1 12 := ⟨by decide +kernel, rfl⟩
theorem d_LW_tick_12 : ez_br X_LW_tick 12 (.goto 11) 3 15 11 23 := ⟨by decide +kernel, rfl, rfl⟩
theorem d_LW_tick_15 : ez_at X_LW_tick 15 (.astore 5) 2 17 := ⟨by decide +kernel, rfl⟩
theorem d_LW_tick_17 : ez_at X_LW_tick 17 (.iconst 1) 1 18 := ⟨by decide +kernel, rfl⟩
theorem d_LW_tick_18 : ez_at X_LW_tick 18 (.ireturn) 1 19 := ⟨by decide +kernel, rfl⟩
theorem d_LW_tick_19 : ez_at X_LW_tick 19 (.astore 5) 2 21 := ⟨by decide +kernel, rfl⟩
theorem d_LW_tick_21 : ez_at X_LW_tick 21 (.iconst 2) 1 22 := ⟨by decide +kernel, rfl⟩
theorem d_LW_tick_22 : ez_at X_LW_tick 22 (.ireturn) 1 23 := ⟨by decide +kernel, rfl⟩
theorem d_LW_tick_23 : ez_at X_LW_tick 23 (.iconst 0) 1 24 := ⟨by decide +kernel, rfl⟩
theorem d_LW_tick_24 : ez_at X_LW_tick 24 (.ireturn) 1 25 := ⟨by decide +kernel, rfl⟩
theorem d_LW_reached_0 : ez_at X_LW_reached 0 (.aload_n 2) 1 1 := ⟨by decide +kernel, rfl⟩
theorem d_LW_reached_1 : ez_at X_LW_reached 1 (.iconst 0) 1 2 := ⟨by decide +kernel, rfl⟩
theorem d_LW_reached_2 : ez_at X_LW_reached 2 (.aload_n 0) 1 3 := ⟨by decide +kernel, rfl⟩
theorem d_LW_reached_3 : ez_at X_LW_reached 3 (.iload_n 1) 1 4 := ⟨by decide +kernel, rfl⟩
theorem d_LW_reached_4 : ez_at X_LW_reached 4 (.invokevirtual 38) 3 7 := ⟨by decide +kernel, rfl⟩
theorem d_LW_reached_7 : ez_at X_LW_reached 7 (.i2l) 1 8 := ⟨by decide +kernel, rfl⟩
theorem d_LW_reached_8 : ez_at X_LW_reached 8 (.lastore) 1 9 := ⟨by decide +kernel, rfl⟩
theorem d_LW_reached_9 : ez_br X_LW_reached 9 (.goto 9) 3 12 9 18 := ⟨by decide +kernel, rfl, rfl⟩
theorem d_LW_reached_12 : ez_at X_LW_reached 12 (.astore_n 3) 1 13 := ⟨by decide +kernel, rfl⟩
theorem d_LW_reached_13 : ez_at X_LW_reached 13 (.iconst 1) 1 14 := ⟨by decide +kernel, rfl⟩
theorem d_LW_reached_14 : ez_at X_LW_reached 14 (.ireturn) 1 15 := ⟨by decide +kernel, rfl⟩
theorem d_LW_reached_15 : ez_at X_LW_reached 15 (.astore_n 3) 1 16 := ⟨by decide +kernel, rfl⟩
theorem d_LW_reached_16 : ez_at X_LW_reached 16 (.iconst 2) 1 17 := ⟨by decide +kernel, rfl⟩
theorem d_LW_reached_17 : ez_at X_LW_reached 17 (.ireturn) 1 18 := ⟨by decide +kernel, rfl⟩
theorem d_LW_reached_18 : ez_at X_LW_reached 18 (.iconst 0) 1 19 := ⟨by decide +kernel, rfl⟩
theorem d_LW_reached_19 : ez_at X_LW_reached 19 (.ireturn) 1 20 := ⟨by decide +kernel, rfl⟩
theorem d_LW_state_0 : ez_at X_LW_state 0 (.aload_n 3) 1 1 := ⟨by decide +kernel, rfl⟩
theorem d_LW_state_1 : ez_at X_LW_state 1 (.iconst 0) 1 2 := ⟨by decide +kernel, rfl⟩
theorem d_LW_state_2 : ez_at X_LW_state 2 (.aload_n 0) 1 3 := ⟨by decide +kernel, rfl⟩
theorem d_LW_state_3 : ez_at X_LW_state 3 (.iload_n 1) 1 4 := ⟨by decide +kernel, rfl⟩
theorem d_LW_state_4 : ez_at X_LW_state 4 (.iload_n 2) 1 5 := ⟨by decide +kernel, rfl⟩
theorem d_LW_state_5 : ez_at X_LW_state 5 (.invokevirtual 41) 3 8 := ⟨by decide +kernel, rfl⟩
theorem d_LW_state_8 : ez_at X_LW_state 8 (.i2l) 1 9 := ⟨by decide +kernel, rfl⟩
theorem d_LW_state_9 : ez_at X_LW_state 9 (.lastore) 1 10 := ⟨by decide +kernel, rfl⟩
theorem d_LW_state_10 : ez_br X_LW_state 10 (.goto 11) 3 13 11 21 := ⟨by decide +kernel, rfl, rfl⟩
theorem d_LW_state_13 : ez_at X_LW_state 13 (.astore 4) 2 15 := ⟨by decide +kernel, rfl⟩
theorem d_LW_state_15 : ez_at X_LW_state 15 (.iconst 1) 1 16 := ⟨by decide +kernel, rfl⟩
theorem d_LW_state_16 : ez_at X_LW_state 16 (.ireturn) 1 17 := ⟨by decide +kernel, rfl⟩
theorem d_LW_state_17 : ez_at X_LW_state 17 (.astore 4) 2 19 := ⟨by decide +kernel, rfl⟩
theorem d_LW_state_19 : ez_at X_LW_state 19 (.iconst 2) 1 20 := ⟨by decide +kernel, rfl⟩
theorem d_LW_state_20 : ez_at X_LW_state 20 (.ireturn) 1 21 := ⟨by decide +kernel, rfl⟩
theorem d_LW_state_21 : ez_at X_LW_state 21 (.iconst 0) 1 22 := ⟨by decide +kernel, rfl⟩
theorem d_LW_state_22 : ez_at X_LW_state 22 (.ireturn) 1 23 := ⟨by decide +kernel, rfl⟩
theorem d_LW_least_0 : ez_at X_LW_least 0 (.aload_n 2) 1 1 := ⟨by decide +kernel, rfl⟩
theorem d_LW_least_1 : ez_at X_LW_least 1 (.iconst 0) 1 2 := ⟨by decide +kernel, rfl⟩
theorem d_LW_least_2 : ez_at X_LW_least 2 (.aload_n 0) 1 3 := ⟨by decide +kernel, rfl⟩
theorem d_LW_least_3 : ez_at X_LW_least 3 (.iload_n 1) 1 4 := ⟨by decide +kernel, rfl⟩
theorem d_LW_least_4 : ez_at X_LW_least 4 (.invokevirtual 45) 3 7 := ⟨by decide +kernel, rfl⟩
theorem d_LW_least_7 : ez_at X_LW_least 7 (.i2l) 1 8 := ⟨by decide +kernel, rfl⟩
theorem d_LW_least_8 : ez_at X_LW_least 8 (.lastore) 1 9 := ⟨by decide +kernel, rfl⟩
theorem d_LW_least_9 : ez_br X_LW_least 9 (.goto 9) 3 12 9 18 := ⟨by decide +kernel, rfl, rfl⟩
theorem d_LW_least_12 : ez_at X_LW_least 12 (.astore_n 3) 1 13 := ⟨by decide +kernel, rfl⟩
theorem d_LW_least_13 : ez_at X_LW_least 13 (.iconst 1) 1 14 := ⟨by decide +kernel, rfl⟩
theorem d_LW_least_14 : ez_at X_LW_least 14 (.ireturn) 1 15 := ⟨by decide +kernel, rfl⟩
theorem d_LW_least_15 : ez_at X_LW_least 15 (.astore_n 3) 1 16 := ⟨by decide +kernel, rfl⟩
theorem d_LW_least_16 : ez_at X_LW_least 16 (.iconst 2) 1 17 := ⟨by decide +kernel, rfl⟩
theorem d_LW_least_17 : ez_at X_LW_least 17 (.ireturn) 1 18 := ⟨by decide +kernel, rfl⟩
theorem d_LW_least_18 : ez_at X_LW_least 18 (.iconst 0) 1 19 := ⟨by decide +kernel, rfl⟩
theorem d_LW_least_19 : ez_at X_LW_least 19 (.ireturn) 1 20 := ⟨by decide +kernel, rfl⟩
theorem d_LW_compare_0 : ez_at X_LW_compare 0 (.aload_n 1) 1 1 := ⟨by decide +kernel, rfl⟩
theorem d_LW_compare_1 : ez_at X_LW_compare 1 (.iconst 0) 1 2 := ⟨by decide +kernel, rfl⟩
theorem d_LW_compare_2 : ez_at X_LW_compare 2 (.aload_n 0) 1 3 := ⟨by decide +kernel, rfl⟩
theorem d_LW_compare_3 : ez_at X_LW_compare 3 (.invokevirtual 48) 3 6 := ⟨by decide +kernel, rfl⟩
theorem d_LW_compare_6 : ez_at X_LW_compare 6 (.i2l) 1 7 := ⟨by decide +kernel, rfl⟩
theorem d_LW_compare_7 : ez_at X_LW_compare 7 (.lastore) 1 8 := ⟨by decide +kernel, rfl⟩
theorem d_LW_compare_8 : ez_br X_LW_compare 8 (.goto 6) 3 11 6 14 := ⟨by decide +kernel, rfl, rfl⟩
theorem d_LW_compare_11 : ez_at X_LW_compare 11 (.astore_n 2) 1 12 := ⟨by decide +kernel, rfl⟩
theorem d_LW_compare_12 : ez_at X_LW_compare 12 (.iconst 1) 1 13 := ⟨by decide +kernel, rfl⟩
theorem d_LW_compare_13 : ez_at X_LW_compare 13 (.ireturn) 1 14 := ⟨by decide +kernel, rfl⟩
theorem d_LW_compare_14 : ez_at X_LW_compare 14 (.iconst 0) 1 15 := ⟨by decide +kernel, rfl⟩
theorem d_LW_compare_15 : ez_at X_LW_compare 15 (.ireturn) 1 16 := ⟨by decide +kernel, rfl⟩
theorem d_LW_shown_0 : ez_at X_LW_shown 0 (.aload_n 2) 1 1 := ⟨by decide +kernel, rfl⟩
theorem d_LW_shown_1 : ez_at X_LW_shown 1 (.iconst 0) 1 2 := ⟨by decide +kernel, rfl⟩
theorem d_LW_shown_2 : ez_at X_LW_shown 2 (.aload_n 0) 1 3 := ⟨by decide +kernel, rfl⟩
theorem d_LW_shown_3 : ez_at X_LW_shown 3 (.iload_n 1) 1 4 := ⟨by decide +kernel, rfl⟩
theorem d_LW_shown_4 : ez_at X_LW_shown 4 (.invokevirtual 52) 3 7 := ⟨by decide +kernel, rfl⟩
theorem d_LW_shown_7 : ez_at X_LW_shown 7 (.i2l) 1 8 := ⟨by decide +kernel, rfl⟩
theorem d_LW_shown_8 : ez_at X_LW_shown 8 (.lastore) 1 9 := ⟨by decide +kernel, rfl⟩
theorem d_LW_shown_9 : ez_br X_LW_shown 9 (.goto 9) 3 12 9 18 := ⟨by decide +kernel, rfl, rfl⟩
theorem d_LW_shown_12 : ez_at X_LW_shown 12 (.astore_n 3) 1 13 := ⟨by decide +kernel, rfl⟩
theorem d_LW_shown_13 : ez_at X_LW_shown 13 (.iconst 1) 1 14 := ⟨by decide +kernel, rfl⟩
theorem d_LW_shown_14 : ez_at X_LW_shown 14 (.ireturn) 1 15 := ⟨by decide +kernel, rfl⟩
theorem d_LW_shown_15 : ez_at X_LW_shown 15 (.astore_n 3) 1 16 := ⟨by decide +kernel, rfl⟩
theorem d_LW_shown_16 : ez_at X_LW_shown 16 (.iconst 2) 1 17 := ⟨by decide +kernel, rfl⟩
theorem d_LW_shown_17 : ez_at X_LW_shown 17 (.ireturn) 1 18 := ⟨by decide +kernel, rfl⟩
theorem d_LW_shown_18 : ez_at X_LW_shown 18 (.iconst 0) 1 19 := ⟨by decide +kernel, rfl⟩
theorem d_LW_shown_19 : ez_at X_LW_shown 19 (.ireturn) 1 20 := ⟨by decide +kernel, rfl⟩
theorem d_LW_last_0 : ez_at X_LW_last 0 (.aload_n 2) 1 1 := ⟨by decide +kernel, rfl⟩
theorem d_LW_last_1 : ez_at X_LW_last 1 (.iconst 0) 1 2 := ⟨by decide +kernel, rfl⟩
theorem d_LW_last_2 : ez_at X_LW_last 2 (.aload_n 0) 1 3 := ⟨by decide +kernel, rfl⟩
theorem d_LW_last_3 : ez_at X_LW_last 3 (.iload_n 1) 1 4 := ⟨by decide +kernel, rfl⟩
theorem d_LW_last_4 : ez_at X_LW_last 4 (.invokevirtual 55) 3 7 := ⟨by decide +kernel, rfl⟩
theorem d_LW_last_7 : ez_at X_LW_last 7 (.i2l) 1 8 := ⟨by decide +kernel, rfl⟩
theorem d_LW_last_8 : ez_at X_LW_last 8 (.lastore) 1 9 := ⟨by decide +kernel, rfl⟩
theorem d_LW_last_9 : ez_br X_LW_last 9 (.goto 9) 3 12 9 18 := ⟨by decide +kernel, rfl, rfl⟩
theorem d_LW_last_12 : ez_at X_LW_last 12 (.astore_n 3) 1 13 := ⟨by decide +kernel, rfl⟩
theorem d_LW_last_13 : ez_at X_LW_last 13 (.iconst 1) 1 14 := ⟨by decide +kernel, rfl⟩
theorem d_LW_last_14 : ez_at X_LW_last 14 (.ireturn) 1 15 := ⟨by decide +kernel, rfl⟩
theorem d_LW_last_15 : ez_at X_LW_last 15 (.astore_n 3) 1 16 := ⟨by decide +kernel, rfl⟩
theorem d_LW_last_16 : ez_at X_LW_last 16 (.iconst 2) 1 17 := ⟨by decide +kernel, rfl⟩
theorem d_LW_last_17 : ez_at X_LW_last 17 (.ireturn) 1 18 := ⟨by decide +kernel, rfl⟩
theorem d_LW_last_18 : ez_at X_LW_last 18 (.iconst 0) 1 19 := ⟨by decide +kernel, rfl⟩
theorem d_LW_last_19 : ez_at X_LW_last 19 (.ireturn) 1 20 := ⟨by decide +kernel, rfl⟩
theorem d_LW_pairs_0 : ez_at X_LW_pairs 0 (.aload_n 1) 1 1 := ⟨by decide +kernel, rfl⟩
theorem d_LW_pairs_1 : ez_at X_LW_pairs 1 (.iconst 0) 1 2 := ⟨by decide +kernel, rfl⟩
theorem d_LW_pairs_2 : ez_at X_LW_pairs 2 (.aload_n 0) 1 3 := ⟨by decide +kernel, rfl⟩
theorem d_LW_pairs_3 : ez_at X_LW_pairs 3 (.invokevirtual 58) 3 6 := ⟨by decide +kernel, rfl⟩
theorem d_LW_pairs_6 : ez_at X_LW_pairs 6 (.i2l) 1 7 := ⟨by decide +kernel, rfl⟩
theorem d_LW_pairs_7 : ez_at X_LW_pairs 7 (.lastore) 1 8 := ⟨by decide +kernel, rfl⟩
theorem d_LW_pairs_8 : ez_br X_LW_pairs 8 (.goto 6) 3 11 6 14 := ⟨by decide +kernel, rfl, rfl⟩
theorem d_LW_pairs_11 : ez_at X_LW_pairs 11 (.astore_n 2) 1 12 := ⟨by decide +kernel, rfl⟩
theorem d_LW_pairs_12 : ez_at X_LW_pairs 12 (.iconst 1) 1 13 := ⟨by decide +kernel, rfl⟩
theorem d_LW_pairs_13 : ez_at X_LW_pairs 13 (.ireturn) 1 14 := ⟨by decide +kernel, rfl⟩
theorem d_LW_pairs_14 : ez_at X_LW_pairs 14 (.iconst 0) 1 15 := ⟨by decide +kernel, rfl⟩
theorem d_LW_pairs_15 : ez_at X_LW_pairs 15 (.ireturn) 1 16 := ⟨by decide +kernel, rfl⟩
theorem d_LW_same_0 : ez_at X_LW_same 0 (.aload_n 1) 1 1 := ⟨by decide +kernel, rfl⟩
theorem d_LW_same_1 : ez_at X_LW_same 1 (.iconst 0) 1 2 := ⟨by decide +kernel, rfl⟩
theorem d_LW_same_2 : ez_at X_LW_same 2 (.aload_n 0) 1 3 := ⟨by decide +kernel, rfl⟩
theorem d_LW_same_3 : ez_at X_LW_same 3 (.invokevirtual 61) 3 6 := ⟨by decide +kernel, rfl⟩
theorem d_LW_same_6 : ez_br X_LW_same 6 (.ifCond .eq 7) 3 9 7 13 := ⟨by decide +kernel, rfl, rfl⟩
theorem d_LW_same_9 : ez_at X_LW_same 9 (.lconst 1) 1 10 := ⟨by decide +kernel, rfl⟩
theorem d_LW_same_10 : ez_br X_LW_same 10 (.goto 4) 3 13 4 14 := ⟨by decide +kernel, rfl, rfl⟩
theorem d_LW_same_13 : ez_at X_LW_same 13 (.lconst 0) 1 14 := ⟨by decide +kernel, rfl⟩
theorem d_LW_same_14 : ez_at X_LW_same 14 (.lastore) 1 15 := ⟨by decide +kernel, rfl⟩
theorem d_LW_same_15 : ez_br X_LW_same 15 (.goto 6) 3 18 6 21 := ⟨by decide +kernel, rfl, rfl⟩
theorem d_LW_same_18 : ez_at X_LW_same 18 (.astore_n 2) 1 19 := ⟨by decide +kernel, rfl⟩
theorem d_LW_same_19 : ez_at X_LW_same 19 (.iconst 1) 1 20 := ⟨by decide +kernel, rfl⟩
theorem d_LW_same_20 : ez_at X_LW_same 20 (.ireturn) 1 21 := ⟨by decide +kernel, rfl⟩
theorem d_LW_same_21 : ez_at X_LW_same 21 (.iconst 0) 1 22 := ⟨by decide +kernel, rfl⟩
theorem d_LW_same_22 : ez_at X_LW_same 22 (.ireturn) 1 23 := ⟨by decide +kernel, rfl⟩
theorem d_LW_matched_0 : ez_at X_LW_matched 0 (.aload_n 2) 1 1 := ⟨by decide +kernel, rfl⟩
theorem d_LW_matched_1 : ez_at X_LW_matched 1 (.iconst 0) 1 2 := ⟨by decide +kernel, rfl⟩
theorem d_LW_matched_2 : ez_at X_LW_matched 2 (.aload_n 0) 1 3 := ⟨by decide +kernel, rfl⟩
theorem d_LW_matched_3 : ez_at X_LW_matched 3 (.iload_n 1) 1 4 := ⟨by decide +kernel, rfl⟩
theorem d_LW_matched_4 : ez_at X_LW_matched 4 (.invokevirtual 65) 3 7 := ⟨by decide +kernel, rfl⟩
theorem d_LW_matched_7 : ez_at X_LW_matched 7 (.i2l) 1 8 := ⟨by decide +kernel, rfl⟩
theorem d_LW_matched_8 : ez_at X_LW_matched 8 (.lastore) 1 9 := ⟨by decide +kernel, rfl⟩
theorem d_LW_matched_9 : ez_br X_LW_matched 9 (.goto 9) 3 12 9 18 := ⟨by decide +kernel, rfl, rfl⟩
theorem d_LW_matched_12 : ez_at X_LW_matched 12 (.astore_n 3) 1 13 := ⟨by decide +kernel, rfl⟩
theorem d_LW_matched_13 : ez_at X_LW_matched 13 (.iconst 1) 1 14 := ⟨by decide +kernel, rfl⟩
theorem d_LW_matched_14 : ez_at X_LW_matched 14 (.ireturn) 1 15 := ⟨by decide +kernel, rfl⟩
theorem d_LW_matched_15 : ez_at X_LW_matched 15 (.astore_n 3) 1 16 := ⟨by decide +kernel, rfl⟩
theorem d_LW_matched_16 : ez_at X_LW_matched 16 (.iconst 2) 1 17 := ⟨by decide +kernel, rfl⟩
theorem d_LW_matched_17 : ez_at X_LW_matched 17 (.ireturn) 1 18 := ⟨by decide +kernel, rfl⟩
theorem d_LW_matched_18 : ez_at X_LW_matched 18 (.iconst 0) 1 19 := ⟨by decide +kernel, rfl⟩
theorem d_LW_matched_19 : ez_at X_LW_matched 19 (.ireturn) 1 20 := ⟨by decide +kernel, rfl⟩
theorem d_LW_idle_0 : ez_at X_LW_idle 0 (.aload_n 3) 1 1 := ⟨by decide +kernel, rfl⟩
theorem d_LW_idle_1 : ez_at X_LW_idle 1 (.iconst 0) 1 2 := ⟨by decide +kernel, rfl⟩
theorem d_LW_idle_2 : ez_at X_LW_idle 2 (.aload_n 0) 1 3 := ⟨by decide +kernel, rfl⟩
theorem d_LW_idle_3 : ez_at X_LW_idle 3 (.iload_n 1) 1 4 := ⟨by decide +kernel, rfl⟩
theorem d_LW_idle_4 : ez_at X_LW_idle 4 (.iload_n 2) 1 5 := ⟨by decide +kernel, rfl⟩
theorem d_LW_idle_5 : ez_at X_LW_idle 5 (.invokevirtual 68) 3 8 := ⟨by decide +kernel, rfl⟩
theorem d_LW_idle_8 : ez_at X_LW_idle 8 (.i2l) 1 9 := ⟨by decide +kernel, rfl⟩
theorem d_LW_idle_9 : ez_at X_LW_idle 9 (.lastore) 1 10 := ⟨by decide +kernel, rfl⟩
theorem d_LW_idle_10 : ez_br X_LW_idle 10 (.goto 7) 3 13 7 17 := ⟨by decide +kernel, rfl, rfl⟩
theorem d_LW_idle_13 : ez_at X_LW_idle 13 (.astore 4) 2 15 := ⟨by decide +kernel, rfl⟩
theorem d_LW_idle_15 : ez_at X_LW_idle 15 (.iconst 1) 1 16 := ⟨by decide +kernel, rfl⟩
theorem d_LW_idle_16 : ez_at X_LW_idle 16 (.ireturn) 1 17 := ⟨by decide +kernel, rfl⟩
theorem d_LW_idle_17 : ez_at X_LW_idle 17 (.iconst 0) 1 18 := ⟨by decide +kernel, rfl⟩
theorem d_LW_idle_18 : ez_at X_LW_idle 18 (.ireturn) 1 19 := ⟨by decide +kernel, rfl⟩
theorem d_LW_blocks_0 : ez_at X_LW_blocks 0 (.aload_n 2) 1 1 := ⟨by decide +kernel, rfl⟩
theorem d_LW_blocks_1 : ez_at X_LW_blocks 1 (.iconst 0) 1 2 := ⟨by decide +kernel, rfl⟩
theorem d_LW_blocks_2 : ez_at X_LW_blocks 2 (.aload_n 0) 1 3 := ⟨by decide +kernel, rfl⟩
theorem d_LW_blocks_3 : ez_at X_LW_blocks 3 (.iload_n 1) 1 4 := ⟨by decide +kernel, rfl⟩
theorem d_LW_blocks_4 : ez_at X_LW_blocks 4 (.invokevirtual 71) 3 7 := ⟨by decide +kernel, rfl⟩
theorem d_LW_blocks_7 : ez_at X_LW_blocks 7 (.i2l) 1 8 := ⟨by decide +kernel, rfl⟩
theorem d_LW_blocks_8 : ez_at X_LW_blocks 8 (.lastore) 1 9 := ⟨by decide +kernel, rfl⟩
theorem d_LW_blocks_9 : ez_br X_LW_blocks 9 (.goto 6) 3 12 6 15 := ⟨by decide +kernel, rfl, rfl⟩
theorem d_LW_blocks_12 : ez_at X_LW_blocks 12 (.astore_n 3) 1 13 := ⟨by decide +kernel, rfl⟩
theorem d_LW_blocks_13 : ez_at X_LW_blocks 13 (.iconst 1) 1 14 := ⟨by decide +kernel, rfl⟩
theorem d_LW_blocks_14 : ez_at X_LW_blocks 14 (.ireturn) 1 15 := ⟨by decide +kernel, rfl⟩
theorem d_LW_blocks_15 : ez_at X_LW_blocks 15 (.iconst 0) 1 16 := ⟨by decide +kernel, rfl⟩
theorem d_LW_blocks_16 : ez_at X_LW_blocks 16 (.ireturn) 1 17 := ⟨by decide +kernel, rfl⟩
end
section
/-! ===== calls in the steady world, of methods that keep nothing that they make ===== -/
section EsCalls
variable {l : Launch} {G : ez_G} {X : ez_X} {pc pc' : Nat} {ls : List (Option Value)} {st : List Value} {σ : es_S} {R : Option Value → es_S → Prop} {T : Nat → es_S → Prop}
theorem es_Ct_of {n : Nat} {as : List Value} {h : ez_H} {Q : ez_R → Prop} (hok : ez_ok X n) (hcat : (as.map fun w => w.category) = List.replicate as.length 1) (hlen : as.length ≤ X.2.2.1) (hls : ez_ls X as = ls) (body : ez_Ev l G X 0 0 0 ls [] h Q) : ez_Ct l G X as h Q := by
  subst hls
  refine ez_Ct_of hok (fun w hw => ?_) hlen body
  have h1 : w.category ∈ as.map fun w => w.category := List.mem_map.mpr ⟨w, hw, rfl⟩
  rw [hcat] at h1
  exact (List.mem_replicate.mp h1).2
def es_lS (X Y : ez_X) (index n : Nat) : Prop := es_lkS X Y index n ∧ ez_fits X Y 0 0 ∧ ez_hs X = [] ∧ ez_mc Y = 0 ∧ ez_ms Y = 0
def es_lV (X Y : ez_X) (index n ci : Nat) : Prop := es_lkV X Y index n ci ∧ ez_fits X Y 0 0 ∧ ez_hs X = [] ∧ ez_mc Y = 0 ∧ ez_ms Y = 0
theorem es_zero {Y : ez_X} (h : ez_mc Y = 0 ∧ ez_ms Y = 0) : 0 + ez_mc Y ≤ ez_mc X ∧ 0 + ez_ms Y ≤ ez_ms X := by omega
theorem es_kr {Y : ez_X} (h : ez_mc Y = 0 ∧ ez_ms Y = 0) {hh : ez_H} {Q : ez_R → Prop} (k : ez_Ev l G X 0 0 pc' ls st hh Q) : ez_Ev l G X (0 + ez_mc Y) (0 + ez_ms Y) pc' ls st hh Q := by
  rw [h.1, h.2]
  exact k
theorem es_throw {k : Nat} (hl : l.stackTraces = false) (ht : ez_thr X pc k) (hX : ez_hs X = []) (hr : (6 ≤ ez_fr X ∧ 84 ≤ ez_lo X) ∧ 0 + 1 ≤ ez_rc X ∧ 0 + 6 ≤ ez_rs X) (hq : T k σ) : ez_Ev l G X 0 0 pc ls [] (es_H σ) (es_Q R T) :=
  ev_throw hl ht hX hr ⟨Nat.zero_le _, Nat.zero_le _⟩ rfl ⟨σ, rfl, hq⟩
theorem es_cSI {Y : ez_X} {n index : Nat} {as rest : List Value} {P : Int32 → es_S → Prop} {T' : Nat → es_S → Prop} (lk : es_lS X Y index n) (hd : ez_at X pc (.invokestatic index) 3 pc') (hC : ez_Ct l G Y as (es_H σ) (es_Q (es_I P) T')) (hs : st = as.reverse ++ rest) (hn : as.length = n) (hrest : (rest.map fun v => v.category).sum ≤ 8)
    (kr : ∀ x σ', P x σ' → ez_Ev l G X 0 0 pc' ls (.int x :: rest) (es_H σ') (es_Q R T)) (kt : ∀ k σ', T' k σ' → T k σ') : ez_Ev l G X 0 0 pc ls st (es_H σ) (es_Q R T) :=
  es_callsI lk.1 hd hC hs hn lk.2.1 hrest lk.2.2.1 (es_zero lk.2.2.2) (fun x σ' hp => es_kr lk.2.2.2 (kr x σ' hp)) kt
theorem es_cVI {Y : ez_X} {n index b ci : Nat} {rs : List (Option Nat)} {as rest : List Value} {P : Int32 → es_S → Prop} {T' : Nat → es_S → Prop} (lk : es_lV X Y index n ci) (hd : ez_at X pc (.invokevirtual index) 3 pc') (hb : es_SH[b]? = some (.inr (ci, rs))) (hC : ez_Ct l G Y (.ref b :: as) (es_H σ) (es_Q (es_I P) T')) (hs : st = as.reverse ++ .ref b :: rest) (hn : as.length = n) (hrest : (rest.map fun v => v.category).sum ≤ 8)
    (kr : ∀ x σ', P x σ' → ez_Ev l G X 0 0 pc' ls (.int x :: rest) (es_H σ') (es_Q R T)) (kt : ∀ k σ', T' k σ' → T k σ') : ez_Ev l G X 0 0 pc ls st (es_H σ) (es_Q R T) :=
  es_callvI lk.1 hd hb hC hs hn lk.2.1 hrest lk.2.2.1 (es_zero lk.2.2.2) (fun x σ' hp => es_kr lk.2.2.2 (kr x σ' hp)) kt
theorem es_cSV {Y : ez_X} {n index : Nat} {as rest : List Value} {P : es_S → Prop} {T' : Nat → es_S → Prop} (lk : es_lS X Y index n) (hd : ez_at X pc (.invokestatic index) 3 pc') (hC : ez_Ct l G Y as (es_H σ) (es_Q (es_V P) T')) (hs : st = as.reverse ++ rest) (hn : as.length = n) (hrest : (rest.map fun v => v.category).sum ≤ 8)
    (kr : ∀ σ', P σ' → ez_Ev l G X 0 0 pc' ls rest (es_H σ') (es_Q R T)) (kt : ∀ k σ', T' k σ' → T k σ') : ez_Ev l G X 0 0 pc ls st (es_H σ) (es_Q R T) :=
  es_callsV lk.1 hd hC hs hn lk.2.1 hrest lk.2.2.1 (es_zero lk.2.2.2) (fun σ' hp => es_kr lk.2.2.2 (kr σ' hp)) kt
theorem es_cVV {Y : ez_X} {n index b ci : Nat} {rs : List (Option Nat)} {as rest : List Value} {P : es_S → Prop} {T' : Nat → es_S → Prop} (lk : es_lV X Y index n ci) (hd : ez_at X pc (.invokevirtual index) 3 pc') (hb : es_SH[b]? = some (.inr (ci, rs))) (hC : ez_Ct l G Y (.ref b :: as) (es_H σ) (es_Q (es_V P) T')) (hs : st = as.reverse ++ .ref b :: rest) (hn : as.length = n) (hrest : (rest.map fun v => v.category).sum ≤ 8)
    (kr : ∀ σ', P σ' → ez_Ev l G X 0 0 pc' ls rest (es_H σ') (es_Q R T)) (kt : ∀ k σ', T' k σ' → T k σ') : ez_Ev l G X 0 0 pc ls st (es_H σ) (es_Q R T) :=
  es_callvV lk.1 hd hb hC hs hn lk.2.1 hrest lk.2.2.1 (es_zero lk.2.2.2) (fun σ' hp => es_kr lk.2.2.2 (kr σ' hp)) kt
theorem es_cSP {Y : ez_X} {n index : Nat} {as rest : List Value} {P : Nat → es_S → Prop} {T' : Nat → es_S → Prop} (lk : es_lS X Y index n) (hd : ez_at X pc (.invokestatic index) 3 pc') (hC : ez_Ct l G Y as (es_H σ) (es_Q (es_P P) T')) (hs : st = as.reverse ++ rest) (hn : as.length = n) (hrest : (rest.map fun v => v.category).sum ≤ 8)
    (kr : ∀ x σ', P x σ' → ez_Ev l G X 0 0 pc' ls (.ref x :: rest) (es_H σ') (es_Q R T)) (kt : ∀ k σ', T' k σ' → T k σ') : ez_Ev l G X 0 0 pc ls st (es_H σ) (es_Q R T) :=
  es_callsP lk.1 hd hC hs hn lk.2.1 hrest lk.2.2.1 (es_zero lk.2.2.2) (fun x σ' hp => es_kr lk.2.2.2 (kr x σ' hp)) kt
theorem es_cVP {Y : ez_X} {n index b ci : Nat} {rs : List (Option Nat)} {as rest : List Value} {P : Nat → es_S → Prop} {T' : Nat → es_S → Prop} (lk : es_lV X Y index n ci) (hd : ez_at X pc (.invokevirtual index) 3 pc') (hb : es_SH[b]? = some (.inr (ci, rs))) (hC : ez_Ct l G Y (.ref b :: as) (es_H σ) (es_Q (es_P P) T')) (hs : st = as.reverse ++ .ref b :: rest) (hn : as.length = n) (hrest : (rest.map fun v => v.category).sum ≤ 8)
    (kr : ∀ x σ', P x σ' → ez_Ev l G X 0 0 pc' ls (.ref x :: rest) (es_H σ') (es_Q R T)) (kt : ∀ k σ', T' k σ' → T k σ') : ez_Ev l G X 0 0 pc ls st (es_H σ) (es_Q R T) :=
  es_callvP lk.1 hd hb hC hs hn lk.2.1 hrest lk.2.2.1 (es_zero lk.2.2.2) (fun x σ' hp => es_kr lk.2.2.2 (kr x σ' hp)) kt
end EsCalls
theorem ls_EE_block_2 : es_lV X_EE_block X_EE_editionOf 68 1 0 := ⟨lk_EE_block_2, ⟨⟨by decide, by decide⟩, by decide, by decide⟩, rfl, rfl, rfl⟩
theorem ls_EE_block_10 : es_lS X_EE_block X_EE_isWithin 72 2 := ⟨lk_EE_block_10, ⟨⟨by decide, by decide⟩, by decide, by decide⟩, rfl, rfl, rfl⟩
theorem ls_EE_block_19 : es_lV X_EE_block X_EE_isNumberOfKind 76 2 0 := ⟨lk_EE_block_19, ⟨⟨by decide, by decide⟩, by decide, by decide⟩, rfl, rfl, rfl⟩
theorem ls_EE_block_38 : es_lV X_EE_block X_ED_hasRoomFor 86 1 1 := ⟨lk_EE_block_38, ⟨⟨by decide, by decide⟩, by decide, by decide⟩, rfl, rfl, rfl⟩
theorem ls_EE_block_55 : es_lV X_EE_block X_EE_forgetAnswers 95 0 0 := ⟨lk_EE_block_55, ⟨⟨by decide, by decide⟩, by decide, by decide⟩, rfl, rfl, rfl⟩
theorem ls_EE_block_62 : es_lV X_EE_block X_ED_addBlock 98 2 1 := ⟨lk_EE_block_62, ⟨⟨by decide, by decide⟩, by decide, by decide⟩, rfl, rfl, rfl⟩
theorem ls_EE_wire_2 : es_lV X_EE_wire X_EE_editionOf 68 1 0 := ⟨lk_EE_wire_2, ⟨⟨by decide, by decide⟩, by decide, by decide⟩, rfl, rfl, rfl⟩
theorem ls_EE_wire_10 : es_lV X_EE_wire X_ED_hasBlock 101 1 1 := ⟨lk_EE_wire_10, ⟨⟨by decide, by decide⟩, by decide, by decide⟩, rfl, rfl, rfl⟩
theorem ls_EE_wire_18 : es_lS X_EE_wire X_EE_isWithin 72 2 := ⟨lk_EE_wire_18, ⟨⟨by decide, by decide⟩, by decide, by decide⟩, rfl, rfl, rfl⟩
theorem ls_EE_wire_28 : es_lV X_EE_wire X_ED_hasBlockOrNone 104 1 1 := ⟨lk_EE_wire_28, ⟨⟨by decide, by decide⟩, by decide, by decide⟩, rfl, rfl, rfl⟩
theorem ls_EE_wire_45 : es_lV X_EE_wire X_EE_forgetAnswers 95 0 0 := ⟨lk_EE_wire_45, ⟨⟨by decide, by decide⟩, by decide, by decide⟩, rfl, rfl, rfl⟩
theorem ls_EE_wire_54 : es_lV X_EE_wire X_ED_rewire 109 3 1 := ⟨lk_EE_wire_54, ⟨⟨by decide, by decide⟩, by decide, by decide⟩, rfl, rfl, rfl⟩
theorem ls_EE_out_2 : es_lV X_EE_out X_EE_editionOf 68 1 0 := ⟨lk_EE_out_2, ⟨⟨by decide, by decide⟩, by decide, by decide⟩, rfl, rfl, rfl⟩
theorem ls_EE_out_9 : es_lS X_EE_out X_EE_isWithin 72 2 := ⟨lk_EE_out_9, ⟨⟨by decide, by decide⟩, by decide, by decide⟩, rfl, rfl, rfl⟩
theorem ls_EE_out_18 : es_lV X_EE_out X_ED_hasBlockOrNone 104 1 1 := ⟨lk_EE_out_18, ⟨⟨by decide, by decide⟩, by decide, by decide⟩, rfl, rfl, rfl⟩
theorem ls_EE_out_35 : es_lV X_EE_out X_EE_forgetAnswers 95 0 0 := ⟨lk_EE_out_35, ⟨⟨by decide, by decide⟩, by decide, by decide⟩, rfl, rfl, rfl⟩
theorem ls_EE_out_42 : es_lV X_EE_out X_ED_changeOutput 115 2 1 := ⟨lk_EE_out_42, ⟨⟨by decide, by decide⟩, by decide, by decide⟩, rfl, rfl, rfl⟩
theorem ls_EE_bar_2 : es_lV X_EE_bar X_EE_checkRow 118 1 0 := ⟨lk_EE_bar_2, ⟨⟨by decide, by decide⟩, by decide, by decide⟩, rfl, rfl, rfl⟩
theorem ls_EE_bar_6 : es_lV X_EE_bar X_EE_forgetAnswers 95 0 0 := ⟨lk_EE_bar_6, ⟨⟨by decide, by decide⟩, by decide, by decide⟩, rfl, rfl, rfl⟩
theorem ls_EE_wrong_2 : es_lV X_EE_wrong X_EE_editionOf 68 1 0 := ⟨lk_EE_wrong_2, ⟨⟨by decide, by decide⟩, by decide, by decide⟩, rfl, rfl, rfl⟩
theorem ls_EE_wrong_5 : es_lV X_EE_wrong X_ED_firstFault 122 0 1 := ⟨lk_EE_wrong_5, ⟨⟨by decide, by decide⟩, by decide, by decide⟩, rfl, rfl, rfl⟩
theorem ls_EE_value_2 : es_lV X_EE_value X_EE_editionOf 68 1 0 := ⟨lk_EE_value_2, ⟨⟨by decide, by decide⟩, by decide, by decide⟩, rfl, rfl, rfl⟩
theorem ls_EE_value_6 : es_lS X_EE_value X_EE_checkBlock 126 2 := ⟨lk_EE_value_6, ⟨⟨by decide, by decide⟩, by decide, by decide⟩, rfl, rfl, rfl⟩
theorem ls_EE_value_12 : es_lV X_EE_value X_EE_checkRow 118 1 0 := ⟨lk_EE_value_12, ⟨⟨by decide, by decide⟩, by decide, by decide⟩, rfl, rfl, rfl⟩
theorem ls_EE_value_17 : es_lV X_EE_value X_EE_behaviourOf 130 1 0 := ⟨lk_EE_value_17, ⟨⟨by decide, by decide⟩, by decide, by decide⟩, rfl, rfl, rfl⟩
theorem ls_EE_value_24 : es_lV X_EE_value X_BH_valueOf 134 3 2 := ⟨lk_EE_value_24, ⟨⟨by decide, by decide⟩, by decide, by decide⟩, rfl, rfl, rfl⟩
theorem ls_EE_tick_2 : es_lV X_EE_tick X_EE_checkRow 118 1 0 := ⟨lk_EE_tick_2, ⟨⟨by decide, by decide⟩, by decide, by decide⟩, rfl, rfl, rfl⟩
theorem ls_EE_tick_7 : es_lV X_EE_tick X_EE_behaviourOf 130 1 0 := ⟨lk_EE_tick_7, ⟨⟨by decide, by decide⟩, by decide, by decide⟩, rfl, rfl, rfl⟩
theorem ls_EE_tick_16 : es_lV X_EE_tick X_BH_outsOf 137 2 2 := ⟨lk_EE_tick_16, ⟨⟨by decide, by decide⟩, by decide, by decide⟩, rfl, rfl, rfl⟩
theorem ls_EE_tick_25 : es_lV X_EE_tick X_BH_stateAfter 140 2 2 := ⟨lk_EE_tick_25, ⟨⟨by decide, by decide⟩, by decide, by decide⟩, rfl, rfl, rfl⟩
theorem ls_EE_reached_2 : es_lV X_EE_reached X_EE_behaviourOf 130 1 0 := ⟨lk_EE_reached_2, ⟨⟨by decide, by decide⟩, by decide, by decide⟩, rfl, rfl, rfl⟩
theorem ls_EE_reached_5 : es_lV X_EE_reached X_BH_countReached 143 0 2 := ⟨lk_EE_reached_5, ⟨⟨by decide, by decide⟩, by decide, by decide⟩, rfl, rfl, rfl⟩
theorem ls_EE_state_16 : es_lV X_EE_state X_EE_behaviourOf 130 1 0 := ⟨lk_EE_state_16, ⟨⟨by decide, by decide⟩, by decide, by decide⟩, rfl, rfl, rfl⟩
theorem ls_EE_state_20 : es_lV X_EE_state X_BH_reachedAt 148 1 2 := ⟨lk_EE_state_20, ⟨⟨by decide, by decide⟩, by decide, by decide⟩, rfl, rfl, rfl⟩
theorem ls_EE_least_2 : es_lV X_EE_least X_EE_behaviourOf 130 1 0 := ⟨lk_EE_least_2, ⟨⟨by decide, by decide⟩, by decide, by decide⟩, rfl, rfl, rfl⟩
theorem ls_EE_least_6 : es_lV X_EE_least X_EE_openRows 152 0 0 := ⟨lk_EE_least_6, ⟨⟨by decide, by decide⟩, by decide, by decide⟩, rfl, rfl, rfl⟩
theorem ls_EE_least_9 : es_lV X_EE_least X_BH_countClasses 155 1 2 := ⟨lk_EE_least_9, ⟨⟨by decide, by decide⟩, by decide, by decide⟩, rfl, rfl, rfl⟩
theorem ls_EE_compare_1 : es_lV X_EE_compare X_EE_searchOfBoth 158 0 0 := ⟨lk_EE_compare_1, ⟨⟨by decide, by decide⟩, by decide, by decide⟩, rfl, rfl, rfl⟩
theorem ls_EE_compare_4 : es_lV X_EE_compare X_PS_countShown 162 0 3 := ⟨lk_EE_compare_4, ⟨⟨by decide, by decide⟩, by decide, by decide⟩, rfl, rfl, rfl⟩
theorem ls_EE_shown_15 : es_lV X_EE_shown X_EE_searchOfBoth 158 0 0 := ⟨lk_EE_shown_15, ⟨⟨by decide, by decide⟩, by decide, by decide⟩, rfl, rfl, rfl⟩
theorem ls_EE_shown_21 : es_lV X_EE_shown X_PS_countShown 162 0 3 := ⟨lk_EE_shown_21, ⟨⟨by decide, by decide⟩, by decide, by decide⟩, rfl, rfl, rfl⟩
theorem ls_EE_shown_39 : es_lV X_EE_shown X_PS_shownRow 169 1 3 := ⟨lk_EE_shown_39, ⟨⟨by decide, by decide⟩, by decide, by decide⟩, rfl, rfl, rfl⟩
theorem ls_EE_last_1 : es_lS X_EE_last X_EE_checkEdition 172 1 := ⟨lk_EE_last_1, ⟨⟨by decide, by decide⟩, by decide, by decide⟩, rfl, rfl, rfl⟩
theorem ls_EE_last_5 : es_lV X_EE_last X_EE_searchOfBoth 158 0 0 := ⟨lk_EE_last_5, ⟨⟨by decide, by decide⟩, by decide, by decide⟩, rfl, rfl, rfl⟩
theorem ls_EE_last_9 : es_lV X_EE_last X_PS_lastOuts 175 1 3 := ⟨lk_EE_last_9, ⟨⟨by decide, by decide⟩, by decide, by decide⟩, rfl, rfl, rfl⟩
theorem ls_EE_pairs_1 : es_lV X_EE_pairs X_EE_searchOfBoth 158 0 0 := ⟨lk_EE_pairs_1, ⟨⟨by decide, by decide⟩, by decide, by decide⟩, rfl, rfl, rfl⟩
theorem ls_EE_pairs_4 : es_lV X_EE_pairs X_PS_countPairs 178 0 3 := ⟨lk_EE_pairs_4, ⟨⟨by decide, by decide⟩, by decide, by decide⟩, rfl, rfl, rfl⟩
theorem ls_EE_same_1 : es_lV X_EE_same X_EE_checkBothRight 181 0 0 := ⟨lk_EE_same_1, ⟨⟨by decide, by decide⟩, by decide, by decide⟩, rfl, rfl, rfl⟩
theorem ls_EE_same_8 : es_lV X_EE_same X_MT_matchAll 184 0 4 := ⟨lk_EE_same_8, ⟨⟨by decide, by decide⟩, by decide, by decide⟩, rfl, rfl, rfl⟩
theorem ls_EE_matched_5 : es_lS X_EE_matched X_EE_checkBlock 126 2 := ⟨lk_EE_matched_5, ⟨⟨by decide, by decide⟩, by decide, by decide⟩, rfl, rfl, rfl⟩
theorem ls_EE_matched_9 : es_lV X_EE_matched X_EE_checkBothRight 181 0 0 := ⟨lk_EE_matched_9, ⟨⟨by decide, by decide⟩, by decide, by decide⟩, rfl, rfl, rfl⟩
theorem ls_EE_matched_16 : es_lV X_EE_matched X_MT_matchAll 184 0 4 := ⟨lk_EE_matched_16, ⟨⟨by decide, by decide⟩, by decide, by decide⟩, rfl, rfl, rfl⟩
theorem ls_EE_matched_27 : es_lV X_EE_matched X_MT_partnerOf 188 1 4 := ⟨lk_EE_matched_27, ⟨⟨by decide, by decide⟩, by decide, by decide⟩, rfl, rfl, rfl⟩
theorem ls_EE_idle_2 : es_lV X_EE_idle X_EE_editionOf 68 1 0 := ⟨lk_EE_idle_2, ⟨⟨by decide, by decide⟩, by decide, by decide⟩, rfl, rfl, rfl⟩
theorem ls_EE_idle_22 : es_lV X_EE_idle X_ED_idleAt 193 1 1 := ⟨lk_EE_idle_22, ⟨⟨by decide, by decide⟩, by decide, by decide⟩, rfl, rfl, rfl⟩
theorem ls_EE_blocks_2 : es_lV X_EE_blocks X_EE_editionOf 68 1 0 := ⟨lk_EE_blocks_2, ⟨⟨by decide, by decide⟩, by decide, by decide⟩, rfl, rfl, rfl⟩
theorem ls_EE_blocks_5 : es_lV X_EE_blocks X_ED_countBlocks 196 0 1 := ⟨lk_EE_blocks_5, ⟨⟨by decide, by decide⟩, by decide, by decide⟩, rfl, rfl, rfl⟩
theorem ls_EE_editionOf_1 : es_lS X_EE_editionOf X_EE_checkEdition 172 1 := ⟨lk_EE_editionOf_1, ⟨⟨by decide, by decide⟩, by decide, by decide⟩, rfl, rfl, rfl⟩
theorem ls_EE_behaviourOf_2 : es_lV X_EE_behaviourOf X_EE_editionOf 68 1 0 := ⟨lk_EE_behaviourOf_2, ⟨⟨by decide, by decide⟩, by decide, by decide⟩, rfl, rfl, rfl⟩
theorem ls_EE_behaviourOf_5 : es_lV X_EE_behaviourOf X_ED_firstFault 122 0 1 := ⟨lk_EE_behaviourOf_5, ⟨⟨by decide, by decide⟩, by decide, by decide⟩, rfl, rfl, rfl⟩
theorem ls_EE_behaviourOf_44 : es_lV X_EE_behaviourOf X_EE_openRows 152 0 0 := ⟨lk_EE_behaviourOf_44, ⟨⟨by decide, by decide⟩, by decide, by decide⟩, rfl, rfl, rfl⟩
theorem ls_EE_behaviourOf_47 : es_lV X_EE_behaviourOf X_BH_learn 201 2 2 := ⟨lk_EE_behaviourOf_47, ⟨⟨by decide, by decide⟩, by decide, by decide⟩, rfl, rfl, rfl⟩
theorem ls_EE_searchOfBoth_1 : es_lV X_EE_searchOfBoth X_EE_checkBothRight 181 0 0 := ⟨lk_EE_searchOfBoth_1, ⟨⟨by decide, by decide⟩, by decide, by decide⟩, rfl, rfl, rfl⟩
theorem ls_EE_searchOfBoth_13 : es_lV X_EE_searchOfBoth X_EE_openRows 152 0 0 := ⟨lk_EE_searchOfBoth_13, ⟨⟨by decide, by decide⟩, by decide, by decide⟩, rfl, rfl, rfl⟩
theorem ls_EE_searchOfBoth_16 : es_lV X_EE_searchOfBoth X_BH_learn 201 2 2 := ⟨lk_EE_searchOfBoth_16, ⟨⟨by decide, by decide⟩, by decide, by decide⟩, rfl, rfl, rfl⟩
theorem ls_EE_searchOfBoth_28 : es_lV X_EE_searchOfBoth X_EE_openRows 152 0 0 := ⟨lk_EE_searchOfBoth_28, ⟨⟨by decide, by decide⟩, by decide, by decide⟩, rfl, rfl, rfl⟩
theorem ls_EE_searchOfBoth_31 : es_lV X_EE_searchOfBoth X_BH_learn 201 2 2 := ⟨lk_EE_searchOfBoth_31, ⟨⟨by decide, by decide⟩, by decide, by decide⟩, rfl, rfl, rfl⟩
theorem ls_EE_searchOfBoth_39 : es_lV X_EE_searchOfBoth X_EE_openRows 152 0 0 := ⟨lk_EE_searchOfBoth_39, ⟨⟨by decide, by decide⟩, by decide, by decide⟩, rfl, rfl, rfl⟩
theorem ls_EE_searchOfBoth_42 : es_lV X_EE_searchOfBoth X_PS_learn 205 1 3 := ⟨lk_EE_searchOfBoth_42, ⟨⟨by decide, by decide⟩, by decide, by decide⟩, rfl, rfl, rfl⟩
theorem ls_EE_forgetAnswers_4 : es_lV X_EE_forgetAnswers X_BH_forget 207 0 2 := ⟨lk_EE_forgetAnswers_4, ⟨⟨by decide, by decide⟩, by decide, by decide⟩, rfl, rfl, rfl⟩
theorem ls_EE_forgetAnswers_11 : es_lV X_EE_forgetAnswers X_BH_forget 207 0 2 := ⟨lk_EE_forgetAnswers_11, ⟨⟨by decide, by decide⟩, by decide, by decide⟩, rfl, rfl, rfl⟩
theorem ls_EE_forgetAnswers_18 : es_lV X_EE_forgetAnswers X_PS_forget 210 0 3 := ⟨lk_EE_forgetAnswers_18, ⟨⟨by decide, by decide⟩, by decide, by decide⟩, rfl, rfl, rfl⟩
theorem ls_EE_isNumberOfKind_33 : es_lS X_EE_isNumberOfKind X_EE_isWithin 72 2 := ⟨lk_EE_isNumberOfKind_33, ⟨⟨by decide, by decide⟩, by decide, by decide⟩, rfl, rfl, rfl⟩
theorem ls_EE_isNumberOfKind_39 : es_lS X_EE_isNumberOfKind X_EE_isWithin 72 2 := ⟨lk_EE_isNumberOfKind_39, ⟨⟨by decide, by decide⟩, by decide, by decide⟩, rfl, rfl, rfl⟩
theorem ls_EE_checkRow_5 : es_lS X_EE_checkRow X_EE_isWithin 72 2 := ⟨lk_EE_checkRow_5, ⟨⟨by decide, by decide⟩, by decide, by decide⟩, rfl, rfl, rfl⟩
theorem ls_EE_checkBothRight_4 : es_lV X_EE_checkBothRight X_ED_firstFault 122 0 1 := ⟨lk_EE_checkBothRight_4, ⟨⟨by decide, by decide⟩, by decide, by decide⟩, rfl, rfl, rfl⟩
theorem ls_EE_checkBothRight_15 : es_lV X_EE_checkBothRight X_ED_firstFault 122 0 1 := ⟨lk_EE_checkBothRight_15, ⟨⟨by decide, by decide⟩, by decide, by decide⟩, rfl, rfl, rfl⟩
theorem ls_EE_checkEdition_2 : es_lS X_EE_checkEdition X_EE_isWithin 72 2 := ⟨lk_EE_checkEdition_2, ⟨⟨by decide, by decide⟩, by decide, by decide⟩, rfl, rfl, rfl⟩
theorem ls_EE_checkBlock_2 : es_lV X_EE_checkBlock X_ED_hasBlock 101 1 1 := ⟨lk_EE_checkBlock_2, ⟨⟨by decide, by decide⟩, by decide, by decide⟩, rfl, rfl, rfl⟩
theorem ls_MD_isBlock_3 : es_lS X_MD_isBlock X_MD_in 69 3 := ⟨lk_MD_isBlock_3, ⟨⟨by decide, by decide⟩, by decide, by decide⟩, rfl, rfl, rfl⟩
theorem ls_MD_isBlock_19 : es_lS X_MD_isBlock X_MD_in 69 3 := ⟨lk_MD_isBlock_19, ⟨⟨by decide, by decide⟩, by decide, by decide⟩, rfl, rfl, rfl⟩
theorem ls_MD_isRow_10 : es_lS X_MD_isRow X_MD_in 69 3 := ⟨lk_MD_isRow_10, ⟨⟨by decide, by decide⟩, by decide, by decide⟩, rfl, rfl, rfl⟩
theorem ls_MD_block_3 : es_lS X_MD_block X_MD_in 69 3 := ⟨lk_MD_block_3, ⟨⟨by decide, by decide⟩, by decide, by decide⟩, rfl, rfl, rfl⟩
theorem ls_MD_block_13 : es_lS X_MD_block X_MD_in 69 3 := ⟨lk_MD_block_13, ⟨⟨by decide, by decide⟩, by decide, by decide⟩, rfl, rfl, rfl⟩
theorem ls_MD_block_31 : es_lS X_MD_block X_MD_in 69 3 := ⟨lk_MD_block_31, ⟨⟨by decide, by decide⟩, by decide, by decide⟩, rfl, rfl, rfl⟩
theorem ls_MD_block_45 : es_lS X_MD_block X_MD_in 69 3 := ⟨lk_MD_block_45, ⟨⟨by decide, by decide⟩, by decide, by decide⟩, rfl, rfl, rfl⟩
theorem ls_MD_block_85 : es_lV X_MD_block X_MD_delays 73 1 5 := ⟨lk_MD_block_85, ⟨⟨by decide, by decide⟩, by decide, by decide⟩, rfl, rfl, rfl⟩
theorem ls_MD_block_97 : es_lV X_MD_block X_MD_goes 77 2 5 := ⟨lk_MD_block_97, ⟨⟨by decide, by decide⟩, by decide, by decide⟩, rfl, rfl, rfl⟩
theorem ls_MD_wire_4 : es_lV X_MD_wire X_MD_isBlock 81 2 5 := ⟨lk_MD_wire_4, ⟨⟨by decide, by decide⟩, by decide, by decide⟩, rfl, rfl, rfl⟩
theorem ls_MD_wire_13 : es_lS X_MD_wire X_MD_in 69 3 := ⟨lk_MD_wire_13, ⟨⟨by decide, by decide⟩, by decide, by decide⟩, rfl, rfl, rfl⟩
theorem ls_MD_wire_29 : es_lV X_MD_wire X_MD_isBlock 81 2 5 := ⟨lk_MD_wire_29, ⟨⟨by decide, by decide⟩, by decide, by decide⟩, rfl, rfl, rfl⟩
theorem ls_MD_wire_41 : es_lV X_MD_wire X_MD_goes 77 2 5 := ⟨lk_MD_wire_41, ⟨⟨by decide, by decide⟩, by decide, by decide⟩, rfl, rfl, rfl⟩
theorem ls_MD_wire_61 : es_lV X_MD_wire X_MD_input 85 3 5 := ⟨lk_MD_wire_61, ⟨⟨by decide, by decide⟩, by decide, by decide⟩, rfl, rfl, rfl⟩
theorem ls_MD_out_4 : es_lS X_MD_out X_MD_in 69 3 := ⟨lk_MD_out_4, ⟨⟨by decide, by decide⟩, by decide, by decide⟩, rfl, rfl, rfl⟩
theorem ls_MD_out_13 : es_lS X_MD_out X_MD_in 69 3 := ⟨lk_MD_out_13, ⟨⟨by decide, by decide⟩, by decide, by decide⟩, rfl, rfl, rfl⟩
theorem ls_MD_out_27 : es_lV X_MD_out X_MD_isBlock 81 2 5 := ⟨lk_MD_out_27, ⟨⟨by decide, by decide⟩, by decide, by decide⟩, rfl, rfl, rfl⟩
theorem ls_MD_out_39 : es_lV X_MD_out X_MD_goes 77 2 5 := ⟨lk_MD_out_39, ⟨⟨by decide, by decide⟩, by decide, by decide⟩, rfl, rfl, rfl⟩
theorem ls_MD_bar_3 : es_lV X_MD_bar X_MD_isRow 89 1 5 := ⟨lk_MD_bar_3, ⟨⟨by decide, by decide⟩, by decide, by decide⟩, rfl, rfl, rfl⟩
theorem ls_MD_bar_7 : es_lV X_MD_bar X_MD_goes 77 2 5 := ⟨lk_MD_bar_7, ⟨⟨by decide, by decide⟩, by decide, by decide⟩, rfl, rfl, rfl⟩
theorem ls_MD_isRound_24 : es_lV X_MD_isRound X_MD_mark 93 2 5 := ⟨lk_MD_isRound_24, ⟨⟨by decide, by decide⟩, by decide, by decide⟩, rfl, rfl, rfl⟩
theorem ls_MD_isRound_73 : es_lV X_MD_isRound X_MD_mark 93 2 5 := ⟨lk_MD_isRound_73, ⟨⟨by decide, by decide⟩, by decide, by decide⟩, rfl, rfl, rfl⟩
theorem ls_MD_mark_21 : es_lS X_MD_mark X_MD_needs 96 1 := ⟨lk_MD_mark_21, ⟨⟨by decide, by decide⟩, by decide, by decide⟩, rfl, rfl, rfl⟩
theorem ls_MD_mark_38 : es_lV X_MD_mark X_MD_input 85 3 5 := ⟨lk_MD_mark_38, ⟨⟨by decide, by decide⟩, by decide, by decide⟩, rfl, rfl, rfl⟩
theorem ls_MD_fault_26 : es_lS X_MD_fault X_MD_needs 96 1 := ⟨lk_MD_fault_26, ⟨⟨by decide, by decide⟩, by decide, by decide⟩, rfl, rfl, rfl⟩
theorem ls_MD_fault_36 : es_lV X_MD_fault X_MD_input 85 3 5 := ⟨lk_MD_fault_36, ⟨⟨by decide, by decide⟩, by decide, by decide⟩, rfl, rfl, rfl⟩
theorem ls_MD_fault_72 : es_lV X_MD_fault X_MD_isRound 99 2 5 := ⟨lk_MD_fault_72, ⟨⟨by decide, by decide⟩, by decide, by decide⟩, rfl, rfl, rfl⟩
theorem ls_MD_wrong_4 : es_lS X_MD_wrong X_MD_in 69 3 := ⟨lk_MD_wrong_4, ⟨⟨by decide, by decide⟩, by decide, by decide⟩, rfl, rfl, rfl⟩
theorem ls_MD_wrong_8 : es_lV X_MD_wrong X_MD_goes 77 2 5 := ⟨lk_MD_wrong_8, ⟨⟨by decide, by decide⟩, by decide, by decide⟩, rfl, rfl, rfl⟩
theorem ls_MD_wrong_16 : es_lV X_MD_wrong X_MD_fault 102 1 5 := ⟨lk_MD_wrong_16, ⟨⟨by decide, by decide⟩, by decide, by decide⟩, rfl, rfl, rfl⟩
theorem ls_MD_isRight_3 : es_lS X_MD_isRight X_MD_in 69 3 := ⟨lk_MD_isRight_3, ⟨⟨by decide, by decide⟩, by decide, by decide⟩, rfl, rfl, rfl⟩
theorem ls_MD_isRight_11 : es_lV X_MD_isRight X_MD_fault 102 1 5 := ⟨lk_MD_isRight_11, ⟨⟨by decide, by decide⟩, by decide, by decide⟩, rfl, rfl, rfl⟩
theorem ls_MD_areRight_2 : es_lV X_MD_areRight X_MD_isRight 105 1 5 := ⟨lk_MD_areRight_2, ⟨⟨by decide, by decide⟩, by decide, by decide⟩, rfl, rfl, rfl⟩
theorem ls_MD_areRight_10 : es_lV X_MD_areRight X_MD_isRight 105 1 5 := ⟨lk_MD_areRight_10, ⟨⟨by decide, by decide⟩, by decide, by decide⟩, rfl, rfl, rfl⟩
theorem ls_MD_settle_159 : es_lV X_MD_settle X_MD_reckon 108 2 5 := ⟨lk_MD_settle_159, ⟨⟨by decide, by decide⟩, by decide, by decide⟩, rfl, rfl, rfl⟩
theorem ls_MD_reckon_20 : es_lV X_MD_reckon X_MD_input 85 3 5 := ⟨lk_MD_reckon_20, ⟨⟨by decide, by decide⟩, by decide, by decide⟩, rfl, rfl, rfl⟩
theorem ls_MD_reckon_43 : es_lV X_MD_reckon X_MD_input 85 3 5 := ⟨lk_MD_reckon_43, ⟨⟨by decide, by decide⟩, by decide, by decide⟩, rfl, rfl, rfl⟩
theorem ls_MD_answer_4 : es_lV X_MD_answer X_MD_settle 112 3 5 := ⟨lk_MD_answer_4, ⟨⟨by decide, by decide⟩, by decide, by decide⟩, rfl, rfl, rfl⟩
theorem ls_MD_answer_109 : es_lV X_MD_answer X_MD_input 85 3 5 := ⟨lk_MD_answer_109, ⟨⟨by decide, by decide⟩, by decide, by decide⟩, rfl, rfl, rfl⟩
theorem ls_MD_value_4 : es_lV X_MD_value X_MD_isBlock 81 2 5 := ⟨lk_MD_value_4, ⟨⟨by decide, by decide⟩, by decide, by decide⟩, rfl, rfl, rfl⟩
theorem ls_MD_value_13 : es_lV X_MD_value X_MD_isRow 89 1 5 := ⟨lk_MD_value_13, ⟨⟨by decide, by decide⟩, by decide, by decide⟩, rfl, rfl, rfl⟩
theorem ls_MD_value_26 : es_lV X_MD_value X_MD_isRight 105 1 5 := ⟨lk_MD_value_26, ⟨⟨by decide, by decide⟩, by decide, by decide⟩, rfl, rfl, rfl⟩
theorem ls_MD_value_29 : es_lV X_MD_value X_MD_goes 77 2 5 := ⟨lk_MD_value_29, ⟨⟨by decide, by decide⟩, by decide, by decide⟩, rfl, rfl, rfl⟩
theorem ls_MD_value_42 : es_lV X_MD_value X_MD_settle 112 3 5 := ⟨lk_MD_value_42, ⟨⟨by decide, by decide⟩, by decide, by decide⟩, rfl, rfl, rfl⟩
theorem ls_MD_tick_4 : es_lS X_MD_tick X_MD_in 69 3 := ⟨lk_MD_tick_4, ⟨⟨by decide, by decide⟩, by decide, by decide⟩, rfl, rfl, rfl⟩
theorem ls_MD_tick_12 : es_lV X_MD_tick X_MD_isRow 89 1 5 := ⟨lk_MD_tick_12, ⟨⟨by decide, by decide⟩, by decide, by decide⟩, rfl, rfl, rfl⟩
theorem ls_MD_tick_25 : es_lV X_MD_tick X_MD_isRight 105 1 5 := ⟨lk_MD_tick_25, ⟨⟨by decide, by decide⟩, by decide, by decide⟩, rfl, rfl, rfl⟩
theorem ls_MD_tick_28 : es_lV X_MD_tick X_MD_goes 77 2 5 := ⟨lk_MD_tick_28, ⟨⟨by decide, by decide⟩, by decide, by decide⟩, rfl, rfl, rfl⟩
theorem ls_MD_tick_38 : es_lV X_MD_tick X_MD_answer 116 3 5 := ⟨lk_MD_tick_38, ⟨⟨by decide, by decide⟩, by decide, by decide⟩, rfl, rfl, rfl⟩
theorem ls_MD_explore_3 : es_lV X_MD_explore X_MD_delays 73 1 5 := ⟨lk_MD_explore_3, ⟨⟨by decide, by decide⟩, by decide, by decide⟩, rfl, rfl, rfl⟩
theorem ls_MD_explore_76 : es_lV X_MD_explore X_MD_answer 116 3 5 := ⟨lk_MD_explore_76, ⟨⟨by decide, by decide⟩, by decide, by decide⟩, rfl, rfl, rfl⟩
theorem ls_MD_reached_4 : es_lS X_MD_reached X_MD_in 69 3 := ⟨lk_MD_reached_4, ⟨⟨by decide, by decide⟩, by decide, by decide⟩, rfl, rfl, rfl⟩
theorem ls_MD_reached_9 : es_lV X_MD_reached X_MD_isRight 105 1 5 := ⟨lk_MD_reached_9, ⟨⟨by decide, by decide⟩, by decide, by decide⟩, rfl, rfl, rfl⟩
theorem ls_MD_reached_12 : es_lV X_MD_reached X_MD_goes 77 2 5 := ⟨lk_MD_reached_12, ⟨⟨by decide, by decide⟩, by decide, by decide⟩, rfl, rfl, rfl⟩
theorem ls_MD_reached_22 : es_lV X_MD_reached X_MD_explore 119 1 5 := ⟨lk_MD_reached_22, ⟨⟨by decide, by decide⟩, by decide, by decide⟩, rfl, rfl, rfl⟩
theorem ls_MD_reached_27 : es_lV X_MD_reached X_MD_reachedCount 123 1 5 := ⟨lk_MD_reached_27, ⟨⟨by decide, by decide⟩, by decide, by decide⟩, rfl, rfl, rfl⟩
theorem ls_MD_state_4 : es_lS X_MD_state X_MD_in 69 3 := ⟨lk_MD_state_4, ⟨⟨by decide, by decide⟩, by decide, by decide⟩, rfl, rfl, rfl⟩
theorem ls_MD_state_21 : es_lV X_MD_state X_MD_isRight 105 1 5 := ⟨lk_MD_state_21, ⟨⟨by decide, by decide⟩, by decide, by decide⟩, rfl, rfl, rfl⟩
theorem ls_MD_state_24 : es_lV X_MD_state X_MD_goes 77 2 5 := ⟨lk_MD_state_24, ⟨⟨by decide, by decide⟩, by decide, by decide⟩, rfl, rfl, rfl⟩
theorem ls_MD_state_34 : es_lV X_MD_state X_MD_explore 119 1 5 := ⟨lk_MD_state_34, ⟨⟨by decide, by decide⟩, by decide, by decide⟩, rfl, rfl, rfl⟩
theorem ls_MD_least_4 : es_lS X_MD_least X_MD_in 69 3 := ⟨lk_MD_least_4, ⟨⟨by decide, by decide⟩, by decide, by decide⟩, rfl, rfl, rfl⟩
theorem ls_MD_least_9 : es_lV X_MD_least X_MD_isRight 105 1 5 := ⟨lk_MD_least_9, ⟨⟨by decide, by decide⟩, by decide, by decide⟩, rfl, rfl, rfl⟩
theorem ls_MD_least_12 : es_lV X_MD_least X_MD_goes 77 2 5 := ⟨lk_MD_least_12, ⟨⟨by decide, by decide⟩, by decide, by decide⟩, rfl, rfl, rfl⟩
theorem ls_MD_least_22 : es_lV X_MD_least X_MD_explore 119 1 5 := ⟨lk_MD_least_22, ⟨⟨by decide, by decide⟩, by decide, by decide⟩, rfl, rfl, rfl⟩
theorem ls_MD_least_50 : es_lV X_MD_least X_MD_delays 73 1 5 := ⟨lk_MD_least_50, ⟨⟨by decide, by decide⟩, by decide, by decide⟩, rfl, rfl, rfl⟩
theorem ls_MD_least_103 : es_lV X_MD_least X_MD_tells 126 3 5 := ⟨lk_MD_least_103, ⟨⟨by decide, by decide⟩, by decide, by decide⟩, rfl, rfl, rfl⟩
theorem ls_MD_goOver_2 : es_lV X_MD_goOver X_MD_explore 119 1 5 := ⟨lk_MD_goOver_2, ⟨⟨by decide, by decide⟩, by decide, by decide⟩, rfl, rfl, rfl⟩
theorem ls_MD_goOver_7 : es_lV X_MD_goOver X_MD_explore 119 1 5 := ⟨lk_MD_goOver_7, ⟨⟨by decide, by decide⟩, by decide, by decide⟩, rfl, rfl, rfl⟩
theorem ls_MD_goOver_46 : es_lV X_MD_goOver X_MD_meet 135 3 5 := ⟨lk_MD_goOver_46, ⟨⟨by decide, by decide⟩, by decide, by decide⟩, rfl, rfl, rfl⟩
theorem ls_MD_goOver_179 : es_lV X_MD_goOver X_MD_meet 135 3 5 := ⟨lk_MD_goOver_179, ⟨⟨by decide, by decide⟩, by decide, by decide⟩, rfl, rfl, rfl⟩
theorem ls_MD_compare_2 : es_lV X_MD_compare X_MD_areRight 141 0 5 := ⟨lk_MD_compare_2, ⟨⟨by decide, by decide⟩, by decide, by decide⟩, rfl, rfl, rfl⟩
theorem ls_MD_compare_6 : es_lV X_MD_compare X_MD_goes 77 2 5 := ⟨lk_MD_compare_6, ⟨⟨by decide, by decide⟩, by decide, by decide⟩, rfl, rfl, rfl⟩
theorem ls_MD_compare_15 : es_lV X_MD_compare X_MD_goOver 145 0 5 := ⟨lk_MD_compare_15, ⟨⟨by decide, by decide⟩, by decide, by decide⟩, rfl, rfl, rfl⟩
theorem ls_MD_compare_19 : es_lV X_MD_compare X_MD_shownCount 148 0 5 := ⟨lk_MD_compare_19, ⟨⟨by decide, by decide⟩, by decide, by decide⟩, rfl, rfl, rfl⟩
theorem ls_MD_shown_1 : es_lV X_MD_shown X_MD_areRight 141 0 5 := ⟨lk_MD_shown_1, ⟨⟨by decide, by decide⟩, by decide, by decide⟩, rfl, rfl, rfl⟩
theorem ls_MD_shown_12 : es_lV X_MD_shown X_MD_goOver 145 0 5 := ⟨lk_MD_shown_12, ⟨⟨by decide, by decide⟩, by decide, by decide⟩, rfl, rfl, rfl⟩
theorem ls_MD_shown_16 : es_lV X_MD_shown X_MD_shownCount 148 0 5 := ⟨lk_MD_shown_16, ⟨⟨by decide, by decide⟩, by decide, by decide⟩, rfl, rfl, rfl⟩
theorem ls_MD_shown_40 : es_lV X_MD_shown X_MD_goes 77 2 5 := ⟨lk_MD_shown_40, ⟨⟨by decide, by decide⟩, by decide, by decide⟩, rfl, rfl, rfl⟩
theorem ls_MD_last_4 : es_lS X_MD_last X_MD_in 69 3 := ⟨lk_MD_last_4, ⟨⟨by decide, by decide⟩, by decide, by decide⟩, rfl, rfl, rfl⟩
theorem ls_MD_last_8 : es_lV X_MD_last X_MD_areRight 141 0 5 := ⟨lk_MD_last_8, ⟨⟨by decide, by decide⟩, by decide, by decide⟩, rfl, rfl, rfl⟩
theorem ls_MD_last_11 : es_lV X_MD_last X_MD_goes 77 2 5 := ⟨lk_MD_last_11, ⟨⟨by decide, by decide⟩, by decide, by decide⟩, rfl, rfl, rfl⟩
theorem ls_MD_last_20 : es_lV X_MD_last X_MD_goOver 145 0 5 := ⟨lk_MD_last_20, ⟨⟨by decide, by decide⟩, by decide, by decide⟩, rfl, rfl, rfl⟩
theorem ls_MD_pairs_2 : es_lV X_MD_pairs X_MD_areRight 141 0 5 := ⟨lk_MD_pairs_2, ⟨⟨by decide, by decide⟩, by decide, by decide⟩, rfl, rfl, rfl⟩
theorem ls_MD_pairs_6 : es_lV X_MD_pairs X_MD_goes 77 2 5 := ⟨lk_MD_pairs_6, ⟨⟨by decide, by decide⟩, by decide, by decide⟩, rfl, rfl, rfl⟩
theorem ls_MD_pairs_15 : es_lV X_MD_pairs X_MD_goOver 145 0 5 := ⟨lk_MD_pairs_15, ⟨⟨by decide, by decide⟩, by decide, by decide⟩, rfl, rfl, rfl⟩
theorem ls_MD_areSame_187 : es_lS X_MD_areSame X_MD_needs 96 1 := ⟨lk_MD_areSame_187, ⟨⟨by decide, by decide⟩, by decide, by decide⟩, rfl, rfl, rfl⟩
theorem ls_MD_areSame_200 : es_lV X_MD_areSame X_MD_input 85 3 5 := ⟨lk_MD_areSame_200, ⟨⟨by decide, by decide⟩, by decide, by decide⟩, rfl, rfl, rfl⟩
theorem ls_MD_areSame_210 : es_lV X_MD_areSame X_MD_input 85 3 5 := ⟨lk_MD_areSame_210, ⟨⟨by decide, by decide⟩, by decide, by decide⟩, rfl, rfl, rfl⟩
theorem ls_MD_areSame_260 : es_lV X_MD_areSame X_MD_areSingle 152 0 5 := ⟨lk_MD_areSame_260, ⟨⟨by decide, by decide⟩, by decide, by decide⟩, rfl, rfl, rfl⟩
theorem ls_MD_same_2 : es_lV X_MD_same X_MD_areRight 141 0 5 := ⟨lk_MD_same_2, ⟨⟨by decide, by decide⟩, by decide, by decide⟩, rfl, rfl, rfl⟩
theorem ls_MD_same_6 : es_lV X_MD_same X_MD_goes 77 2 5 := ⟨lk_MD_same_6, ⟨⟨by decide, by decide⟩, by decide, by decide⟩, rfl, rfl, rfl⟩
theorem ls_MD_same_13 : es_lV X_MD_same X_MD_areSame 155 0 5 := ⟨lk_MD_same_13, ⟨⟨by decide, by decide⟩, by decide, by decide⟩, rfl, rfl, rfl⟩
theorem ls_MD_matched_4 : es_lV X_MD_matched X_MD_isBlock 81 2 5 := ⟨lk_MD_matched_4, ⟨⟨by decide, by decide⟩, by decide, by decide⟩, rfl, rfl, rfl⟩
theorem ls_MD_matched_8 : es_lV X_MD_matched X_MD_areRight 141 0 5 := ⟨lk_MD_matched_8, ⟨⟨by decide, by decide⟩, by decide, by decide⟩, rfl, rfl, rfl⟩
theorem ls_MD_matched_11 : es_lV X_MD_matched X_MD_goes 77 2 5 := ⟨lk_MD_matched_11, ⟨⟨by decide, by decide⟩, by decide, by decide⟩, rfl, rfl, rfl⟩
theorem ls_MD_matched_20 : es_lV X_MD_matched X_MD_areSame 155 0 5 := ⟨lk_MD_matched_20, ⟨⟨by decide, by decide⟩, by decide, by decide⟩, rfl, rfl, rfl⟩
theorem ls_MD_idle_4 : es_lS X_MD_idle X_MD_in 69 3 := ⟨lk_MD_idle_4, ⟨⟨by decide, by decide⟩, by decide, by decide⟩, rfl, rfl, rfl⟩
theorem ls_MD_idle_20 : es_lV X_MD_idle X_MD_goes 77 2 5 := ⟨lk_MD_idle_20, ⟨⟨by decide, by decide⟩, by decide, by decide⟩, rfl, rfl, rfl⟩
theorem ls_MD_idle_131 : es_lS X_MD_idle X_MD_needs 96 1 := ⟨lk_MD_idle_131, ⟨⟨by decide, by decide⟩, by decide, by decide⟩, rfl, rfl, rfl⟩
theorem ls_MD_idle_153 : es_lV X_MD_idle X_MD_input 85 3 5 := ⟨lk_MD_idle_153, ⟨⟨by decide, by decide⟩, by decide, by decide⟩, rfl, rfl, rfl⟩
theorem ls_MD_blocks_4 : es_lS X_MD_blocks X_MD_in 69 3 := ⟨lk_MD_blocks_4, ⟨⟨by decide, by decide⟩, by decide, by decide⟩, rfl, rfl, rfl⟩
theorem ls_MD_blocks_8 : es_lV X_MD_blocks X_MD_goes 77 2 5 := ⟨lk_MD_blocks_8, ⟨⟨by decide, by decide⟩, by decide, by decide⟩, rfl, rfl, rfl⟩
theorem ls_BH_learn_14 : es_lV X_BH_learn X_ED_countDelays 54 0 1 := ⟨lk_BH_learn_14, ⟨⟨by decide, by decide⟩, by decide, by decide⟩, rfl, rfl, rfl⟩
theorem ls_BH_learn_22 : es_lV X_BH_learn X_BH_orderBlocks 60 0 2 := ⟨lk_BH_learn_22, ⟨⟨by decide, by decide⟩, by decide, by decide⟩, rfl, rfl, rfl⟩
theorem ls_BH_learn_40 : es_lV X_BH_learn X_BH_fillColumns 63 1 2 := ⟨lk_BH_learn_40, ⟨⟨by decide, by decide⟩, by decide, by decide⟩, rfl, rfl, rfl⟩
theorem ls_BH_learn_45 : es_lV X_BH_learn X_BH_fillTicks 67 1 2 := ⟨lk_BH_learn_45, ⟨⟨by decide, by decide⟩, by decide, by decide⟩, rfl, rfl, rfl⟩
theorem ls_BH_learn_56 : es_lV X_BH_learn X_BH_findReached 70 1 2 := ⟨lk_BH_learn_56, ⟨⟨by decide, by decide⟩, by decide, by decide⟩, rfl, rfl, rfl⟩
theorem ls_BH_valueOf_3 : es_lV X_BH_valueOf X_BH_columnAt 73 2 2 := ⟨lk_BH_valueOf_3, ⟨⟨by decide, by decide⟩, by decide, by decide⟩, rfl, rfl, rfl⟩
theorem ls_BH_outsOf_3 : es_lS X_BH_outsOf X_EE_isWithin 77 2 := ⟨lk_BH_outsOf_3, ⟨⟨by decide, by decide⟩, by decide, by decide⟩, rfl, rfl, rfl⟩
theorem ls_BH_outsOf_16 : es_lV X_BH_outsOf X_BH_placeOf 81 2 2 := ⟨lk_BH_outsOf_16, ⟨⟨by decide, by decide⟩, by decide, by decide⟩, rfl, rfl, rfl⟩
theorem ls_BH_stateAfter_3 : es_lS X_BH_stateAfter X_EE_isWithin 77 2 := ⟨lk_BH_stateAfter_3, ⟨⟨by decide, by decide⟩, by decide, by decide⟩, rfl, rfl, rfl⟩
theorem ls_BH_stateAfter_16 : es_lV X_BH_stateAfter X_BH_placeOf 81 2 2 := ⟨lk_BH_stateAfter_16, ⟨⟨by decide, by decide⟩, by decide, by decide⟩, rfl, rfl, rfl⟩
theorem ls_BH_countReached_4 : es_lS X_BH_countReached X_JI_bitCount 84 1 := ⟨lk_BH_countReached_4, ⟨⟨by decide, by decide⟩, by decide, by decide⟩, rfl, rfl, rfl⟩
theorem ls_BH_reachedAt_15 : es_lS X_BH_reachedAt X_EE_holds 90 2 := ⟨lk_BH_reachedAt_15, ⟨⟨by decide, by decide⟩, by decide, by decide⟩, rfl, rfl, rfl⟩
theorem ls_BH_orderBlocks_23 : es_lV X_BH_orderBlocks X_ED_countBlocks 93 0 1 := ⟨lk_BH_orderBlocks_23, ⟨⟨by decide, by decide⟩, by decide, by decide⟩, rfl, rfl, rfl⟩
theorem ls_BH_orderBlocks_36 : es_lV X_BH_orderBlocks X_ED_countBlocks 93 0 1 := ⟨lk_BH_orderBlocks_36, ⟨⟨by decide, by decide⟩, by decide, by decide⟩, rfl, rfl, rfl⟩
theorem ls_BH_orderBlocks_47 : es_lV X_BH_orderBlocks X_ED_neededInTick 96 1 1 := ⟨lk_BH_orderBlocks_47, ⟨⟨by decide, by decide⟩, by decide, by decide⟩, rfl, rfl, rfl⟩
theorem ls_BH_orderBlocks_71 : es_lS X_BH_orderBlocks X_EE_holds 90 2 := ⟨lk_BH_orderBlocks_71, ⟨⟨by decide, by decide⟩, by decide, by decide⟩, rfl, rfl, rfl⟩
theorem ls_BH_orderBlocks_108 : es_lS X_BH_orderBlocks X_EE_bitOf 99 1 := ⟨lk_BH_orderBlocks_108, ⟨⟨by decide, by decide⟩, by decide, by decide⟩, rfl, rfl, rfl⟩
theorem ls_BH_fillColumns_30 : es_lV X_BH_fillColumns X_BH_workOutColumn 102 2 2 := ⟨lk_BH_fillColumns_30, ⟨⟨by decide, by decide⟩, by decide, by decide⟩, rfl, rfl, rfl⟩
theorem ls_BH_workOutColumn_5 : es_lV X_BH_workOutColumn X_ED_numberOf 105 1 1 := ⟨lk_BH_workOutColumn_5, ⟨⟨by decide, by decide⟩, by decide, by decide⟩, rfl, rfl, rfl⟩
theorem ls_BH_workOutColumn_16 : es_lV X_BH_workOutColumn X_ED_neededAt 108 2 1 := ⟨lk_BH_workOutColumn_16, ⟨⟨by decide, by decide⟩, by decide, by decide⟩, rfl, rfl, rfl⟩
theorem ls_BH_workOutColumn_20 : es_lV X_BH_workOutColumn X_BH_columnAt 73 2 2 := ⟨lk_BH_workOutColumn_20, ⟨⟨by decide, by decide⟩, by decide, by decide⟩, rfl, rfl, rfl⟩
theorem ls_BH_workOutColumn_32 : es_lV X_BH_workOutColumn X_ED_neededAt 108 2 1 := ⟨lk_BH_workOutColumn_32, ⟨⟨by decide, by decide⟩, by decide, by decide⟩, rfl, rfl, rfl⟩
theorem ls_BH_workOutColumn_36 : es_lV X_BH_workOutColumn X_BH_columnAt 73 2 2 := ⟨lk_BH_workOutColumn_36, ⟨⟨by decide, by decide⟩, by decide, by decide⟩, rfl, rfl, rfl⟩
theorem ls_BH_workOutColumn_46 : es_lV X_BH_workOutColumn X_ED_kindOf 111 1 1 := ⟨lk_BH_workOutColumn_46, ⟨⟨by decide, by decide⟩, by decide, by decide⟩, rfl, rfl, rfl⟩
theorem ls_BH_workOutColumn_90 : es_lS X_BH_workOutColumn X_EE_holds 90 2 := ⟨lk_BH_workOutColumn_90, ⟨⟨by decide, by decide⟩, by decide, by decide⟩, rfl, rfl, rfl⟩
theorem ls_BH_workOutColumn_138 : es_lS X_BH_workOutColumn X_EE_isWithin 77 2 := ⟨lk_BH_workOutColumn_138, ⟨⟨by decide, by decide⟩, by decide, by decide⟩, rfl, rfl, rfl⟩
theorem ls_BH_columnAt_3 : es_lS X_BH_columnAt X_EE_isWithin 77 2 := ⟨lk_BH_columnAt_3, ⟨⟨by decide, by decide⟩, by decide, by decide⟩, rfl, rfl, rfl⟩
theorem ls_BH_columnAt_12 : es_lS X_BH_columnAt X_EE_isWithin 77 2 := ⟨lk_BH_columnAt_12, ⟨⟨by decide, by decide⟩, by decide, by decide⟩, rfl, rfl, rfl⟩
theorem ls_BH_fillTicks_35 : es_lV X_BH_fillTicks X_ED_outputAt 117 1 1 := ⟨lk_BH_fillTicks_35, ⟨⟨by decide, by decide⟩, by decide, by decide⟩, rfl, rfl, rfl⟩
theorem ls_BH_fillTicks_40 : es_lV X_BH_fillTicks X_BH_valueOf 120 3 2 := ⟨lk_BH_fillTicks_40, ⟨⟨by decide, by decide⟩, by decide, by decide⟩, rfl, rfl, rfl⟩
theorem ls_BH_fillTicks_66 : es_lV X_BH_fillTicks X_ED_countDelays 54 0 1 := ⟨lk_BH_fillTicks_66, ⟨⟨by decide, by decide⟩, by decide, by decide⟩, rfl, rfl, rfl⟩
theorem ls_BH_fillTicks_82 : es_lV X_BH_fillTicks X_ED_delayAt 124 1 1 := ⟨lk_BH_fillTicks_82, ⟨⟨by decide, by decide⟩, by decide, by decide⟩, rfl, rfl, rfl⟩
theorem ls_BH_fillTicks_86 : es_lV X_BH_fillTicks X_ED_neededAt 108 2 1 := ⟨lk_BH_fillTicks_86, ⟨⟨by decide, by decide⟩, by decide, by decide⟩, rfl, rfl, rfl⟩
theorem ls_BH_fillTicks_98 : es_lV X_BH_fillTicks X_BH_valueOf 120 3 2 := ⟨lk_BH_fillTicks_98, ⟨⟨by decide, by decide⟩, by decide, by decide⟩, rfl, rfl, rfl⟩
theorem ls_BH_findReached_11 : es_lS X_BH_findReached X_EE_bitOf 99 1 := ⟨lk_BH_findReached_11, ⟨⟨by decide, by decide⟩, by decide, by decide⟩, rfl, rfl, rfl⟩
theorem ls_BH_findReached_43 : es_lS X_BH_findReached X_EE_holds 90 2 := ⟨lk_BH_findReached_43, ⟨⟨by decide, by decide⟩, by decide, by decide⟩, rfl, rfl, rfl⟩
theorem ls_BH_findReached_58 : es_lV X_BH_findReached X_BH_stateAfter 127 2 2 := ⟨lk_BH_findReached_58, ⟨⟨by decide, by decide⟩, by decide, by decide⟩, rfl, rfl, rfl⟩
theorem ls_BH_findReached_73 : es_lS X_BH_findReached X_EE_holds 90 2 := ⟨lk_BH_findReached_73, ⟨⟨by decide, by decide⟩, by decide, by decide⟩, rfl, rfl, rfl⟩
theorem ls_BH_findReached_92 : es_lS X_BH_findReached X_EE_bitOf 99 1 := ⟨lk_BH_findReached_92, ⟨⟨by decide, by decide⟩, by decide, by decide⟩, rfl, rfl, rfl⟩
theorem ls_BH_countClasses_5 : es_lS X_BH_countClasses X_JA_fill 130 2 := ⟨lk_BH_countClasses_5, ⟨⟨by decide, by decide⟩, by decide, by decide⟩, rfl, rfl, rfl⟩
theorem ls_BH_countClasses_20 : es_lS X_BH_countClasses X_EE_holds 90 2 := ⟨lk_BH_countClasses_20, ⟨⟨by decide, by decide⟩, by decide, by decide⟩, rfl, rfl, rfl⟩
theorem ls_BH_countClasses_28 : es_lV X_BH_countClasses X_BH_partByOuts 136 1 2 := ⟨lk_BH_countClasses_28, ⟨⟨by decide, by decide⟩, by decide, by decide⟩, rfl, rfl, rfl⟩
theorem ls_BH_countClasses_70 : es_lS X_BH_countClasses X_EE_holds 90 2 := ⟨lk_BH_countClasses_70, ⟨⟨by decide, by decide⟩, by decide, by decide⟩, rfl, rfl, rfl⟩
theorem ls_BH_countClasses_79 : es_lV X_BH_countClasses X_BH_partByNextClass 139 1 2 := ⟨lk_BH_countClasses_79, ⟨⟨by decide, by decide⟩, by decide, by decide⟩, rfl, rfl, rfl⟩
theorem ls_BH_partByOuts_16 : es_lV X_BH_partByOuts X_BH_outsOf 142 2 2 := ⟨lk_BH_partByOuts_16, ⟨⟨by decide, by decide⟩, by decide, by decide⟩, rfl, rfl, rfl⟩
theorem ls_BH_partByOuts_27 : es_lV X_BH_partByOuts X_BH_partByKeys 145 0 2 := ⟨lk_BH_partByOuts_27, ⟨⟨by decide, by decide⟩, by decide, by decide⟩, rfl, rfl, rfl⟩
theorem ls_BH_partByNextClass_11 : es_lV X_BH_partByNextClass X_BH_stateAfter 127 2 2 := ⟨lk_BH_partByNextClass_11, ⟨⟨by decide, by decide⟩, by decide, by decide⟩, rfl, rfl, rfl⟩
theorem ls_BH_partByNextClass_23 : es_lS X_BH_partByNextClass X_EE_isWithin 77 2 := ⟨lk_BH_partByNextClass_23, ⟨⟨by decide, by decide⟩, by decide, by decide⟩, rfl, rfl, rfl⟩
theorem ls_BH_partByNextClass_47 : es_lV X_BH_partByNextClass X_BH_partByKeys 145 0 2 := ⟨lk_BH_partByNextClass_47, ⟨⟨by decide, by decide⟩, by decide, by decide⟩, rfl, rfl, rfl⟩
theorem ls_BH_partByKeys_15 : es_lS X_BH_partByKeys X_EE_holds 90 2 := ⟨lk_BH_partByKeys_15, ⟨⟨by decide, by decide⟩, by decide, by decide⟩, rfl, rfl, rfl⟩
theorem ls_BH_partByKeys_23 : es_lV X_BH_partByKeys X_BH_firstLike 148 1 2 := ⟨lk_BH_partByKeys_23, ⟨⟨by decide, by decide⟩, by decide, by decide⟩, rfl, rfl, rfl⟩
theorem ls_BH_firstLike_52 : es_lS X_BH_firstLike X_EE_holds 90 2 := ⟨lk_BH_firstLike_52, ⟨⟨by decide, by decide⟩, by decide, by decide⟩, rfl, rfl, rfl⟩
theorem ls_ED_addBlock_2 : es_lV X_ED_addBlock X_ED_hasRoomFor 49 1 1 := ⟨lk_ED_addBlock_2, ⟨⟨by decide, by decide⟩, by decide, by decide⟩, rfl, rfl, rfl⟩
theorem ls_ED_addBlock_35 : es_lS X_ED_addBlock X_ED_countNeeded 53 1 := ⟨lk_ED_addBlock_35, ⟨⟨by decide, by decide⟩, by decide, by decide⟩, rfl, rfl, rfl⟩
theorem ls_ED_rewire_2 : es_lV X_ED_rewire X_ED_hasBlock 57 1 1 := ⟨lk_ED_rewire_2, ⟨⟨by decide, by decide⟩, by decide, by decide⟩, rfl, rfl, rfl⟩
theorem ls_ED_rewire_10 : es_lS X_ED_rewire X_EE_isWithin 60 2 := ⟨lk_ED_rewire_10, ⟨⟨by decide, by decide⟩, by decide, by decide⟩, rfl, rfl, rfl⟩
theorem ls_ED_rewire_49 : es_lV X_ED_rewire X_ED_neededAt 64 2 1 := ⟨lk_ED_rewire_49, ⟨⟨by decide, by decide⟩, by decide, by decide⟩, rfl, rfl, rfl⟩
theorem ls_ED_rewire_52 : es_lS X_ED_rewire X_EE_bitOf 68 1 := ⟨lk_ED_rewire_52, ⟨⟨by decide, by decide⟩, by decide, by decide⟩, rfl, rfl, rfl⟩
theorem ls_ED_rewire_58 : es_lV X_ED_rewire X_ED_neededAt 64 2 1 := ⟨lk_ED_rewire_58, ⟨⟨by decide, by decide⟩, by decide, by decide⟩, rfl, rfl, rfl⟩
theorem ls_ED_rewire_61 : es_lS X_ED_rewire X_EE_bitOf 68 1 := ⟨lk_ED_rewire_61, ⟨⟨by decide, by decide⟩, by decide, by decide⟩, rfl, rfl, rfl⟩
theorem ls_ED_changeOutput_2 : es_lV X_ED_changeOutput X_ED_outputAt 71 1 1 := ⟨lk_ED_changeOutput_2, ⟨⟨by decide, by decide⟩, by decide, by decide⟩, rfl, rfl, rfl⟩
theorem ls_ED_changeOutput_8 : es_lS X_ED_changeOutput X_EE_isWithin 60 2 := ⟨lk_ED_changeOutput_8, ⟨⟨by decide, by decide⟩, by decide, by decide⟩, rfl, rfl, rfl⟩
theorem ls_ED_hasBlockOrNone_7 : es_lV X_ED_hasBlockOrNone X_ED_hasBlock 57 1 1 := ⟨lk_ED_hasBlockOrNone_7, ⟨⟨by decide, by decide⟩, by decide, by decide⟩, rfl, rfl, rfl⟩
theorem ls_ED_kindOf_2 : es_lV X_ED_kindOf X_ED_hasBlock 57 1 1 := ⟨lk_ED_kindOf_2, ⟨⟨by decide, by decide⟩, by decide, by decide⟩, rfl, rfl, rfl⟩
theorem ls_ED_numberOf_2 : es_lV X_ED_numberOf X_ED_hasBlock 57 1 1 := ⟨lk_ED_numberOf_2, ⟨⟨by decide, by decide⟩, by decide, by decide⟩, rfl, rfl, rfl⟩
theorem ls_ED_outputAt_2 : es_lS X_ED_outputAt X_EE_isWithin 60 2 := ⟨lk_ED_outputAt_2, ⟨⟨by decide, by decide⟩, by decide, by decide⟩, rfl, rfl, rfl⟩
theorem ls_ED_delayAt_5 : es_lS X_ED_delayAt X_EE_isWithin 60 2 := ⟨lk_ED_delayAt_5, ⟨⟨by decide, by decide⟩, by decide, by decide⟩, rfl, rfl, rfl⟩
theorem ls_ED_neededAt_2 : es_lV X_ED_neededAt X_ED_hasBlock 57 1 1 := ⟨lk_ED_neededAt_2, ⟨⟨by decide, by decide⟩, by decide, by decide⟩, rfl, rfl, rfl⟩
theorem ls_ED_neededInTick_2 : es_lV X_ED_neededInTick X_ED_hasBlock 57 1 1 := ⟨lk_ED_neededInTick_2, ⟨⟨by decide, by decide⟩, by decide, by decide⟩, rfl, rfl, rfl⟩
theorem ls_ED_firstFault_1 : es_lV X_ED_firstFault X_ED_firstUnwired 74 0 1 := ⟨lk_ED_firstFault_1, ⟨⟨by decide, by decide⟩, by decide, by decide⟩, rfl, rfl, rfl⟩
theorem ls_ED_firstFault_15 : es_lV X_ED_firstFault X_ED_firstComingBack 78 0 1 := ⟨lk_ED_firstFault_15, ⟨⟨by decide, by decide⟩, by decide, by decide⟩, rfl, rfl, rfl⟩
theorem ls_ED_firstComingBack_17 : es_lV X_ED_firstComingBack X_ED_neededInTick 81 1 1 := ⟨lk_ED_firstComingBack_17, ⟨⟨by decide, by decide⟩, by decide, by decide⟩, rfl, rfl, rfl⟩
theorem ls_ED_firstComingBack_54 : es_lS X_ED_firstComingBack X_EE_holds 84 2 := ⟨lk_ED_firstComingBack_54, ⟨⟨by decide, by decide⟩, by decide, by decide⟩, rfl, rfl, rfl⟩
theorem ls_ED_firstComingBack_104 : es_lS X_ED_firstComingBack X_EE_holds 84 2 := ⟨lk_ED_firstComingBack_104, ⟨⟨by decide, by decide⟩, by decide, by decide⟩, rfl, rfl, rfl⟩
theorem ls_ED_idleAt_1 : es_lV X_ED_idleAt X_ED_liveBlocks 87 0 1 := ⟨lk_ED_idleAt_1, ⟨⟨by decide, by decide⟩, by decide, by decide⟩, rfl, rfl, rfl⟩
theorem ls_ED_idleAt_22 : es_lS X_ED_idleAt X_EE_holds 84 2 := ⟨lk_ED_idleAt_22, ⟨⟨by decide, by decide⟩, by decide, by decide⟩, rfl, rfl, rfl⟩
theorem ls_ED_liveBlocks_16 : es_lS X_ED_liveBlocks X_EE_bitOf 68 1 := ⟨lk_ED_liveBlocks_16, ⟨⟨by decide, by decide⟩, by decide, by decide⟩, rfl, rfl, rfl⟩
theorem ls_ED_liveBlocks_60 : es_lS X_ED_liveBlocks X_EE_holds 84 2 := ⟨lk_ED_liveBlocks_60, ⟨⟨by decide, by decide⟩, by decide, by decide⟩, rfl, rfl, rfl⟩
theorem ls_MT_matchAll_5 : es_lS X_MT_matchAll X_JA_fill 32 2 := ⟨lk_MT_matchAll_5, ⟨⟨by decide, by decide⟩, by decide, by decide⟩, rfl, rfl, rfl⟩
theorem ls_MT_matchAll_13 : es_lS X_MT_matchAll X_JA_fill 32 2 := ⟨lk_MT_matchAll_13, ⟨⟨by decide, by decide⟩, by decide, by decide⟩, rfl, rfl, rfl⟩
theorem ls_MT_matchAll_34 : es_lV X_MT_matchAll X_ED_outputAt 38 1 1 := ⟨lk_MT_matchAll_34, ⟨⟨by decide, by decide⟩, by decide, by decide⟩, rfl, rfl, rfl⟩
theorem ls_MT_matchAll_42 : es_lV X_MT_matchAll X_ED_outputAt 38 1 1 := ⟨lk_MT_matchAll_42, ⟨⟨by decide, by decide⟩, by decide, by decide⟩, rfl, rfl, rfl⟩
theorem ls_MT_matchAll_45 : es_lV X_MT_matchAll X_MT_matchBoth 44 2 4 := ⟨lk_MT_matchAll_45, ⟨⟨by decide, by decide⟩, by decide, by decide⟩, rfl, rfl, rfl⟩
theorem ls_MT_matchAll_84 : es_lV X_MT_matchAll X_MT_partnerOf 48 1 4 := ⟨lk_MT_matchAll_84, ⟨⟨by decide, by decide⟩, by decide, by decide⟩, rfl, rfl, rfl⟩
theorem ls_MT_matchAll_105 : es_lV X_MT_matchAll X_ED_neededAt 51 2 1 := ⟨lk_MT_matchAll_105, ⟨⟨by decide, by decide⟩, by decide, by decide⟩, rfl, rfl, rfl⟩
theorem ls_MT_matchAll_115 : es_lV X_MT_matchAll X_ED_neededAt 51 2 1 := ⟨lk_MT_matchAll_115, ⟨⟨by decide, by decide⟩, by decide, by decide⟩, rfl, rfl, rfl⟩
theorem ls_MT_matchAll_118 : es_lV X_MT_matchAll X_MT_matchBoth 44 2 4 := ⟨lk_MT_matchAll_118, ⟨⟨by decide, by decide⟩, by decide, by decide⟩, rfl, rfl, rfl⟩
theorem ls_MT_partnerOf_3 : es_lS X_MT_partnerOf X_EE_isWithin 55 2 := ⟨lk_MT_partnerOf_3, ⟨⟨by decide, by decide⟩, by decide, by decide⟩, rfl, rfl, rfl⟩
theorem ls_MT_matchBoth_3 : es_lS X_MT_matchBoth X_EE_isWithin 55 2 := ⟨lk_MT_matchBoth_3, ⟨⟨by decide, by decide⟩, by decide, by decide⟩, rfl, rfl, rfl⟩
theorem ls_MT_matchBoth_12 : es_lS X_MT_matchBoth X_EE_isWithin 55 2 := ⟨lk_MT_matchBoth_12, ⟨⟨by decide, by decide⟩, by decide, by decide⟩, rfl, rfl, rfl⟩
theorem ls_MT_matchBoth_74 : es_lV X_MT_matchBoth X_MT_areOfOneSort 58 2 4 := ⟨lk_MT_matchBoth_74, ⟨⟨by decide, by decide⟩, by decide, by decide⟩, rfl, rfl, rfl⟩
theorem ls_MT_areOfOneSort_5 : es_lV X_MT_areOfOneSort X_ED_kindOf 61 1 1 := ⟨lk_MT_areOfOneSort_5, ⟨⟨by decide, by decide⟩, by decide, by decide⟩, rfl, rfl, rfl⟩
theorem ls_MT_areOfOneSort_31 : es_lV X_MT_areOfOneSort X_ED_kindOf 61 1 1 := ⟨lk_MT_areOfOneSort_31, ⟨⟨by decide, by decide⟩, by decide, by decide⟩, rfl, rfl, rfl⟩
theorem ls_MT_areOfOneSort_47 : es_lV X_MT_areOfOneSort X_ED_numberOf 64 1 1 := ⟨lk_MT_areOfOneSort_47, ⟨⟨by decide, by decide⟩, by decide, by decide⟩, rfl, rfl, rfl⟩
theorem ls_MT_areOfOneSort_55 : es_lV X_MT_areOfOneSort X_ED_numberOf 64 1 1 := ⟨lk_MT_areOfOneSort_55, ⟨⟨by decide, by decide⟩, by decide, by decide⟩, rfl, rfl, rfl⟩
theorem ls_PS_learn_13 : es_lS X_PS_learn X_JA_fill 54 2 := ⟨lk_PS_learn_13, ⟨⟨by decide, by decide⟩, by decide, by decide⟩, rfl, rfl, rfl⟩
theorem ls_PS_learn_41 : es_lV X_PS_learn X_PS_meet 60 4 3 := ⟨lk_PS_learn_41, ⟨⟨by decide, by decide⟩, by decide, by decide⟩, rfl, rfl, rfl⟩
theorem ls_PS_learn_64 : es_lV X_PS_learn X_PS_goOnFrom 64 2 3 := ⟨lk_PS_learn_64, ⟨⟨by decide, by decide⟩, by decide, by decide⟩, rfl, rfl, rfl⟩
theorem ls_PS_goOnFrom_34 : es_lS X_PS_goOnFrom X_EE_holds 68 2 := ⟨lk_PS_goOnFrom_34, ⟨⟨by decide, by decide⟩, by decide, by decide⟩, rfl, rfl, rfl⟩
theorem ls_PS_goOnFrom_54 : es_lV X_PS_goOnFrom X_BH_outsOf 72 2 2 := ⟨lk_PS_goOnFrom_54, ⟨⟨by decide, by decide⟩, by decide, by decide⟩, rfl, rfl, rfl⟩
theorem ls_PS_goOnFrom_65 : es_lV X_PS_goOnFrom X_BH_outsOf 72 2 2 := ⟨lk_PS_goOnFrom_65, ⟨⟨by decide, by decide⟩, by decide, by decide⟩, rfl, rfl, rfl⟩
theorem ls_PS_goOnFrom_79 : es_lV X_PS_goOnFrom X_BH_outsOf 72 2 2 := ⟨lk_PS_goOnFrom_79, ⟨⟨by decide, by decide⟩, by decide, by decide⟩, rfl, rfl, rfl⟩
theorem ls_PS_goOnFrom_94 : es_lV X_PS_goOnFrom X_BH_outsOf 72 2 2 := ⟨lk_PS_goOnFrom_94, ⟨⟨by decide, by decide⟩, by decide, by decide⟩, rfl, rfl, rfl⟩
theorem ls_PS_goOnFrom_104 : es_lV X_PS_goOnFrom X_PS_keepShown 78 2 3 := ⟨lk_PS_goOnFrom_104, ⟨⟨by decide, by decide⟩, by decide, by decide⟩, rfl, rfl, rfl⟩
theorem ls_PS_goOnFrom_115 : es_lV X_PS_goOnFrom X_BH_stateAfter 81 2 2 := ⟨lk_PS_goOnFrom_115, ⟨⟨by decide, by decide⟩, by decide, by decide⟩, rfl, rfl, rfl⟩
theorem ls_PS_goOnFrom_126 : es_lV X_PS_goOnFrom X_BH_stateAfter 81 2 2 := ⟨lk_PS_goOnFrom_126, ⟨⟨by decide, by decide⟩, by decide, by decide⟩, rfl, rfl, rfl⟩
theorem ls_PS_goOnFrom_132 : es_lV X_PS_goOnFrom X_PS_meet 60 4 3 := ⟨lk_PS_goOnFrom_132, ⟨⟨by decide, by decide⟩, by decide, by decide⟩, rfl, rfl, rfl⟩
theorem ls_PS_meet_3 : es_lS X_PS_meet X_EE_isWithin 84 2 := ⟨lk_PS_meet_3, ⟨⟨by decide, by decide⟩, by decide, by decide⟩, rfl, rfl, rfl⟩
theorem ls_PS_meet_16 : es_lS X_PS_meet X_EE_holds 68 2 := ⟨lk_PS_meet_16, ⟨⟨by decide, by decide⟩, by decide, by decide⟩, rfl, rfl, rfl⟩
theorem ls_PS_meet_52 : es_lS X_PS_meet X_EE_bitOf 87 1 := ⟨lk_PS_meet_52, ⟨⟨by decide, by decide⟩, by decide, by decide⟩, rfl, rfl, rfl⟩
set_option maxRecDepth 100000 in
theorem ez_va_EE_83 : ∀ w ∈ vx_atS "EditionEqual" 83 "java/lang/IllegalArgumentException" ["java/lang/RuntimeException", "java/lang/Exception"], w ∈ ez_T := by
  have h : (vx_atS "EditionEqual" 83 "java/lang/IllegalArgumentException" ["java/lang/RuntimeException", "java/lang/Exception"]).all (fun w => decide (w ∈ lw_tbl) && ez_gw w) = true := by decide +kernel
  intro w hw
  have h1 := List.all_eq_true.mp h w hw
  rw [Bool.and_eq_true, decide_eq_true_eq] at h1
  exact List.mem_filter.mpr h1
set_option maxRecDepth 100000 in
theorem th_EE_block_25 : ez_thr X_EE_block 25 0 := ⟨79, 81, 83, "no such kind, or no such number of the kind", t_287, t_61, by decide +kernel, ez_va_EE_83, by decide +kernel, by decide +kernel, (d_EE_block_25).1, (d_EE_block_28).1, (d_EE_block_29).1, (d_EE_block_31).1, (d_EE_block_34).1⟩
set_option maxRecDepth 100000 in
theorem ez_va_EE_94 : ∀ w ∈ vx_atS "EditionEqual" 94 "java/lang/IllegalStateException" ["java/lang/RuntimeException", "java/lang/Exception"], w ∈ ez_T := by
  have h : (vx_atS "EditionEqual" 94 "java/lang/IllegalStateException" ["java/lang/RuntimeException", "java/lang/Exception"]).all (fun w => decide (w ∈ lw_tbl) && ez_gw w) = true := by decide +kernel
  intro w hw
  have h1 := List.all_eq_true.mp h w hw
  rw [Bool.and_eq_true, decide_eq_true_eq] at h1
  exact List.mem_filter.mpr h1
set_option maxRecDepth 100000 in
theorem th_EE_block_44 : ez_thr X_EE_block 44 1 := ⟨90, 92, 94, "no more blocks, or no more delays", t_363, t_62, by decide +kernel, ez_va_EE_94, by decide +kernel, by decide +kernel, (d_EE_block_44).1, (d_EE_block_47).1, (d_EE_block_48).1, (d_EE_block_50).1, (d_EE_block_53).1⟩
set_option maxRecDepth 100000 in
theorem th_EE_wire_34 : ez_thr X_EE_wire 34 0 := ⟨79, 107, 83, "no such block or input", t_287, t_61, by decide +kernel, ez_va_EE_83, by decide +kernel, by decide +kernel, (d_EE_wire_34).1, (d_EE_wire_37).1, (d_EE_wire_38).1, (d_EE_wire_40).1, (d_EE_wire_43).1⟩
set_option maxRecDepth 100000 in
theorem th_EE_out_24 : ez_thr X_EE_out 24 0 := ⟨79, 113, 83, "no such output or block", t_287, t_61, by decide +kernel, ez_va_EE_83, by decide +kernel, by decide +kernel, (d_EE_out_24).1, (d_EE_out_27).1, (d_EE_out_28).1, (d_EE_out_30).1, (d_EE_out_33).1⟩
set_option maxRecDepth 100000 in
theorem th_EE_state_4 : ez_thr X_EE_state 4 0 := ⟨79, 146, 83, "a place is not below 0", t_287, t_61, by decide +kernel, ez_va_EE_83, by decide +kernel, by decide +kernel, (d_EE_state_4).1, (d_EE_state_7).1, (d_EE_state_8).1, (d_EE_state_10).1, (d_EE_state_13).1⟩
set_option maxRecDepth 100000 in
theorem th_EE_shown_4 : ez_thr X_EE_shown 4 0 := ⟨79, 165, 83, "rows are counted from 0", t_287, t_61, by decide +kernel, ez_va_EE_83, by decide +kernel, by decide +kernel, (d_EE_shown_4).1, (d_EE_shown_7).1, (d_EE_shown_8).1, (d_EE_shown_10).1, (d_EE_shown_13).1⟩
set_option maxRecDepth 100000 in
theorem th_EE_shown_27 : ez_thr X_EE_shown 27 0 := ⟨79, 167, 83, "so many rows are not shown", t_287, t_61, by decide +kernel, ez_va_EE_83, by decide +kernel, by decide +kernel, (d_EE_shown_27).1, (d_EE_shown_30).1, (d_EE_shown_31).1, (d_EE_shown_33).1, (d_EE_shown_36).1⟩
set_option maxRecDepth 100000 in
theorem th_EE_idle_10 : ez_thr X_EE_idle 10 0 := ⟨79, 191, 83, "idle blocks are counted from 0", t_287, t_61, by decide +kernel, ez_va_EE_83, by decide +kernel, by decide +kernel, (d_EE_idle_10).1, (d_EE_idle_13).1, (d_EE_idle_14).1, (d_EE_idle_16).1, (d_EE_idle_19).1⟩
set_option maxRecDepth 100000 in
theorem th_EE_behaviourOf_12 : ez_thr X_EE_behaviourOf 12 1 := ⟨90, 199, 94, "the edition is not right", t_363, t_62, by decide +kernel, ez_va_EE_94, by decide +kernel, by decide +kernel, (d_EE_behaviourOf_12).1, (d_EE_behaviourOf_15).1, (d_EE_behaviourOf_16).1, (d_EE_behaviourOf_18).1, (d_EE_behaviourOf_21).1⟩
set_option maxRecDepth 100000 in
theorem th_EE_checkRow_11 : ez_thr X_EE_checkRow 11 0 := ⟨79, 211, 83, "no such row", t_287, t_61, by decide +kernel, ez_va_EE_83, by decide +kernel, by decide +kernel, (d_EE_checkRow_11).1, (d_EE_checkRow_14).1, (d_EE_checkRow_15).1, (d_EE_checkRow_17).1, (d_EE_checkRow_20).1⟩
set_option maxRecDepth 100000 in
theorem th_EE_checkBothRight_22 : ez_thr X_EE_checkBothRight 22 1 := ⟨90, 213, 94, "one of the editions is not right", t_363, t_62, by decide +kernel, ez_va_EE_94, by decide +kernel, by decide +kernel, (d_EE_checkBothRight_22).1, (d_EE_checkBothRight_25).1, (d_EE_checkBothRight_26).1, (d_EE_checkBothRight_28).1, (d_EE_checkBothRight_31).1⟩
set_option maxRecDepth 100000 in
theorem th_EE_checkEdition_8 : ez_thr X_EE_checkEdition 8 0 := ⟨79, 215, 83, "no such edition", t_287, t_61, by decide +kernel, ez_va_EE_83, by decide +kernel, by decide +kernel, (d_EE_checkEdition_8).1, (d_EE_checkEdition_11).1, (d_EE_checkEdition_12).1, (d_EE_checkEdition_14).1, (d_EE_checkEdition_17).1⟩
set_option maxRecDepth 100000 in
theorem th_EE_checkBlock_8 : ez_thr X_EE_checkBlock 8 0 := ⟨79, 217, 83, "no such block", t_287, t_61, by decide +kernel, ez_va_EE_83, by decide +kernel, by decide +kernel, (d_EE_checkBlock_8).1, (d_EE_checkBlock_11).1, (d_EE_checkBlock_12).1, (d_EE_checkBlock_14).1, (d_EE_checkBlock_17).1⟩
/-! ===== shapes ===== -/
def sb_ED (b : Nat) : Prop := b = 1 ∨ b = 10
theorem sh_ED {b : Nat} (hb : sb_ED b) : es_SH[b]? = some (.inr (1, [some (b + 1), some (b + 2), some (b + 3), some (b + 4), some (b + 5), some (b + 6), some (b + 7), some (b + 8), none, none])) := by
  rcases hb with rfl | rfl <;> rfl
theorem sa_ED_kinds {b : Nat} (hb : sb_ED b) : es_SH[b + 1]? = some (.inl (.int, 24)) := by
  rcases hb with rfl | rfl <;> rfl
theorem sa_ED_numbers {b : Nat} (hb : sb_ED b) : es_SH[b + 2]? = some (.inl (.int, 24)) := by
  rcases hb with rfl | rfl <;> rfl
theorem sa_ED_neededInputs {b : Nat} (hb : sb_ED b) : es_SH[b + 3]? = some (.inl (.int, 24)) := by
  rcases hb with rfl | rfl <;> rfl
theorem sa_ED_wires {b : Nat} (hb : sb_ED b) : es_SH[b + 4]? = some (.inl (.int, 48)) := by
  rcases hb with rfl | rfl <;> rfl
theorem sa_ED_neededBlocks {b : Nat} (hb : sb_ED b) : es_SH[b + 5]? = some (.inl (.int, 24)) := by
  rcases hb with rfl | rfl <;> rfl
theorem sa_ED_outputs {b : Nat} (hb : sb_ED b) : es_SH[b + 6]? = some (.inl (.int, 3)) := by
  rcases hb with rfl | rfl <;> rfl
theorem sa_ED_delays {b : Nat} (hb : sb_ED b) : es_SH[b + 7]? = some (.inl (.int, 5)) := by
  rcases hb with rfl | rfl <;> rfl
theorem sa_ED_ahead {b : Nat} (hb : sb_ED b) : es_SH[b + 8]? = some (.inl (.int, 24)) := by
  rcases hb with rfl | rfl <;> rfl
def sb_BH (b e : Nat) : Prop := (b = 19 ∧ e = 1) ∨ (b = 28 ∧ e = 10)
theorem sb_BH.ed {b e : Nat} (hb : sb_BH b e) : sb_ED e := by
  rcases hb with ⟨rfl, rfl⟩ | ⟨rfl, rfl⟩
  · exact Or.inl rfl
  · exact Or.inr rfl
theorem sh_BH {b e : Nat} (hb : sb_BH b e) : es_SH[b]? = some (.inr (2, [some e, some (b + 1), some (b + 2), some (b + 3), some (b + 4), some (b + 5), some (b + 6), some (b + 7), some (b + 8), none, none, none, none])) := by
  rcases hb with ⟨rfl, rfl⟩ | ⟨rfl, rfl⟩ <;> rfl
theorem sa_BH_order {b e : Nat} (hb : sb_BH b e) : es_SH[b + 1]? = some (.inl (.int, 24)) := by
  rcases hb with ⟨rfl, rfl⟩ | ⟨rfl, rfl⟩ <;> rfl
theorem sa_BH_columns {b e : Nat} (hb : sb_BH b e) : es_SH[b + 2]? = some (.inl (.int, 384)) := by
  rcases hb with ⟨rfl, rfl⟩ | ⟨rfl, rfl⟩ <;> rfl
theorem sa_BH_outs {b e : Nat} (hb : sb_BH b e) : es_SH[b + 3]? = some (.inl (.int, 512)) := by
  rcases hb with ⟨rfl, rfl⟩ | ⟨rfl, rfl⟩ <;> rfl
theorem sa_BH_nextStates {b e : Nat} (hb : sb_BH b e) : es_SH[b + 4]? = some (.inl (.int, 512)) := by
  rcases hb with ⟨rfl, rfl⟩ | ⟨rfl, rfl⟩ <;> rfl
theorem sa_BH_queue {b e : Nat} (hb : sb_BH b e) : es_SH[b + 5]? = some (.inl (.int, 32)) := by
  rcases hb with ⟨rfl, rfl⟩ | ⟨rfl, rfl⟩ <;> rfl
theorem sa_BH_classes {b e : Nat} (hb : sb_BH b e) : es_SH[b + 6]? = some (.inl (.int, 32)) := by
  rcases hb with ⟨rfl, rfl⟩ | ⟨rfl, rfl⟩ <;> rfl
theorem sa_BH_keys {b e : Nat} (hb : sb_BH b e) : es_SH[b + 7]? = some (.inl (.int, 32)) := by
  rcases hb with ⟨rfl, rfl⟩ | ⟨rfl, rfl⟩ <;> rfl
theorem sa_BH_newClasses {b e : Nat} (hb : sb_BH b e) : es_SH[b + 8]? = some (.inl (.int, 32)) := by
  rcases hb with ⟨rfl, rfl⟩ | ⟨rfl, rfl⟩ <;> rfl
end
section
/-! ===== numbers ===== -/
def eb (p : Bool) : Int32 := if p then 1 else 0
theorem eb_0 {p : Bool} : eb p = 0 ↔ p = false := by cases p <;> decide
theorem eb_t : eb true = 1 := rfl
theorem eb_f : eb false = 0 := rfl
theorem eb_nar (p : Bool) : narrow .boolean (.int (eb p)) = .int (eb p) := by cases p <;> rfl
theorem ez_pos {a : Int32} (h : 0 ≤ a) : nI a.toNatClampNeg = a := by
  unfold nI
  apply Int32.toInt_inj.mp
  have h1 : 0 ≤ a.toInt := by simpa using Int32.le_iff_toInt_le.mp h
  have h2 := Int32.toInt_lt a
  rw [Int32.toInt_ofNat_of_lt (by rw [Int32.toNatClampNeg]; omega)]
  rw [Int32.toNatClampNeg]
  omega
theorem ez_lt {a : Int32} {n : Nat} (h : 0 ≤ a) (h2 : a < nI n) (hn : n < 2 ^ 31) : a.toNatClampNeg < n := by
  have h1 : 0 ≤ a.toInt := by simpa using Int32.le_iff_toInt_le.mp h
  have h3 := Int32.lt_iff_toInt_lt.mp h2
  rw [nI_toInt hn] at h3
  rw [Int32.toNatClampNeg]
  omega
theorem ez_vin {a : Int32} {n : Nat} (h : 0 ≤ a) (h2 : a < nI n) (hn : n < 2 ^ 31) : vp_in a n := by
  intro hc
  have := ez_lt h h2 hn
  rcases hc with hc | hc
  · exact absurd h (by rw [Int32.not_le]; exact hc)
  · omega
theorem ez_vinN {b n : Nat} (h : b < n) (hn : n < 2 ^ 31) : vp_in (nI b) n := nI_in h hn
theorem ez_inc (b : Nat) : nI b + Int32.ofInt 1 = nI (b + 1) := (nI_succ b).symm
theorem nI_mul (a b : Nat) : nI a * nI b = nI (a * b) := by
  unfold nI
  exact (Int32.ofNat_mul a b).symm
end
section
/-! ===== THE MATHEMATICS of two editions ===== -/
/-- an edition: how many blocks; their kinds, numbers, wires; its outputs -/
abbrev em_E : Type := Nat × (Nat → Nat) × (Nat → Int32) × (Nat → Nat → Option Nat) × (Nat → Option Nat)
def em_n (E : em_E) : Nat := E.1
def em_k (E : em_E) (b : Nat) : Nat := E.2.1 b
def em_m (E : em_E) (b : Nat) : Int32 := E.2.2.1 b
def em_w (E : em_E) (b i : Nat) : Option Nat := E.2.2.2.1 b i
def em_o (E : em_E) (j : Nat) : Option Nat := E.2.2.2.2 j
/-- how many inputs a kind needs -/
def em_nd (k : Nat) : Nat := if k < 2 then 0 else if 3 ≤ k ∧ k ≤ 5 then 2 else 1
/-- a block of edition b is at a needed input of a block -/
def em_at (E : em_E) (b t : Nat) : Prop := b < em_n E ∧ ∃ i, i < em_nd (em_k E b) ∧ em_w E b i = some t
/-- the same tick -/
def em_ed (E : em_E) (b t : Nat) : Prop := em_at E b t ∧ em_k E b ≠ 6
def em_unw (E : em_E) (b : Nat) : Prop := ∃ i, i < em_nd (em_k E b) ∧ em_w E b i = none
def em_cyc (E : em_E) (b : Nat) : Prop := Relation.TransGen (em_ed E) b b
def em_right (E : em_E) : Prop := (∀ b, b < em_n E → ¬ em_unw E b) ∧ ∀ b, b < em_n E → ¬ em_cyc E b
/-- delays before a block -/
def em_dl (E : em_E) : Nat → Nat
  | 0 => 0
  | b + 1 => em_dl E b + if em_k E b = 6 then 1 else 0
def em_wf (P : Nat) (E : em_E) : Prop :=
  em_n E ≤ 24 ∧ (∀ b, b < em_n E → em_k E b ≤ 6) ∧ (∀ b i t, em_w E b i = some t → b < em_n E ∧ t < em_n E) ∧ (∀ j t, em_o E j = some t → t < em_n E) ∧
  (∀ b, b < em_n E → em_k E b = 0 → ∃ q : Nat, em_m E b = nI q ∧ q < P) ∧ (∀ b, b < em_n E → em_k E b = 1 → em_m E b = 0 ∨ em_m E b = 1) ∧ em_dl E (em_n E) ≤ 5
/-! paths, by the greatest block on the way -/
def em_P (r : Nat → Nat → Prop) : Nat → Nat → Nat → Prop
  | 0, b, t => r b t
  | m + 1, b, t => em_P r m b t ∨ (em_P r m b m ∧ em_P r m m t)
theorem em_P_trans (r : Nat → Nat → Prop) : ∀ (m b c t : Nat), c < m → em_P r m b c → em_P r m c t → em_P r m b t := by
  intro m
  induction m with
  | zero => intro b c t h; omega
  | succ m ih =>
    intro b c t hc h1 h2
    simp only [em_P] at h1 h2 ⊢
    by_cases hcm : c = m
    · subst hcm
      have g1 : em_P r c b c := h1.elim id (fun h => h.1)
      have g2 : em_P r c c t := h2.elim id (fun h => h.2)
      exact Or.inr ⟨g1, g2⟩
    · have hlt : c < m := by omega
      rcases h1 with h1 | ⟨h1, h1'⟩
      · rcases h2 with h2 | ⟨h2, h2'⟩
        · exact Or.inl (ih b c t hlt h1 h2)
        · exact Or.inr ⟨ih b c m hlt h1 h2, h2'⟩
      · rcases h2 with h2 | ⟨h2, h2'⟩
        · exact Or.inr ⟨h1, ih m c t hlt h1' h2⟩
        · exact Or.inr ⟨h1, h2'⟩
theorem em_P_sound (r : Nat → Nat → Prop) : ∀ (m b t : Nat), em_P r m b t → Relation.TransGen r b t := by
  intro m
  induction m with
  | zero => intro b t h; exact .single h
  | succ m ih =>
    intro b t h
    rcases h with h | ⟨h1, h2⟩
    · exact ih b t h
    · exact (ih b m h1).trans (ih m t h2)
theorem em_P_base (r : Nat → Nat → Prop) : ∀ (m b t : Nat), r b t → em_P r m b t := by
  intro m
  induction m with
  | zero => intro b t h; exact h
  | succ m ih => intro b t h; exact Or.inl (ih b t h)
theorem em_P_all {r : Nat → Nat → Prop} {n : Nat} (hr : ∀ b t, r b t → t < n) {b t : Nat} (h : Relation.TransGen r b t) : em_P r n b t := by
  have key : em_P r n b t ∧ t < n := by
    induction h with
    | single h => exact ⟨em_P_base r n _ _ h, hr _ _ h⟩
    | tail _ h ih => exact ⟨em_P_trans r n _ _ _ ih.2 ih.1 (em_P_base r n _ _ h), hr _ _ h⟩
  exact key.1
/-! counting -/
noncomputable def em_ct (p : Nat → Prop) : Nat → Nat
  | 0 => 0
  | n + 1 => em_ct p n + @ite _ (p n) (Classical.propDecidable _) 1 0
theorem em_ct_le {p q : Nat → Prop} : ∀ (n : Nat), (∀ x, x < n → p x → q x) → em_ct p n ≤ em_ct q n := by
  intro n
  induction n with
  | zero => intro _; exact Nat.le_refl _
  | succ n ih =>
    intro h
    have h1 := ih (fun x hx => h x (by omega))
    have h2 := h n (by omega)
    simp only [em_ct]
    by_cases hp : p n
    · simp [hp, h2 hp]; exact h1
    · by_cases hq : q n
      · simp [hp, hq]; omega
      · simp [hp, hq]; exact h1
theorem em_ct_lt {p q : Nat → Prop} : ∀ (n : Nat), (∀ x, x < n → p x → q x) → ∀ y, y < n → q y → ¬ p y → em_ct p n < em_ct q n := by
  intro n
  induction n with
  | zero => intro _ y h; omega
  | succ n ih =>
    intro h y hy hq hp
    simp only [em_ct]
    by_cases hyn : y = n
    · subst hyn
      have h1 := em_ct_le (p := p) (q := q) y (fun x hx => h x (by omega))
      simp [hp, hq]
      omega
    · have h1 := ih (fun x hx => h x (by omega)) y (by omega) hq hp
      have h2 := h n (by omega)
      by_cases hpn : p n
      · simp [hpn, h2 hpn]; exact h1
      · by_cases hqn : q n
        · simp [hpn, hqn]; omega
        · simp [hpn, hqn]; exact h1
theorem em_ct_n (p : Nat → Prop) : ∀ n, em_ct p n ≤ n := by
  intro n
  induction n with
  | zero => exact Nat.le_refl _
  | succ n ih =>
    simp only [em_ct]
    by_cases hp : p n
    · simp [hp]; exact ih
    · simp [hp]; omega
/-! a right edition has ranks -/
noncomputable def em_rk (E : em_E) (b : Nat) : Nat := em_ct (fun t => Relation.TransGen (em_ed E) b t) (em_n E)
theorem em_rk_lt {P : Nat} {E : em_E} (hw : em_wf P E) (hr : em_right E) {b t : Nat} (h : em_ed E b t) : em_rk E t < em_rk E b := by
  have ht : t < em_n E := by
    obtain ⟨⟨-, i, -, hi⟩, -⟩ := h
    exact (hw.2.2.1 b i t hi).2
  exact em_ct_lt (em_n E) (fun x _ hx => (Relation.TransGen.single h).trans hx) t ht (.single h) (hr.2 t ht)
/-! values -/
def em_vo (v : Nat → Bool) (o : Option Nat) : Bool := match o with
  | some t => v t
  | none => false
/-- what a block's value must be, the others' given: s the state's bits, r the row's -/
def em_f (E : em_E) (s r v : Nat → Bool) (b : Nat) : Bool :=
  if em_k E b = 0 then r (em_m E b).toNatClampNeg
  else if em_k E b = 1 then decide (em_m E b = 1)
  else if em_k E b = 2 then !(em_vo v (em_w E b 0))
  else if em_k E b = 3 then em_vo v (em_w E b 0) && em_vo v (em_w E b 1)
  else if em_k E b = 4 then em_vo v (em_w E b 0) || em_vo v (em_w E b 1)
  else if em_k E b = 5 then em_vo v (em_w E b 0) ^^ em_vo v (em_w E b 1)
  else s (em_dl E b)
def em_Sat (E : em_E) (s r v : Nat → Bool) : Prop := ∀ b, b < em_n E → v b = em_f E s r v b
theorem em_f_eq {E : em_E} {P : Nat} (hw : em_wf P E) {s r v v' : Nat → Bool} {b : Nat} (hb : b < em_n E) (h : ∀ t, em_ed E b t → v t = v' t) : em_f E s r v b = em_f E s r v' b := by
  have hk := hw.2.1 b hb
  have vo : ∀ i, i < em_nd (em_k E b) → em_k E b ≠ 6 → em_vo v (em_w E b i) = em_vo v' (em_w E b i) := by
    intro i hi h6
    cases hc : em_w E b i with
    | none => rfl
    | some t => exact h t ⟨⟨hb, i, hi, hc⟩, h6⟩
  unfold em_f
  by_cases h0 : em_k E b = 0
  · simp [h0]
  by_cases h1 : em_k E b = 1
  · simp [h1]
  by_cases h2 : em_k E b = 2
  · simp only [h0, h1, h2, if_false, if_true]
    rw [vo 0 (by rw [h2]; decide) (by omega)]
  by_cases h3 : em_k E b = 3
  · simp only [h0, h1, h2, h3, if_false, if_true]
    rw [vo 0 (by rw [h3]; decide) (by omega), vo 1 (by rw [h3]; decide) (by omega)]
  by_cases h4 : em_k E b = 4
  · simp only [h0, h1, h2, h3, h4, if_false, if_true]
    rw [vo 0 (by rw [h4]; decide) (by omega), vo 1 (by rw [h4]; decide) (by omega)]
  by_cases h5 : em_k E b = 5
  · simp only [h0, h1, h2, h3, h4, h5, if_false, if_true]
    rw [vo 0 (by rw [h5]; decide) (by omega), vo 1 (by rw [h5]; decide) (by omega)]
  simp only [h0, h1, h2, h3, h4, h5, if_false]
/-- a right edition's values are one -/
theorem em_sat_one {P : Nat} {E : em_E} (hw : em_wf P E) (hr : em_right E) {s r v v' : Nat → Bool} (h : em_Sat E s r v) (h' : em_Sat E s r v') : ∀ b, b < em_n E → v b = v' b := by
  have key : ∀ k b, em_rk E b < k → b < em_n E → v b = v' b := by
    intro k
    induction k with
    | zero => intro b h; omega
    | succ k ih =>
      intro b hk hb
      rw [h b hb, h' b hb]
      refine em_f_eq hw hb fun t ht => ih t ?_ ?_
      · have := em_rk_lt hw hr ht
        omega
      · obtain ⟨⟨-, i, -, hi⟩, -⟩ := ht
        exact (hw.2.2.1 b i t hi).2
  exact fun b hb => key _ b (Nat.lt_succ_self _) hb
end
section
/-! ===== Int32 by its bits: bt x i ===== -/
def bt (x : Int32) (i : Nat) : Bool := x.toBitVec.getLsbD i
theorem b_ext {x y : Int32} (h : ∀ i, i < 32 → bt x i = bt y i) : x = y := Int32.toBitVec_inj.mp (BitVec.eq_of_getLsbD_eq (fun i hi => h i hi))
theorem b_or (x y : Int32) (i : Nat) : bt (x ||| y) i = (bt x i || bt y i) := by unfold bt; rw [Int32.toBitVec_or, BitVec.getLsbD_or]
theorem b_and (x y : Int32) (i : Nat) : bt (x &&& y) i = (bt x i && bt y i) := by unfold bt; rw [Int32.toBitVec_and, BitVec.getLsbD_and]
theorem b_xor (x y : Int32) (i : Nat) : bt (x ^^^ y) i = (bt x i ^^ bt y i) := by unfold bt; rw [Int32.toBitVec_xor, BitVec.getLsbD_xor]
theorem b_big {x : Int32} {i : Nat} (h : 32 ≤ i) : bt x i = false := BitVec.getLsbD_of_ge _ _ h
theorem b_255 (i : Nat) : bt 255 i = decide (i < 8) := by
  rcases Nat.lt_or_ge i 32 with h | h
  · exact (by decide +kernel : ∀ i, i < 32 → bt 255 i = decide (i < 8)) i h
  · rw [b_big h, decide_eq_false (by omega)]
theorem b_65535 (i : Nat) : bt 65535 i = decide (i < 16) := by
  rcases Nat.lt_or_ge i 32 with h | h
  · exact (by decide +kernel : ∀ i, i < 32 → bt 65535 i = decide (i < 16)) i h
  · rw [b_big h, decide_eq_false (by omega)]
theorem b_m1 : ∀ i, i < 32 → bt (-1) i = true := by decide +kernel
theorem b_0 (i : Nat) : bt 0 i = false := BitVec.getLsbD_zero
theorem s_l : ∀ n, n < 32 → ((nI n &&& 31).toBitVec.smod 32).toNat = n := by decide +kernel
theorem s_u : ∀ n, n < 32 → (((nI n).toUInt32 &&& Int32.toUInt32 31).toBitVec % 32).toNat = n := by decide +kernel
theorem b_shl (n : Nat) (hn : n < 32) (x : Int32) {i : Nat} (hi : i < 32) : bt (x <<< (nI n &&& 31)) i = (decide (n ≤ i) && bt x (i - n)) := by
  unfold bt
  rw [Int32.toBitVec_shiftLeft]
  show (x.toBitVec <<< ((nI n &&& 31).toBitVec.smod 32).toNat).getLsbD i = _
  rw [s_l n hn, BitVec.getLsbD_shiftLeft]
  rcases Nat.lt_or_ge i n with h | h
  · simp [h, Nat.not_le.mpr h]
  · simp [hi, h, Nat.not_lt.mpr h]
theorem b_ushr (n : Nat) (hn : n < 32) (x : Int32) (i : Nat) : bt ((x.toUInt32 >>> ((nI n).toUInt32 &&& Int32.toUInt32 31)).toInt32) i = bt x (n + i) := by
  show (x.toUInt32 >>> ((nI n).toUInt32 &&& Int32.toUInt32 31)).toBitVec.getLsbD i = x.toUInt32.toBitVec.getLsbD (n + i)
  rw [UInt32.toBitVec_shiftRight]
  show (x.toUInt32.toBitVec >>> (((nI n).toUInt32 &&& Int32.toUInt32 31).toBitVec % 32).toNat).getLsbD i = _
  rw [s_u n hn, BitVec.getLsbD_ushiftRight]
theorem b_sshr (n : Nat) (hn : n < 32) (x : Int32) {i : Nat} (hi : i < 32) : bt (x >>> (nI n &&& 31)) i = if n + i < 32 then bt x (n + i) else bt x 31 := by
  unfold bt
  rw [Int32.toBitVec_shiftRight]
  show (x.toBitVec.sshiftRight ((nI n &&& 31).toBitVec.smod 32).toNat).getLsbD i = _
  rw [s_l n hn, BitVec.getLsbD_sshiftRight, BitVec.msb_eq_getLsbD_last]
  simp [hi]
end
section
/-! ===== what the cells say of an edition ===== -/
def en (o : Option Nat) : Int32 := match o with
  | some t => nI t
  | none => -1
theorem en_ne {t : Nat} (h : t < 2 ^ 31) : nI t ≠ -1 := by
  intro e
  have := congrArg Int32.toInt e
  rw [nI_toInt h] at this
  have h2 : (-1 : Int32).toInt = -1 := by decide
  rw [h2] at this
  omega
theorem en_none {o : Option Nat} (h : ∀ t, o = some t → t < 2 ^ 31) : en o = -1 ↔ o = none := by
  cases o with
  | none => simp [en]
  | some t => simp only [en, reduceCtorEq, iff_false]; exact en_ne (h t rfl)
/-- is a number at least 0 and below another -/
def ew (a n : Int32) : Bool := !decide (a < 0) && !decide (n ≤ a)
theorem ew_nI {a n : Nat} (ha : a < 2 ^ 31) (hn : n < 2 ^ 31) : ew (nI a) (nI n) = decide (a < n) := by
  unfold ew
  have h1 : ¬ nI a < 0 := nI_pos ha
  by_cases h : a < n
  · simp [h1, h, nI_ge h hn]
  · simp [h, nI_le (Nat.le_of_not_lt h) ha]
theorem ew_t {a n : Int32} (h : ew a n = true) : 0 ≤ a ∧ a < n := by
  unfold ew at h
  simp only [Bool.and_eq_true, Bool.not_eq_true', decide_eq_false_iff_not] at h
  exact ⟨Int32.not_lt.mp h.1, Int32.not_le.mp h.2⟩
theorem ew_n {a : Int32} {n : Nat} (h : ew a (nI n) = true) (hn : n < 2 ^ 31) : a.toNatClampNeg < n ∧ nI a.toNatClampNeg = a := ⟨ez_lt (ew_t h).1 (ew_t h).2 hn, ez_pos (ew_t h).1⟩
theorem ew_m1 (n : Int32) : ew (-1) n = false := by simp [ew]
/-- a set of numbers below 32, and a number: is it in -/
def eh (s a : Int32) : Bool := ew a 32 && !decide (((s.toUInt32 >>> (a.toUInt32 &&& Int32.toUInt32 31)).toInt32 &&& 1) = 0)
theorem bt_one (x : Int32) : (x &&& 1) = 0 ↔ bt x 0 = false := by
  constructor
  · intro h
    have := congrArg (fun z => bt z 0) h
    simp only [b_and, b_0] at this
    rw [show bt 1 0 = true from by decide] at this
    simpa using this
  · intro h
    apply b_ext
    intro i hi
    rw [b_and, b_0]
    by_cases h0 : i = 0
    · subst h0; rw [h]; rfl
    · have : ∀ i, i < 32 → i ≠ 0 → bt 1 i = false := by decide +kernel
      rw [this i hi h0, Bool.and_false]
theorem eh_nI (s : Int32) {a : Nat} (ha : a < 2 ^ 31) : eh s (nI a) = bt s a := by
  unfold eh
  have h32 : (32 : Int32) = nI 32 := rfl
  rw [h32, ew_nI ha (by omega)]
  by_cases h : a < 32
  · simp only [h, decide_true, Bool.true_and]
    have e1 := b_ushr a h s 0
    rw [Nat.add_zero] at e1
    have e2 := bt_one ((s.toUInt32 >>> ((nI a).toUInt32 &&& Int32.toUInt32 31)).toInt32)
    rw [e1] at e2
    cases hb : bt s a
    · rw [hb] at e2
      simp [e2.mpr rfl]
    · rw [hb] at e2
      have : ¬ (((s.toUInt32 >>> ((nI a).toUInt32 &&& Int32.toUInt32 31)).toInt32 &&& 1) = 0) := fun hc => by simpa using e2.mp hc
      simp [this]
  · simp only [h, decide_false, Bool.false_and]
    exact (b_big (by omega)).symm
/-- the bit of a number -/
def eo (a : Int32) : Int32 := if ew a 32 then 1 <<< (a &&& 31) else 0
theorem bt_eo {a : Nat} (ha : a < 2 ^ 31) {j : Nat} (hj : j < 32) : bt (eo (nI a)) j = decide (j = a) := by
  unfold eo
  have h32 : (32 : Int32) = nI 32 := rfl
  rw [h32, ew_nI ha (by omega)]
  by_cases h : a < 32
  · simp only [h, decide_true, if_true]
    rw [b_shl a h 1 hj]
    have h1 : ∀ i, i < 32 → bt 1 i = decide (i = 0) := by decide +kernel
    rw [h1 (j - a) (by omega)]
    by_cases hja : j = a
    · subst hja; simp
    · by_cases hle : a ≤ j
      · have : ¬ (j - a = 0) := by omega
        simp [hja, hle, this]
      · simp [hja, hle]
  · simp only [h, decide_false, Bool.false_eq_true, if_false, b_0]
    rw [eq_comm, decide_eq_false_iff_not]
    omega
theorem eo_m1 : eo (-1) = 0 := by simp [eo, ew_m1]
theorem bt_en {o : Option Nat} (ho : ∀ t, o = some t → t < 2 ^ 31) {j : Nat} (hj : j < 32) : bt (eo (en o)) j = decide (o = some j) := by
  cases o with
  | none => simp only [en, eo_m1, b_0]; simp
  | some t =>
    simp only [en]
    rw [bt_eo (ho t rfl) hj]
    simp [eq_comm]
/-- the class's cells of an edition, its object at place b -/
def rc (E : em_E) (b : Nat) (σ : es_S) : Prop :=
  σ b 8 = nI (em_n E) ∧ σ b 9 = nI (em_dl E (em_n E)) ∧
  (∀ t, t < em_n E → σ (b + 1) t = nI (em_k E t)) ∧
  (∀ t, t < em_n E → σ (b + 2) t = if em_k E t = 6 then nI (em_dl E t) else em_m E t) ∧
  (∀ t, t < em_n E → σ (b + 3) t = nI (em_nd (em_k E t))) ∧
  (∀ t i, t < 24 → i < 2 → σ (b + 4) (t * 2 + i) = en (em_w E t i)) ∧
  (∀ t j, t < 24 → j < 32 → (bt (σ (b + 5) t) j = true ↔ em_at E t j)) ∧
  (∀ j, j < 3 → σ (b + 6) j = en (em_o E j)) ∧
  (∀ j, j < em_dl E (em_n E) → ∃ t, t < em_n E ∧ em_k E t = 6 ∧ em_dl E t = j ∧ σ (b + 7) j = nI t)
/-- it says nothing of the object's room for 'ahead', and of no other place -/
theorem rc_off {E : em_E} {b : Nat} {σ σ' : es_S} (h : rc E b σ) (hs : ∀ k, b ≤ k → k ≤ b + 7 → σ' k = σ k) : rc E b σ' := by
  unfold rc at h ⊢
  rw [hs b (by omega) (by omega), hs (b + 1) (by omega) (by omega), hs (b + 2) (by omega) (by omega), hs (b + 3) (by omega) (by omega), hs (b + 4) (by omega) (by omega), hs (b + 5) (by omega) (by omega), hs (b + 6) (by omega) (by omega), hs (b + 7) (by omega) (by omega)]
  exact h
end
section
/-! ===== the first of which something is true ===== -/
noncomputable def em_fst (p : Nat → Prop) : Nat → Option Nat
  | 0 => none
  | n + 1 => match em_fst p n with
    | some t => some t
    | none => @ite _ (p n) (Classical.propDecidable _) (some n) none
theorem em_fst_none {p : Nat → Prop} : ∀ {n : Nat}, (∀ u, u < n → ¬ p u) → em_fst p n = none := by
  intro n
  induction n with
  | zero => intro _; rfl
  | succ n ih =>
    intro h
    simp only [em_fst, ih (fun u hu => h u (by omega))]
    simp [h n (by omega)]
theorem em_fst_some {p : Nat → Prop} {t : Nat} (hp : p t) (h : ∀ u, u < t → ¬ p u) : ∀ {n : Nat}, t < n → em_fst p n = some t := by
  intro n
  induction n with
  | zero => intro ht; omega
  | succ n ih =>
    intro ht
    by_cases htn : t = n
    · subst htn
      simp only [em_fst, em_fst_none h]
      simp [hp]
    · simp only [em_fst, ih (by omega)]
theorem em_fst_eq_none {p : Nat → Prop} {n : Nat} (h : em_fst p n = none) : ∀ u, u < n → ¬ p u := by
  induction n with
  | zero => intro u hu; omega
  | succ n ih =>
    simp only [em_fst] at h
    cases hf : em_fst p n with
    | some t => rw [hf] at h; cases h
    | none =>
      rw [hf] at h
      intro u hu hpu
      by_cases hun : u = n
      · subst hun
        simp [hpu] at h
      · exact ih hf u (by omega) hpu
theorem em_fst_lt {p : Nat → Prop} {n t : Nat} (h : em_fst p n = some t) : t < n ∧ p t := by
  induction n with
  | zero => cases h
  | succ n ih =>
    simp only [em_fst] at h
    cases hf : em_fst p n with
    | some u =>
      rw [hf] at h
      cases h
      exact ⟨by have := (ih hf).1; omega, (ih hf).2⟩
    | none =>
      rw [hf] at h
      by_cases hp : p n
      · simp [hp] at h
        subst h
        exact ⟨by omega, hp⟩
      · simp [hp] at h
/-- the least block that keeps an edition from being right -/
noncomputable def em_fault (E : em_E) : Option Nat := match em_fst (em_unw E) (em_n E) with
  | some t => some t
  | none => em_fst (em_cyc E) (em_n E)
theorem em_fault_none {E : em_E} : em_fault E = none ↔ em_right E := by
  unfold em_fault em_right
  cases h : em_fst (em_unw E) (em_n E) with
  | some t =>
    have := em_fst_lt h
    simp only [reduceCtorEq, false_iff]
    exact fun hr => hr.1 t this.1 this.2
  | none =>
    have h1 := em_fst_eq_none h
    constructor
    · exact fun h2 => ⟨h1, em_fst_eq_none h2⟩
    · exact fun hr => em_fst_none hr.2
theorem em_fault_lt {E : em_E} {t : Nat} (h : em_fault E = some t) : t < em_n E := by
  unfold em_fault at h
  cases hf : em_fst (em_unw E) (em_n E) with
  | some u => rw [hf] at h; cases h; exact (em_fst_lt hf).1
  | none => rw [hf] at h; exact (em_fst_lt h).1
theorem em_nd_le (k : Nat) : em_nd k ≤ 2 := by unfold em_nd; split <;> (try split) <;> omega
end
section
/-! ===== leaves ===== -/
section Leaves
variable {l : Launch} {G : ez_G} {σ : es_S}
theorem c_EE_isWithin {a n : Int32} : ez_Ct l G X_EE_isWithin [.int a, .int n] (es_H σ) (es_Q (es_I fun y σ' => y = eb (ew a n) ∧ σ' = σ) es_no) := by
  refine es_Ct_of (ls := [some (.int a), some (.int n)]) ok_EE_isWithin rfl (Nat.le_of_ble_eq_true rfl) rfl ?_
  refine ev_iload_n (i := 0) d_EE_isWithin_0 rfl rfl ?_
  refine ev_if_lt d_EE_isWithin_1 (fun h1 => ?_) (fun h1 => ?_)
  · refine ev_iconst (v := 0) d_EE_isWithin_13 rfl ?_
    refine es_zret d_EE_isWithin_14 rfl rfl ⟨Nat.zero_le _, Nat.zero_le _⟩ ⟨_, rfl, ?_⟩
    refine ⟨?_, rfl⟩
    simp [eb, ew, *]
  · refine ev_iload_n (i := 0) d_EE_isWithin_4 rfl rfl ?_
    refine ev_iload_n (i := 1) d_EE_isWithin_5 rfl rfl ?_
    refine ev_icmp_ge d_EE_isWithin_6 (fun h6 => ?_) (fun h6 => ?_)
    · refine ev_iconst (v := 0) d_EE_isWithin_13 rfl ?_
      refine es_zret d_EE_isWithin_14 rfl rfl ⟨Nat.zero_le _, Nat.zero_le _⟩ ⟨_, rfl, ?_⟩
      refine ⟨?_, rfl⟩
      simp [eb, ew, *]
    · refine ev_iconst (v := 1) d_EE_isWithin_9 rfl ?_
      refine ev_goto d_EE_isWithin_10 ?_
      refine es_zret d_EE_isWithin_14 rfl rfl ⟨Nat.zero_le _, Nat.zero_le _⟩ ⟨_, rfl, ?_⟩
      refine ⟨?_, rfl⟩
      simp [eb, ew, *]
theorem c_EE_bitOf {a : Int32} : ez_Ct l G X_EE_bitOf [.int a] (es_H σ) (es_Q (es_I fun y σ' => y = eo a ∧ σ' = σ) es_no) := by
  refine es_Ct_of (ls := [some (.int a)]) ok_EE_bitOf rfl (Nat.le_of_ble_eq_true rfl) rfl ?_
  refine ev_iload_n (i := 0) d_EE_bitOf_0 rfl rfl ?_
  refine ev_if_lt d_EE_bitOf_1 (fun h1 => ?_) (fun h1 => ?_)
  · refine ev_iconst (v := 0) d_EE_bitOf_16 rfl ?_
    refine es_iret d_EE_bitOf_17 rfl ⟨Nat.zero_le _, Nat.zero_le _⟩ ⟨_, rfl, ?_⟩
    refine ⟨?_, rfl⟩
    simp [eo, ew, *]
  · refine ev_iload_n (i := 0) d_EE_bitOf_4 rfl rfl ?_
    refine ev_bipush (v := 32) d_EE_bitOf_5 rfl ?_
    refine ev_icmp_ge d_EE_bitOf_7 (fun h7 => ?_) (fun h7 => ?_)
    · refine ev_iconst (v := 0) d_EE_bitOf_16 rfl ?_
      refine es_iret d_EE_bitOf_17 rfl ⟨Nat.zero_le _, Nat.zero_le _⟩ ⟨_, rfl, ?_⟩
      refine ⟨?_, rfl⟩
      simp [eo, ew, *]
    · refine ev_iconst (v := 1) d_EE_bitOf_10 rfl ?_
      refine ev_iload_n (i := 0) d_EE_bitOf_11 rfl rfl ?_
      refine ev_ishl d_EE_bitOf_12 ?_
      refine ev_goto d_EE_bitOf_13 ?_
      refine es_iret d_EE_bitOf_17 rfl ⟨Nat.zero_le _, Nat.zero_le _⟩ ⟨_, rfl, ?_⟩
      refine ⟨?_, rfl⟩
      simp [eo, ew, *]
theorem c_EE_holds {s a : Int32} : ez_Ct l G X_EE_holds [.int s, .int a] (es_H σ) (es_Q (es_I fun y σ' => y = eb (eh s a) ∧ σ' = σ) es_no) := by
  refine es_Ct_of (ls := [some (.int s), some (.int a)]) ok_EE_holds rfl (Nat.le_of_ble_eq_true rfl) rfl ?_
  refine ev_iload_n (i := 1) d_EE_holds_0 rfl rfl ?_
  refine ev_if_lt d_EE_holds_1 (fun h1 => ?_) (fun h1 => ?_)
  · refine ev_iconst (v := 0) d_EE_holds_22 rfl ?_
    refine es_zret d_EE_holds_23 rfl rfl ⟨Nat.zero_le _, Nat.zero_le _⟩ ⟨_, rfl, ?_⟩
    refine ⟨?_, rfl⟩
    simp [eb, eh, ew, *]
  · refine ev_iload_n (i := 1) d_EE_holds_4 rfl rfl ?_
    refine ev_bipush (v := 32) d_EE_holds_5 rfl ?_
    refine ev_icmp_ge d_EE_holds_7 (fun h7 => ?_) (fun h7 => ?_)
    · refine ev_iconst (v := 0) d_EE_holds_22 rfl ?_
      refine es_zret d_EE_holds_23 rfl rfl ⟨Nat.zero_le _, Nat.zero_le _⟩ ⟨_, rfl, ?_⟩
      refine ⟨?_, rfl⟩
      simp [eb, eh, ew, *]
    · refine ev_iload_n (i := 0) d_EE_holds_10 rfl rfl ?_
      refine ev_iload_n (i := 1) d_EE_holds_11 rfl rfl ?_
      refine ev_iushr d_EE_holds_12 ?_
      refine ev_iconst (v := 1) d_EE_holds_13 rfl ?_
      refine ev_iand d_EE_holds_14 ?_
      refine ev_if_eq d_EE_holds_15 (fun h15 => ?_) (fun h15 => ?_)
      · refine ev_iconst (v := 0) d_EE_holds_22 rfl ?_
        refine es_zret d_EE_holds_23 rfl rfl ⟨Nat.zero_le _, Nat.zero_le _⟩ ⟨_, rfl, ?_⟩
        refine ⟨?_, rfl⟩
        simp [eb, eh, ew, *]
      · refine ev_iconst (v := 1) d_EE_holds_18 rfl ?_
        refine ev_goto d_EE_holds_19 ?_
        refine es_zret d_EE_holds_23 rfl rfl ⟨Nat.zero_le _, Nat.zero_le _⟩ ⟨_, rfl, ?_⟩
        refine ⟨?_, rfl⟩
        simp [eb, eh, ew, *]
theorem c_ED_hasBlock {b : Nat} (hb : sb_ED b) {x : Int32} : ez_Ct l G X_ED_hasBlock [.ref b, .int x] (es_H σ) (es_Q (es_I fun y σ' => y = eb (ew x (σ b 8)) ∧ σ' = σ) es_no) := by
  refine es_Ct_of (ls := [some (.ref b), some (.int x)]) ok_ED_hasBlock rfl (Nat.le_of_ble_eq_true rfl) rfl ?_
  refine ev_iload_n (i := 1) d_ED_hasBlock_0 rfl rfl ?_
  refine ev_if_lt d_ED_hasBlock_1 (fun h1 => ?_) (fun h1 => ?_)
  · refine ev_iconst (v := 0) d_ED_hasBlock_16 rfl ?_
    refine es_zret d_ED_hasBlock_17 rfl rfl ⟨Nat.zero_le _, Nat.zero_le _⟩ ⟨_, rfl, ?_⟩
    refine ⟨?_, rfl⟩
    simp [eb, ew, *]
  · refine ev_iload_n (i := 1) d_ED_hasBlock_4 rfl rfl ?_
    refine ev_aload_n (i := 0) d_ED_hasBlock_5 rfl rfl ?_
    refine es_getI d_ED_hasBlock_6 f_ED_36 (sh_ED hb) rfl ?_
    refine ev_icmp_ge d_ED_hasBlock_9 (fun h9 => ?_) (fun h9 => ?_)
    · refine ev_iconst (v := 0) d_ED_hasBlock_16 rfl ?_
      refine es_zret d_ED_hasBlock_17 rfl rfl ⟨Nat.zero_le _, Nat.zero_le _⟩ ⟨_, rfl, ?_⟩
      refine ⟨?_, rfl⟩
      simp [eb, ew, *]
    · refine ev_iconst (v := 1) d_ED_hasBlock_12 rfl ?_
      refine ev_goto d_ED_hasBlock_13 ?_
      refine es_zret d_ED_hasBlock_17 rfl rfl ⟨Nat.zero_le _, Nat.zero_le _⟩ ⟨_, rfl, ?_⟩
      refine ⟨?_, rfl⟩
      simp [eb, ew, *]
theorem c_ED_countBlocks {b : Nat} (hb : sb_ED b) : ez_Ct l G X_ED_countBlocks [.ref b] (es_H σ) (es_Q (es_I fun y σ' => y = σ b 8 ∧ σ' = σ) es_no) := by
  refine es_Ct_of (ls := [some (.ref b)]) ok_ED_countBlocks rfl (Nat.le_of_ble_eq_true rfl) rfl ?_
  refine ev_aload_n (i := 0) d_ED_countBlocks_0 rfl rfl ?_
  refine es_getI d_ED_countBlocks_1 f_ED_36 (sh_ED hb) rfl ?_
  refine es_iret d_ED_countBlocks_4 rfl ⟨Nat.zero_le _, Nat.zero_le _⟩ ⟨_, rfl, ?_⟩
  exact ⟨rfl, rfl⟩
theorem c_ED_countDelays {b : Nat} (hb : sb_ED b) : ez_Ct l G X_ED_countDelays [.ref b] (es_H σ) (es_Q (es_I fun y σ' => y = σ b 9 ∧ σ' = σ) es_no) := by
  refine es_Ct_of (ls := [some (.ref b)]) ok_ED_countDelays rfl (Nat.le_of_ble_eq_true rfl) rfl ?_
  refine ev_aload_n (i := 0) d_ED_countDelays_0 rfl rfl ?_
  refine es_getI d_ED_countDelays_1 f_ED_40 (sh_ED hb) rfl ?_
  refine es_iret d_ED_countDelays_4 rfl ⟨Nat.zero_le _, Nat.zero_le _⟩ ⟨_, rfl, ?_⟩
  exact ⟨rfl, rfl⟩
theorem c_ED_hasBlockOrNone {b : Nat} (hb : sb_ED b) {x : Int32} : ez_Ct l G X_ED_hasBlockOrNone [.ref b, .int x] (es_H σ) (es_Q (es_I fun y σ' => y = eb (decide (x = -1) || ew x (σ b 8)) ∧ σ' = σ) es_no) := by
  refine es_Ct_of (ls := [some (.ref b), some (.int x)]) ok_ED_hasBlockOrNone rfl (Nat.le_of_ble_eq_true rfl) rfl ?_
  refine ev_iload_n (i := 1) d_ED_hasBlockOrNone_0 rfl rfl ?_
  refine ev_iconst (v := (-1)) d_ED_hasBlockOrNone_1 rfl ?_
  refine ev_icmp_eq d_ED_hasBlockOrNone_2 (fun h2 => ?_) (fun h2 => ?_)
  · refine ev_iconst (v := 1) d_ED_hasBlockOrNone_13 rfl ?_
    refine ev_goto d_ED_hasBlockOrNone_14 ?_
    refine es_zret d_ED_hasBlockOrNone_18 rfl rfl ⟨Nat.zero_le _, Nat.zero_le _⟩ ⟨_, rfl, ?_⟩
    refine ⟨?_, rfl⟩
    simp_all [eb_0, eb]
  · refine ev_aload_n (i := 0) d_ED_hasBlockOrNone_5 rfl rfl ?_
    refine ev_iload_n (i := 1) d_ED_hasBlockOrNone_6 rfl rfl ?_
    refine es_cVI ls_ED_hasBlockOrNone_7 d_ED_hasBlockOrNone_7 (sh_ED hb) (c_ED_hasBlock hb) rfl rfl (Nat.le_of_ble_eq_true rfl) (fun x7 σ7 h7 => ?_) (fun _ _ h => h.elim)
    obtain ⟨rfl, rfl⟩ := h7
    refine ev_if_eq d_ED_hasBlockOrNone_10 (fun h10 => ?_) (fun h10 => ?_)
    · refine ev_iconst (v := 0) d_ED_hasBlockOrNone_17 rfl ?_
      refine es_zret d_ED_hasBlockOrNone_18 rfl rfl ⟨Nat.zero_le _, Nat.zero_le _⟩ ⟨_, rfl, ?_⟩
      refine ⟨?_, rfl⟩
      simp_all [eb_0, eb]
    · refine ev_iconst (v := 1) d_ED_hasBlockOrNone_13 rfl ?_
      refine ev_goto d_ED_hasBlockOrNone_14 ?_
      refine es_zret d_ED_hasBlockOrNone_18 rfl rfl ⟨Nat.zero_le _, Nat.zero_le _⟩ ⟨_, rfl, ?_⟩
      refine ⟨?_, rfl⟩
      simp_all [eb_0, eb]
theorem c_ED_kindOf {b : Nat} (hb : sb_ED b) {E : em_E} {P : Nat} (hw : em_wf P E) (hr : rc E b σ) {t : Nat} (ht : t < em_n E) : ez_Ct l G X_ED_kindOf [.ref b, .int (nI t)] (es_H σ) (es_Q (es_I fun y σ' => y = nI (em_k E t) ∧ σ' = σ) es_no) := by
  have hn := hw.1
  have h24 : t < 24 := Nat.lt_of_lt_of_le ht hn
  have hbt : ew (nI t) (σ b 8) = true := by rw [hr.1, ew_nI (by omega) (by omega), decide_eq_true ht]
  have hcl : (nI t).toNatClampNeg = t := nI_clamp (by omega)
  refine es_Ct_of (ls := [some (.ref b), some (.int (nI t))]) ok_ED_kindOf rfl (Nat.le_of_ble_eq_true rfl) rfl ?_
  refine ev_aload_n (i := 0) d_ED_kindOf_0 rfl rfl ?_
  refine ev_iload_n (i := 1) d_ED_kindOf_1 rfl rfl ?_
  refine es_cVI ls_ED_kindOf_2 d_ED_kindOf_2 (sh_ED hb) (c_ED_hasBlock hb) rfl rfl (Nat.le_of_ble_eq_true rfl) (fun x2 σ2 h2 => ?_) (fun _ _ h => h.elim)
  obtain ⟨rfl, rfl⟩ := h2
  refine ev_if_eq d_ED_kindOf_5 (fun h5 => ?_) (fun h5 => ?_)
  · exact absurd h5 (by rw [hbt]; decide)
  · refine ev_aload_n (i := 0) d_ED_kindOf_8 rfl rfl ?_
    refine es_getR d_ED_kindOf_9 f_ED_9 (sh_ED hb) rfl ?_
    refine ev_iload_n (i := 1) d_ED_kindOf_12 rfl rfl ?_
    refine es_iald d_ED_kindOf_13 (sa_ED_kinds hb) (ez_vinN h24 (by omega)) ?_
    refine ev_goto d_ED_kindOf_14 ?_
    refine es_iret d_ED_kindOf_18 rfl ⟨Nat.zero_le _, Nat.zero_le _⟩ ⟨_, rfl, ?_⟩
    refine ⟨?_, rfl⟩
    rw [hcl]
    exact hr.2.2.1 t ht
theorem c_ED_numberOf {b : Nat} (hb : sb_ED b) {E : em_E} {P : Nat} (hw : em_wf P E) (hr : rc E b σ) {t : Nat} (ht : t < em_n E) : ez_Ct l G X_ED_numberOf [.ref b, .int (nI t)] (es_H σ) (es_Q (es_I fun y σ' => y = (if em_k E t = 6 then nI (em_dl E t) else em_m E t) ∧ σ' = σ) es_no) := by
  have hn := hw.1
  have h24 : t < 24 := Nat.lt_of_lt_of_le ht hn
  have hbt : ew (nI t) (σ b 8) = true := by rw [hr.1, ew_nI (by omega) (by omega), decide_eq_true ht]
  have hcl : (nI t).toNatClampNeg = t := nI_clamp (by omega)
  refine es_Ct_of (ls := [some (.ref b), some (.int (nI t))]) ok_ED_numberOf rfl (Nat.le_of_ble_eq_true rfl) rfl ?_
  refine ev_aload_n (i := 0) d_ED_numberOf_0 rfl rfl ?_
  refine ev_iload_n (i := 1) d_ED_numberOf_1 rfl rfl ?_
  refine es_cVI ls_ED_numberOf_2 d_ED_numberOf_2 (sh_ED hb) (c_ED_hasBlock hb) rfl rfl (Nat.le_of_ble_eq_true rfl) (fun x2 σ2 h2 => ?_) (fun _ _ h => h.elim)
  obtain ⟨rfl, rfl⟩ := h2
  refine ev_if_eq d_ED_numberOf_5 (fun h5 => ?_) (fun h5 => ?_)
  · exact absurd h5 (by rw [hbt]; decide)
  · refine ev_aload_n (i := 0) d_ED_numberOf_8 rfl rfl ?_
    refine es_getR d_ED_numberOf_9 f_ED_15 (sh_ED hb) rfl ?_
    refine ev_iload_n (i := 1) d_ED_numberOf_12 rfl rfl ?_
    refine es_iald d_ED_numberOf_13 (sa_ED_numbers hb) (ez_vinN h24 (by omega)) ?_
    refine ev_goto d_ED_numberOf_14 ?_
    refine es_iret d_ED_numberOf_18 rfl ⟨Nat.zero_le _, Nat.zero_le _⟩ ⟨_, rfl, ?_⟩
    refine ⟨?_, rfl⟩
    rw [hcl]
    exact hr.2.2.2.1 t ht
theorem c_ED_outputAt {b : Nat} (hb : sb_ED b) {E : em_E} (hr : rc E b σ) {j : Nat} (hj : j < 3) : ez_Ct l G X_ED_outputAt [.ref b, .int (nI j)] (es_H σ) (es_Q (es_I fun y σ' => y = en (em_o E j) ∧ σ' = σ) es_no) := by
  have hbt : ew (nI j) 3 = true := by rw [show (3 : Int32) = nI 3 from rfl, ew_nI (by omega) (by omega), decide_eq_true hj]
  have hcl : (nI j).toNatClampNeg = j := nI_clamp (by omega)
  refine es_Ct_of (ls := [some (.ref b), some (.int (nI j))]) ok_ED_outputAt rfl (Nat.le_of_ble_eq_true rfl) rfl ?_
  refine ev_iload_n (i := 1) d_ED_outputAt_0 rfl rfl ?_
  refine ev_iconst (v := 3) d_ED_outputAt_1 rfl ?_
  refine es_cSI ls_ED_outputAt_2 d_ED_outputAt_2 c_EE_isWithin rfl rfl (Nat.le_of_ble_eq_true rfl) (fun x2 σ2 h2 => ?_) (fun _ _ h => h.elim)
  obtain ⟨rfl, rfl⟩ := h2
  refine ev_if_eq d_ED_outputAt_5 (fun h5 => ?_) (fun h5 => ?_)
  · exact absurd h5 (by rw [hbt]; decide)
  · refine ev_aload_n (i := 0) d_ED_outputAt_8 rfl rfl ?_
    refine es_getR d_ED_outputAt_9 f_ED_27 (sh_ED hb) rfl ?_
    refine ev_iload_n (i := 1) d_ED_outputAt_12 rfl rfl ?_
    refine es_iald d_ED_outputAt_13 (sa_ED_outputs hb) (ez_vinN hj (by omega)) ?_
    refine ev_goto d_ED_outputAt_14 ?_
    refine es_iret d_ED_outputAt_18 rfl ⟨Nat.zero_le _, Nat.zero_le _⟩ ⟨_, rfl, ?_⟩
    refine ⟨?_, rfl⟩
    rw [hcl]
    exact hr.2.2.2.2.2.2.2.1 j hj
theorem c_ED_delayAt {b : Nat} (hb : sb_ED b) {E : em_E} {P : Nat} (hw : em_wf P E) (hr : rc E b σ) {j : Nat} (hj : j < em_dl E (em_n E)) : ez_Ct l G X_ED_delayAt [.ref b, .int (nI j)] (es_H σ) (es_Q (es_I fun y σ' => y = σ (b + 7) j ∧ σ' = σ) es_no) := by
  have h5 : em_dl E (em_n E) ≤ 5 := hw.2.2.2.2.2.2
  have hbt : ew (nI j) (σ b 9) = true := by rw [hr.2.1, ew_nI (by omega) (by omega), decide_eq_true hj]
  have hcl : (nI j).toNatClampNeg = j := nI_clamp (by omega)
  refine es_Ct_of (ls := [some (.ref b), some (.int (nI j))]) ok_ED_delayAt rfl (Nat.le_of_ble_eq_true rfl) rfl ?_
  refine ev_iload_n (i := 1) d_ED_delayAt_0 rfl rfl ?_
  refine ev_aload_n (i := 0) d_ED_delayAt_1 rfl rfl ?_
  refine es_getI d_ED_delayAt_2 f_ED_40 (sh_ED hb) rfl ?_
  refine es_cSI ls_ED_delayAt_5 d_ED_delayAt_5 c_EE_isWithin rfl rfl (Nat.le_of_ble_eq_true rfl) (fun x5 σ5 h5 => ?_) (fun _ _ h => h.elim)
  obtain ⟨rfl, rfl⟩ := h5
  refine ev_if_eq d_ED_delayAt_8 (fun h8 => ?_) (fun h8 => ?_)
  · exact absurd h8 (by rw [hbt]; decide)
  · refine ev_aload_n (i := 0) d_ED_delayAt_11 rfl rfl ?_
    refine es_getR d_ED_delayAt_12 f_ED_30 (sh_ED hb) rfl ?_
    refine ev_iload_n (i := 1) d_ED_delayAt_15 rfl rfl ?_
    refine es_iald d_ED_delayAt_16 (sa_ED_delays hb) (ez_vinN (by omega) (by omega)) ?_
    refine ev_goto d_ED_delayAt_17 ?_
    refine es_iret d_ED_delayAt_21 rfl ⟨Nat.zero_le _, Nat.zero_le _⟩ ⟨_, rfl, ?_⟩
    refine ⟨?_, rfl⟩
    rw [hcl]
theorem c_ED_neededInTick {b : Nat} (hb : sb_ED b) {E : em_E} {P : Nat} (hw : em_wf P E) (hr : rc E b σ) {t : Nat} (ht : t < em_n E) : ez_Ct l G X_ED_neededInTick [.ref b, .int (nI t)] (es_H σ) (es_Q (es_I fun y σ' => y = (if em_k E t = 6 then 0 else σ (b + 5) t) ∧ σ' = σ) es_no) := by
  have hn := hw.1
  have h24 : t < 24 := Nat.lt_of_lt_of_le ht hn
  have hbt : ew (nI t) (σ b 8) = true := by rw [hr.1, ew_nI (by omega) (by omega), decide_eq_true ht]
  have hcl : (nI t).toNatClampNeg = t := nI_clamp (by omega)
  have hk6 : em_k E t ≤ 6 := hw.2.1 t ht
  have hkk : σ (b + 1) t = nI (em_k E t) := hr.2.2.1 t ht
  have h6 : (6 : Int32) = nI 6 := rfl
  refine es_Ct_of (ls := [some (.ref b), some (.int (nI t))]) ok_ED_neededInTick rfl (Nat.le_of_ble_eq_true rfl) rfl ?_
  refine ev_aload_n (i := 0) d_ED_neededInTick_0 rfl rfl ?_
  refine ev_iload_n (i := 1) d_ED_neededInTick_1 rfl rfl ?_
  refine es_cVI ls_ED_neededInTick_2 d_ED_neededInTick_2 (sh_ED hb) (c_ED_hasBlock hb) rfl rfl (Nat.le_of_ble_eq_true rfl) (fun x2 σ2 h2 => ?_) (fun _ _ h => h.elim)
  obtain ⟨rfl, rfl⟩ := h2
  refine ev_if_eq d_ED_neededInTick_5 (fun h5 => ?_) (fun h5 => ?_)
  · exact absurd h5 (by rw [hbt]; decide)
  · refine ev_aload_n (i := 0) d_ED_neededInTick_8 rfl rfl ?_
    refine es_getR d_ED_neededInTick_9 f_ED_9 (sh_ED hb) rfl ?_
    refine ev_iload_n (i := 1) d_ED_neededInTick_12 rfl rfl ?_
    refine es_iald d_ED_neededInTick_13 (sa_ED_kinds hb) (ez_vinN h24 (by omega)) ?_
    refine ev_bipush (v := 6) d_ED_neededInTick_14 rfl ?_
    refine ev_icmp_eq d_ED_neededInTick_16 (fun h16 => ?_) (fun h16 => ?_)
    · rw [hcl, hkk, h6, nI_eq (by omega) (by omega)] at h16
      refine ev_iconst (v := 0) d_ED_neededInTick_28 rfl ?_
      refine es_iret d_ED_neededInTick_29 rfl ⟨Nat.zero_le _, Nat.zero_le _⟩ ⟨_, rfl, ?_⟩
      refine ⟨?_, rfl⟩
      simp [hcl, h16]
    · rw [hcl, hkk, h6, nI_eq (by omega) (by omega)] at h16
      refine ev_aload_n (i := 0) d_ED_neededInTick_19 rfl rfl ?_
      refine es_getR d_ED_neededInTick_20 f_ED_24 (sh_ED hb) rfl ?_
      refine ev_iload_n (i := 1) d_ED_neededInTick_23 rfl rfl ?_
      refine es_iald d_ED_neededInTick_24 (sa_ED_neededBlocks hb) (ez_vinN h24 (by omega)) ?_
      refine ev_goto d_ED_neededInTick_25 ?_
      refine es_iret d_ED_neededInTick_29 rfl ⟨Nat.zero_le _, Nat.zero_le _⟩ ⟨_, rfl, ?_⟩
      refine ⟨?_, rfl⟩
      simp [hcl, h16]
theorem c_ED_neededAt {b : Nat} (hb : sb_ED b) {E : em_E} {P : Nat} (hw : em_wf P E) (hr : rc E b σ) {t i : Nat} (ht : t < em_n E) (hi : i < 2) : ez_Ct l G X_ED_neededAt [.ref b, .int (nI t), .int (nI i)] (es_H σ) (es_Q (es_I fun y σ' => y = en (if i < em_nd (em_k E t) then em_w E t i else none) ∧ σ' = σ) es_no) := by
  have hn := hw.1
  have h24 : t < 24 := Nat.lt_of_lt_of_le ht hn
  have hbt : ew (nI t) (σ b 8) = true := by rw [hr.1, ew_nI (by omega) (by omega), decide_eq_true ht]
  have hcl : (nI t).toNatClampNeg = t := nI_clamp (by omega)
  have hk6 : em_k E t ≤ 6 := hw.2.1 t ht
  have hnd : σ (b + 3) t = nI (em_nd (em_k E t)) := hr.2.2.2.2.1 t ht
  have hnb : em_nd (em_k E t) ≤ 2 := by unfold em_nd; split <;> (try split) <;> omega
  have hww : σ (b + 4) (t * 2 + i) = en (em_w E t i) := hr.2.2.2.2.2.1 t i h24 hi
  have hix : nI t * 2 + nI i = nI (t * 2 + i) := by rw [show (2 : Int32) = nI 2 from rfl, nI_mul, nI_add]
  have hi0 : ¬ nI i < 0 := nI_pos (by omega)
  have hi32 : (nI (t * 2 + i)).toNatClampNeg = t * 2 + i := nI_clamp (by omega)
  refine es_Ct_of (ls := [some (.ref b), some (.int (nI t)), some (.int (nI i)), none]) ok_ED_neededAt rfl (Nat.le_of_ble_eq_true rfl) rfl ?_
  refine ev_aload_n (i := 0) d_ED_neededAt_0 rfl rfl ?_
  refine ev_iload_n (i := 1) d_ED_neededAt_1 rfl rfl ?_
  refine es_cVI ls_ED_neededAt_2 d_ED_neededAt_2 (sh_ED hb) (c_ED_hasBlock hb) rfl rfl (Nat.le_of_ble_eq_true rfl) (fun x2 σ2 h2 => ?_) (fun _ _ h => h.elim)
  obtain ⟨rfl, rfl⟩ := h2
  refine ev_if_eq d_ED_neededAt_5 (fun h5 => ?_) (fun h5 => ?_)
  · exact absurd h5 (by rw [hbt]; decide)
  · refine ev_iload_n (i := 2) d_ED_neededAt_8 rfl rfl ?_
    refine ev_if_lt d_ED_neededAt_9 (fun h9 => ?_) (fun h9 => ?_)
    · exact absurd h9 hi0
    · refine ev_iload_n (i := 2) d_ED_neededAt_12 rfl rfl ?_
      refine ev_aload_n (i := 0) d_ED_neededAt_13 rfl rfl ?_
      refine es_getR d_ED_neededAt_14 f_ED_18 (sh_ED hb) rfl ?_
      refine ev_iload_n (i := 1) d_ED_neededAt_17 rfl rfl ?_
      refine es_iald d_ED_neededAt_18 (sa_ED_neededInputs hb) (ez_vinN h24 (by omega)) ?_
      refine ev_icmp_ge d_ED_neededAt_19 (fun h19 => ?_) (fun h19 => ?_)
      · rw [hcl, hnd, nI_leI (by omega) (by omega), ← Nat.not_lt] at h19
        refine ev_iconst (v := 0) d_ED_neededAt_26 rfl ?_
        refine ev_istore_n (i := 3) d_ED_neededAt_27 rfl (by decide) ?_
        dsimp only [List.set_cons_zero, List.set_cons_succ]
        refine ev_iload_n (i := 3) d_ED_neededAt_28 rfl rfl ?_
        refine ev_if_eq d_ED_neededAt_29 (fun _ => ?_) (fun h => absurd h (by decide))
        refine ev_iconst (v := (-1)) d_ED_neededAt_45 rfl ?_
        refine es_iret d_ED_neededAt_46 rfl ⟨Nat.zero_le _, Nat.zero_le _⟩ ⟨_, rfl, ?_⟩
        refine ⟨?_, rfl⟩
        first | rw [hix, hi32, hww, if_pos h19] | (rw [if_neg h19]; rfl)
      · rw [hcl, hnd, nI_leI (by omega) (by omega), Nat.not_le] at h19
        refine ev_iconst (v := 1) d_ED_neededAt_22 rfl ?_
        refine ev_goto d_ED_neededAt_23 ?_
        refine ev_istore_n (i := 3) d_ED_neededAt_27 rfl (by decide) ?_
        dsimp only [List.set_cons_zero, List.set_cons_succ]
        refine ev_iload_n (i := 3) d_ED_neededAt_28 rfl rfl ?_
        refine ev_if_eq d_ED_neededAt_29 (fun h => absurd h (by decide)) (fun _ => ?_)
        refine ev_aload_n (i := 0) d_ED_neededAt_32 rfl rfl ?_
        refine es_getR d_ED_neededAt_33 f_ED_21 (sh_ED hb) rfl ?_
        refine ev_iload_n (i := 1) d_ED_neededAt_36 rfl rfl ?_
        refine ev_iconst (v := 2) d_ED_neededAt_37 rfl ?_
        refine ev_imul d_ED_neededAt_38 ?_
        refine ev_iload_n (i := 2) d_ED_neededAt_39 rfl rfl ?_
        refine ev_iadd d_ED_neededAt_40 ?_
        refine es_iald d_ED_neededAt_41 (sa_ED_wires hb) (by rw [hix]; exact ez_vinN (by omega) (by omega)) ?_
        refine ev_goto d_ED_neededAt_42 ?_
        refine es_iret d_ED_neededAt_46 rfl ⟨Nat.zero_le _, Nat.zero_le _⟩ ⟨_, rfl, ?_⟩
        refine ⟨?_, rfl⟩
        first | rw [hix, hi32, hww, if_pos h19] | (rw [if_neg h19]; rfl)
end Leaves
end
section
/-! ===== an edition's fault ===== -/
section
variable {l : Launch} {G : ez_G} {σ : es_S}
theorem lp_ED_firstUnwired_12 {b : Nat} (hb : sb_ED b) {E : em_E} {P : Nat} (hw : em_wf P E) (hr : rc E b σ) {t : Nat} (ht : t < em_n E) (hbef : ∀ u, u < t → ¬ em_unw E u) (hex : ¬ em_unw E t → ez_Ev l G X_ED_firstUnwired 0 0 44 [some (.ref b), some (.int (nI t)), none] [] (es_H σ) (es_Q (es_I fun y σ' => y = en (em_fst (em_unw E) (em_n E)) ∧ σ' = σ) es_no)) : ∀ (d : Nat) (i : Nat), em_nd (em_k E t) - i = d → i ≤ em_nd (em_k E t) ∧ (∀ j, j < i → em_w E t j ≠ none) → ez_Ev l G X_ED_firstUnwired 0 0 12 [some (.ref b), some (.int (nI t)), some (.int (nI i))] [] (es_H σ) (es_Q (es_I fun y σ' => y = en (em_fst (em_unw E) (em_n E)) ∧ σ' = σ) es_no) := by
  intro d
  induction d using Nat.strongRecOn with
  | _ d ih =>
    intro i hm hinv
    obtain ⟨hi, hall⟩ := hinv
    have hn := hw.1
    have h24 : t < 24 := Nat.lt_of_lt_of_le ht hn
    have hcl : (nI t).toNatClampNeg = t := nI_clamp (by omega)
    have hnd : σ (b + 3) t = nI (em_nd (em_k E t)) := hr.2.2.2.2.1 t ht
    have hn2 := em_nd_le (em_k E t)
    have hix : nI t * 2 + nI i = nI (t * 2 + i) := by rw [show (2 : Int32) = nI 2 from rfl, nI_mul, nI_add]
    have hi32 : (nI (t * 2 + i)).toNatClampNeg = t * 2 + i := nI_clamp (by omega)
    refine ev_iload_n (i := 2) d_ED_firstUnwired_12 rfl rfl ?_
    refine ev_aload_n (i := 0) d_ED_firstUnwired_13 rfl rfl ?_
    refine es_getR d_ED_firstUnwired_14 f_ED_18 (sh_ED hb) rfl ?_
    refine ev_iload_n (i := 1) d_ED_firstUnwired_17 rfl rfl ?_
    refine es_iald d_ED_firstUnwired_18 (sa_ED_neededInputs hb) (ez_vinN h24 (by omega)) ?_
    refine ev_icmp_ge d_ED_firstUnwired_19 (fun h19 => ?_) (fun h19 => ?_)
    · rw [hcl, hnd, nI_leI (by omega) (by omega)] at h19
      refine ev_mask [true, true, false] rfl (hex ?_)
      rintro ⟨j, hj, hj2⟩
      exact hall j (by omega) hj2
    · rw [hcl, hnd, nI_leI (by omega) (by omega), Nat.not_le] at h19
      have hww : σ (b + 4) (t * 2 + i) = en (em_w E t i) := hr.2.2.2.2.2.1 t i h24 (by omega)
      have hwb : ∀ u, em_w E t i = some u → u < 2 ^ 31 := fun u hu => by have := (hw.2.2.1 t i u hu).2; omega
      refine ev_aload_n (i := 0) d_ED_firstUnwired_22 rfl rfl ?_
      refine es_getR d_ED_firstUnwired_23 f_ED_21 (sh_ED hb) rfl ?_
      refine ev_iload_n (i := 1) d_ED_firstUnwired_26 rfl rfl ?_
      refine ev_iconst (v := 2) d_ED_firstUnwired_27 rfl ?_
      refine ev_imul d_ED_firstUnwired_28 ?_
      refine ev_iload_n (i := 2) d_ED_firstUnwired_29 rfl rfl ?_
      refine ev_iadd d_ED_firstUnwired_30 ?_
      refine es_iald d_ED_firstUnwired_31 (sa_ED_wires hb) (by rw [hix]; exact ez_vinN (by omega) (by omega)) ?_
      refine ev_iconst (v := (-1)) d_ED_firstUnwired_32 rfl ?_
      refine ev_icmp_ne d_ED_firstUnwired_33 (fun h33 => ?_) (fun h33 => ?_)
      · rw [hix, hi32, hww, en_none hwb] at h33
        refine ev_iinc d_ED_firstUnwired_38 rfl (ez_inc _) (by decide) ?_
        dsimp only [List.set_cons_zero, List.set_cons_succ]
        refine ev_goto d_ED_firstUnwired_41 ?_
        refine ih _ (by omega) (i + 1) rfl ⟨by omega, fun j hj => ?_⟩
        by_cases hji : j = i
        · rw [hji]; exact h33
        · exact hall j (by omega)
      · rw [hix, hi32, hww, en_none hwb] at h33
        refine ev_iload_n (i := 1) d_ED_firstUnwired_36 rfl rfl ?_
        refine es_iret d_ED_firstUnwired_37 rfl ⟨Nat.zero_le _, Nat.zero_le _⟩ ⟨_, rfl, ?_⟩
        refine ⟨?_, rfl⟩
        rw [em_fst_some (p := em_unw E) ⟨i, h19, h33⟩ hbef ht]
        rfl
theorem lp_ED_firstUnwired_2 {b : Nat} (hb : sb_ED b) {E : em_E} {P : Nat} (hw : em_wf P E) (hr : rc E b σ) : ∀ (d : Nat) (t : Nat), em_n E - t = d → t ≤ em_n E ∧ (∀ u, u < t → ¬ em_unw E u) → ez_Ev l G X_ED_firstUnwired 0 0 2 [some (.ref b), some (.int (nI t)), none] [] (es_H σ) (es_Q (es_I fun y σ' => y = en (em_fst (em_unw E) (em_n E)) ∧ σ' = σ) es_no) := by
  intro d
  induction d using Nat.strongRecOn with
  | _ d ih =>
    intro t hm hinv
    obtain ⟨hi, hall⟩ := hinv
    have hn := hw.1
    refine ev_iload_n (i := 1) d_ED_firstUnwired_2 rfl rfl ?_
    refine ev_aload_n (i := 0) d_ED_firstUnwired_3 rfl rfl ?_
    refine es_getI d_ED_firstUnwired_4 f_ED_36 (sh_ED hb) rfl ?_
    refine ev_icmp_ge d_ED_firstUnwired_7 (fun h7 => ?_) (fun h7 => ?_)
    · rw [hr.1, nI_leI (by omega) (by omega)] at h7
      refine ev_iconst (v := (-1)) d_ED_firstUnwired_50 rfl ?_
      refine es_iret d_ED_firstUnwired_51 rfl ⟨Nat.zero_le _, Nat.zero_le _⟩ ⟨_, rfl, ?_⟩
      refine ⟨?_, rfl⟩
      rw [em_fst_none (fun u hu => hall u (by omega))]
      rfl
    · rw [hr.1, nI_leI (by omega) (by omega), Nat.not_le] at h7
      refine ev_iconst (v := 0) d_ED_firstUnwired_10 rfl ?_
      refine ev_istore_n (i := 2) d_ED_firstUnwired_11 rfl (by decide) ?_
      dsimp only [List.set_cons_zero, List.set_cons_succ]
      refine lp_ED_firstUnwired_12 hb hw hr h7 hall (fun hu => ?_) _ 0 rfl ⟨Nat.zero_le _, fun j hj => by omega⟩
      refine ev_iinc d_ED_firstUnwired_44 rfl (ez_inc t) (by decide) ?_
      dsimp only [List.set_cons_zero, List.set_cons_succ]
      refine ev_goto d_ED_firstUnwired_47 ?_
      refine ih _ (by omega) (t + 1) rfl ⟨by omega, fun u hu2 => ?_⟩
      by_cases hut : u = t
      · rw [hut]; exact hu
      · exact hall u (by omega)
theorem c_ED_firstUnwired {b : Nat} (hb : sb_ED b) {E : em_E} {P : Nat} (hw : em_wf P E) (hr : rc E b σ) : ez_Ct l G X_ED_firstUnwired [.ref b] (es_H σ) (es_Q (es_I fun y σ' => y = en (em_fst (em_unw E) (em_n E)) ∧ σ' = σ) es_no) := by
  refine es_Ct_of (ls := [some (.ref b), none, none]) ok_ED_firstUnwired rfl (Nat.le_of_ble_eq_true rfl) rfl ?_
  refine ev_iconst (v := 0) d_ED_firstUnwired_0 rfl ?_
  refine ev_istore_n (i := 1) d_ED_firstUnwired_1 rfl (by decide) ?_
  dsimp only [List.set_cons_zero, List.set_cons_succ]
  exact lp_ED_firstUnwired_2 hb hw hr _ 0 rfl ⟨Nat.zero_le _, fun u hu => by omega⟩
theorem lp_ED_firstComingBack_89 {b : Nat} (hb : sb_ED b) {E : em_E} {P : Nat} (hw : em_wf P E) (hr : rc E b σ) : ∀ (d : Nat) (t : Nat) (σ1 : es_S), em_n E - t = d → (t ≤ em_n E ∧ (∀ u, u < t → ¬ em_cyc E u)) ∧ (∀ k, k ≠ b + 8 → σ1 k = σ k) ∧ (∀ u j, u < em_n E → j < 32 → (bt (σ1 (b + 8) u) j = true ↔ em_P (em_ed E) (em_n E) u j)) → ez_Ev l G X_ED_firstComingBack 0 0 89 [some (.ref b), some (.int (nI t)), none] [] (es_H σ1) (es_Q (es_I fun y σ' => y = en (em_fst (em_cyc E) (em_n E)) ∧ ∀ k, k ≠ b + 8 → σ' k = σ k) es_no) := by
  intro d
  induction d using Nat.strongRecOn with
  | _ d ih =>
    intro t σ1 hm hinv
    obtain ⟨⟨hi, hall⟩, hoff, hP⟩ := hinv
    have hn := hw.1
    have hr1 : rc E b σ1 := rc_off hr (fun k h1 h2 => hoff k (by omega))
    have hcl : (nI t).toNatClampNeg = t := nI_clamp (by omega)
    have hed : ∀ u v, em_ed E u v → v < em_n E := fun u v h => by obtain ⟨⟨-, i, -, hi⟩, -⟩ := h; exact (hw.2.2.1 u i v hi).2
    refine ev_iload_n (i := 1) d_ED_firstComingBack_89 rfl rfl ?_
    refine ev_aload_n (i := 0) d_ED_firstComingBack_90 rfl rfl ?_
    refine es_getI d_ED_firstComingBack_91 f_ED_36 (sh_ED hb) rfl ?_
    refine ev_icmp_ge d_ED_firstComingBack_94 (fun h94 => ?_) (fun h94 => ?_)
    · rw [hr1.1, nI_leI (by omega) (by omega)] at h94
      refine ev_iconst (v := (-1)) d_ED_firstComingBack_118 rfl ?_
      refine es_iret d_ED_firstComingBack_119 rfl ⟨Nat.zero_le _, Nat.zero_le _⟩ ⟨_, rfl, ?_⟩
      refine ⟨?_, hoff⟩
      rw [em_fst_none (fun u hu => hall u (by omega))]
      rfl
    · rw [hr1.1, nI_leI (by omega) (by omega), Nat.not_le] at h94
      have hcy : bt (σ1 (b + 8) t) t = true ↔ em_cyc E t := (hP t t h94 (by omega)).trans ⟨em_P_sound _ _ _ _, em_P_all hed⟩
      refine ev_aload_n (i := 0) d_ED_firstComingBack_97 rfl rfl ?_
      refine es_getR d_ED_firstComingBack_98 f_ED_33 (sh_ED hb) rfl ?_
      refine ev_iload_n (i := 1) d_ED_firstComingBack_101 rfl rfl ?_
      refine es_iald d_ED_firstComingBack_102 (sa_ED_ahead hb) (ez_vinN (by omega) (by omega)) ?_
      refine ev_iload_n (i := 1) d_ED_firstComingBack_103 rfl rfl ?_
      refine es_cSI ls_ED_firstComingBack_104 d_ED_firstComingBack_104 c_EE_holds rfl rfl (Nat.le_of_ble_eq_true rfl) (fun x104 σ104 h104 => ?_) (fun _ _ h => h.elim)
      obtain ⟨rfl, e104⟩ := h104
      rw [e104]
      refine ev_if_eq d_ED_firstComingBack_107 (fun h107 => ?_) (fun h107 => ?_)
      · rw [hcl, eh_nI _ (by omega), eb_0] at h107
        rw [h107] at hcy
        refine ev_iinc d_ED_firstComingBack_112 rfl (ez_inc _) (by decide) ?_
        dsimp only [List.set_cons_zero, List.set_cons_succ]
        refine ev_goto d_ED_firstComingBack_115 ?_
        refine ih _ (by omega) (t + 1) σ1 rfl ⟨⟨by omega, fun u hu => ?_⟩, hoff, hP⟩
        by_cases hut : u = t
        · rw [hut]; exact fun hc => Bool.false_ne_true (hcy.mpr hc)
        · exact hall u (by omega)
      · rw [hcl, eh_nI _ (by omega), eb_0, Bool.not_eq_false] at h107
        rw [h107] at hcy
        refine ev_iload_n (i := 1) d_ED_firstComingBack_110 rfl rfl ?_
        refine es_iret d_ED_firstComingBack_111 rfl ⟨Nat.zero_le _, Nat.zero_le _⟩ ⟨_, rfl, ?_⟩
        refine ⟨?_, hoff⟩
        rw [em_fst_some (hcy.mp rfl) hall h94]
        rfl
theorem lp_ED_firstComingBack_39 {b : Nat} (hb : sb_ED b) {E : em_E} {P : Nat} (hw : em_wf P E) (hr : rc E b σ) {m : Nat} (hm0 : m < em_n E) (hex : ∀ σ1 : es_S, (∀ k, k ≠ b + 8 → σ1 k = σ k) → (∀ u j, u < em_n E → j < 32 → (bt (σ1 (b + 8) u) j = true ↔ em_P (em_ed E) (m + 1) u j)) → ez_Ev l G X_ED_firstComingBack 0 0 81 [some (.ref b), some (.int (nI m)), none] [] (es_H σ1) (es_Q (es_I fun y σ' => y = en (em_fst (em_cyc E) (em_n E)) ∧ ∀ k, k ≠ b + 8 → σ' k = σ k) es_no)) : ∀ (d : Nat) (t : Nat) (σ1 : es_S), em_n E - t = d → t ≤ em_n E ∧ (∀ k, k ≠ b + 8 → σ1 k = σ k) ∧ (∀ u j, u < em_n E → j < 32 → (bt (σ1 (b + 8) u) j = true ↔ em_P (em_ed E) (if u < t then m + 1 else m) u j)) → ez_Ev l G X_ED_firstComingBack 0 0 39 [some (.ref b), some (.int (nI m)), some (.int (nI t))] [] (es_H σ1) (es_Q (es_I fun y σ' => y = en (em_fst (em_cyc E) (em_n E)) ∧ ∀ k, k ≠ b + 8 → σ' k = σ k) es_no) := by
  intro d
  induction d using Nat.strongRecOn with
  | _ d ih =>
    intro t σ1 hm hinv
    obtain ⟨hi, hoff, hP⟩ := hinv
    have hn := hw.1
    have hr1 : rc E b σ1 := rc_off hr (fun k h1 h2 => hoff k (by omega))
    have hcl : (nI t).toNatClampNeg = t := nI_clamp (by omega)
    have hcm : (nI m).toNatClampNeg = m := nI_clamp (by omega)
    refine ev_iload_n (i := 2) d_ED_firstComingBack_39 rfl rfl ?_
    refine ev_aload_n (i := 0) d_ED_firstComingBack_40 rfl rfl ?_
    refine es_getI d_ED_firstComingBack_41 f_ED_36 (sh_ED hb) rfl ?_
    refine ev_icmp_ge d_ED_firstComingBack_44 (fun h44 => ?_) (fun h44 => ?_)
    · rw [hr1.1, nI_leI (by omega) (by omega)] at h44
      refine ev_mask [true, true, false] rfl (hex σ1 hoff (fun u j hu hj => ?_))
      have := hP u j hu hj
      rwa [if_pos (by omega)] at this
    · rw [hr1.1, nI_leI (by omega) (by omega), Nat.not_le] at h44
      have hPt : ∀ j, j < 32 → (bt (σ1 (b + 8) t) j = true ↔ em_P (em_ed E) m t j) := fun j hj => by have := hP t j h44 hj; rwa [if_neg (by omega)] at this
      have hPm : ∀ j, j < 32 → (bt (σ1 (b + 8) m) j = true ↔ em_P (em_ed E) m m j) := fun j hj => by
        have h9 := hP m j hm0 hj
        by_cases hlt : m < t
        · rw [if_pos hlt] at h9
          exact h9.trans ⟨fun h => h.elim id (fun h => h.2), Or.inl⟩
        · rwa [if_neg hlt] at h9
      refine ev_aload_n (i := 0) d_ED_firstComingBack_47 rfl rfl ?_
      refine es_getR d_ED_firstComingBack_48 f_ED_33 (sh_ED hb) rfl ?_
      refine ev_iload_n (i := 2) d_ED_firstComingBack_51 rfl rfl ?_
      refine es_iald d_ED_firstComingBack_52 (sa_ED_ahead hb) (ez_vinN (by omega) (by omega)) ?_
      refine ev_iload_n (i := 1) d_ED_firstComingBack_53 rfl rfl ?_
      refine es_cSI ls_ED_firstComingBack_54 d_ED_firstComingBack_54 c_EE_holds rfl rfl (Nat.le_of_ble_eq_true rfl) (fun x54 σ54 h54 => ?_) (fun _ _ h => h.elim)
      obtain ⟨rfl, e54⟩ := h54
      rw [e54]
      refine ev_if_eq d_ED_firstComingBack_57 (fun h57 => ?_) (fun h57 => ?_)
      · rw [hcl, eh_nI _ (by omega), eb_0] at h57
        have hno : ¬ em_P (em_ed E) m t m := fun hc => by have := (hPt m (by omega)).mpr hc; rw [h57] at this; cases this
        refine ev_iinc d_ED_firstComingBack_75 rfl (ez_inc _) (by decide) ?_
        dsimp only [List.set_cons_zero, List.set_cons_succ]
        refine ev_goto d_ED_firstComingBack_78 ?_
        first
          | (refine ih _ (by omega) (t + 1) σ1 rfl ⟨by omega, hoff, fun u j hu hj => ?_⟩
             by_cases hut : u = t
             · subst hut; rw [if_pos (by omega)]; exact (hPt j hj).trans ⟨Or.inl, fun h => h.elim id (fun h => absurd h.1 hno)⟩
             · have := hP u j hu hj
               by_cases hlt : u < t
               · rw [if_pos (by omega)]; rwa [if_pos hlt] at this
               · rw [if_neg (by omega)]; rwa [if_neg hlt] at this)
          | (refine ih _ (by omega) (t + 1) _ rfl ⟨by omega, fun k hk => by rw [es_up_off _ _ _ _ hk]; exact hoff k hk, fun u j hu hj => ?_⟩
             rw [hcl, hcm]
             by_cases hut : u = t
             · subst hut; rw [if_pos (by omega), es_up_eq, b_or, Bool.or_eq_true]; exact (or_congr (hPt j hj) (hPm j hj)).trans ⟨fun h => h.elim Or.inl (fun h => Or.inr ⟨hyes, h⟩), fun h => h.elim Or.inl (fun h => Or.inr h.2)⟩
             · rw [es_up_ne _ _ _ _ hut]; have := hP u j hu hj
               by_cases hlt : u < t
               · rw [if_pos (by omega)]; rwa [if_pos hlt] at this
               · rw [if_neg (by omega)]; rwa [if_neg hlt] at this)
      · rw [hcl, eh_nI _ (by omega), eb_0, Bool.not_eq_false] at h57
        have hyes := (hPt m (by omega)).mp h57
        refine ev_aload_n (i := 0) d_ED_firstComingBack_60 rfl rfl ?_
        refine es_getR d_ED_firstComingBack_61 f_ED_33 (sh_ED hb) rfl ?_
        refine ev_iload_n (i := 2) d_ED_firstComingBack_64 rfl rfl ?_
        refine ev_dup2 d_ED_firstComingBack_65 rfl rfl ?_
        refine es_iald d_ED_firstComingBack_66 (sa_ED_ahead hb) (ez_vinN (by omega) (by omega)) ?_
        refine ev_aload_n (i := 0) d_ED_firstComingBack_67 rfl rfl ?_
        refine es_getR d_ED_firstComingBack_68 f_ED_33 (sh_ED hb) rfl ?_
        refine ev_iload_n (i := 1) d_ED_firstComingBack_71 rfl rfl ?_
        refine es_iald d_ED_firstComingBack_72 (sa_ED_ahead hb) (ez_vinN (by omega) (by omega)) ?_
        refine ev_ior d_ED_firstComingBack_73 ?_
        refine es_iast d_ED_firstComingBack_74 (sa_ED_ahead hb) (ez_vinN (by omega) (by omega)) ?_
        refine ev_iinc d_ED_firstComingBack_75 rfl (ez_inc _) (by decide) ?_
        dsimp only [List.set_cons_zero, List.set_cons_succ]
        refine ev_goto d_ED_firstComingBack_78 ?_
        first
          | (refine ih _ (by omega) (t + 1) σ1 rfl ⟨by omega, hoff, fun u j hu hj => ?_⟩
             by_cases hut : u = t
             · subst hut; rw [if_pos (by omega)]; exact (hPt j hj).trans ⟨Or.inl, fun h => h.elim id (fun h => absurd h.1 hno)⟩
             · have := hP u j hu hj
               by_cases hlt : u < t
               · rw [if_pos (by omega)]; rwa [if_pos hlt] at this
               · rw [if_neg (by omega)]; rwa [if_neg hlt] at this)
          | (refine ih _ (by omega) (t + 1) _ rfl ⟨by omega, fun k hk => by rw [es_up_off _ _ _ _ hk]; exact hoff k hk, fun u j hu hj => ?_⟩
             rw [hcl, hcm]
             by_cases hut : u = t
             · subst hut; rw [if_pos (by omega), es_up_eq, b_or, Bool.or_eq_true]; exact (or_congr (hPt j hj) (hPm j hj)).trans ⟨fun h => h.elim Or.inl (fun h => Or.inr ⟨hyes, h⟩), fun h => h.elim Or.inl (fun h => Or.inr h.2)⟩
             · rw [es_up_ne _ _ _ _ hut]; have := hP u j hu hj
               by_cases hlt : u < t
               · rw [if_pos (by omega)]; rwa [if_pos hlt] at this
               · rw [if_neg (by omega)]; rwa [if_neg hlt] at this)
theorem lp_ED_firstComingBack_29 {b : Nat} (hb : sb_ED b) {E : em_E} {P : Nat} (hw : em_wf P E) (hr : rc E b σ) : ∀ (d : Nat) (m : Nat) (σ1 : es_S), em_n E - m = d → m ≤ em_n E ∧ (∀ k, k ≠ b + 8 → σ1 k = σ k) ∧ (∀ u j, u < em_n E → j < 32 → (bt (σ1 (b + 8) u) j = true ↔ em_P (em_ed E) m u j)) → ez_Ev l G X_ED_firstComingBack 0 0 29 [some (.ref b), some (.int (nI m)), none] [] (es_H σ1) (es_Q (es_I fun y σ' => y = en (em_fst (em_cyc E) (em_n E)) ∧ ∀ k, k ≠ b + 8 → σ' k = σ k) es_no) := by
  intro d
  induction d using Nat.strongRecOn with
  | _ d ih =>
    intro m σ1 hm hinv
    obtain ⟨hi, hoff, hP⟩ := hinv
    have hn := hw.1
    have hr1 : rc E b σ1 := rc_off hr (fun k h1 h2 => hoff k (by omega))
    refine ev_iload_n (i := 1) d_ED_firstComingBack_29 rfl rfl ?_
    refine ev_aload_n (i := 0) d_ED_firstComingBack_30 rfl rfl ?_
    refine es_getI d_ED_firstComingBack_31 f_ED_36 (sh_ED hb) rfl ?_
    refine ev_icmp_ge d_ED_firstComingBack_34 (fun h34 => ?_) (fun h34 => ?_)
    · rw [hr1.1, nI_leI (by omega) (by omega)] at h34
      refine ev_iconst (v := 0) d_ED_firstComingBack_87 rfl ?_
      refine ev_istore_n (i := 1) d_ED_firstComingBack_88 rfl (by decide) ?_
      dsimp only [List.set_cons_zero, List.set_cons_succ]
      have e9 : m = em_n E := by omega
      subst e9
      exact lp_ED_firstComingBack_89 hb hw hr _ 0 σ1 rfl ⟨⟨Nat.zero_le _, fun u hu => by omega⟩, hoff, hP⟩
    · rw [hr1.1, nI_leI (by omega) (by omega), Nat.not_le] at h34
      refine ev_iconst (v := 0) d_ED_firstComingBack_37 rfl ?_
      refine ev_istore_n (i := 2) d_ED_firstComingBack_38 rfl (by decide) ?_
      dsimp only [List.set_cons_zero, List.set_cons_succ]
      refine lp_ED_firstComingBack_39 hb hw hr h34 (fun σ2 hoff2 hP2 => ?_) _ 0 σ1 rfl ⟨Nat.zero_le _, hoff, fun u j hu hj => by rw [if_neg (by omega)]; exact hP u j hu hj⟩
      refine ev_iinc d_ED_firstComingBack_81 rfl (ez_inc m) (by decide) ?_
      dsimp only [List.set_cons_zero, List.set_cons_succ]
      refine ev_goto d_ED_firstComingBack_84 ?_
      exact ih _ (by omega) (m + 1) σ2 rfl ⟨by omega, hoff2, hP2⟩
theorem lp_ED_firstComingBack_2 {b : Nat} (hb : sb_ED b) {E : em_E} {P : Nat} (hw : em_wf P E) (hr : rc E b σ) : ∀ (d : Nat) (t : Nat) (σ1 : es_S), em_n E - t = d → t ≤ em_n E ∧ (∀ k, k ≠ b + 8 → σ1 k = σ k) ∧ (∀ u j, u < t → j < 32 → (bt (σ1 (b + 8) u) j = true ↔ em_ed E u j)) → ez_Ev l G X_ED_firstComingBack 0 0 2 [some (.ref b), some (.int (nI t)), none] [] (es_H σ1) (es_Q (es_I fun y σ' => y = en (em_fst (em_cyc E) (em_n E)) ∧ ∀ k, k ≠ b + 8 → σ' k = σ k) es_no) := by
  intro d
  induction d using Nat.strongRecOn with
  | _ d ih =>
    intro t σ1 hm hinv
    obtain ⟨hi, hoff, hP⟩ := hinv
    have hn := hw.1
    have hr1 : rc E b σ1 := rc_off hr (fun k h1 h2 => hoff k (by omega))
    have hcl : (nI t).toNatClampNeg = t := nI_clamp (by omega)
    refine ev_iload_n (i := 1) d_ED_firstComingBack_2 rfl rfl ?_
    refine ev_aload_n (i := 0) d_ED_firstComingBack_3 rfl rfl ?_
    refine es_getI d_ED_firstComingBack_4 f_ED_36 (sh_ED hb) rfl ?_
    refine ev_icmp_ge d_ED_firstComingBack_7 (fun h7 => ?_) (fun h7 => ?_)
    · rw [hr1.1, nI_leI (by omega) (by omega)] at h7
      refine ev_iconst (v := 0) d_ED_firstComingBack_27 rfl ?_
      refine ev_istore_n (i := 1) d_ED_firstComingBack_28 rfl (by decide) ?_
      dsimp only [List.set_cons_zero, List.set_cons_succ]
      have e9 : t = em_n E := by omega
      subst e9
      exact lp_ED_firstComingBack_29 hb hw hr _ 0 σ1 rfl ⟨Nat.zero_le _, hoff, hP⟩
    · rw [hr1.1, nI_leI (by omega) (by omega), Nat.not_le] at h7
      refine ev_aload_n (i := 0) d_ED_firstComingBack_10 rfl rfl ?_
      refine es_getR d_ED_firstComingBack_11 f_ED_33 (sh_ED hb) rfl ?_
      refine ev_iload_n (i := 1) d_ED_firstComingBack_14 rfl rfl ?_
      refine ev_aload_n (i := 0) d_ED_firstComingBack_15 rfl rfl ?_
      refine ev_iload_n (i := 1) d_ED_firstComingBack_16 rfl rfl ?_
      refine es_cVI ls_ED_firstComingBack_17 d_ED_firstComingBack_17 (sh_ED hb) (c_ED_neededInTick hb hw hr1 h7) rfl rfl (Nat.le_of_ble_eq_true rfl) (fun x17 σ17 h17 => ?_) (fun _ _ h => h.elim)
      obtain ⟨rfl, e17⟩ := h17
      rw [e17]
      refine es_iast d_ED_firstComingBack_20 (sa_ED_ahead hb) (ez_vinN (by omega) (by omega)) ?_
      refine ev_iinc d_ED_firstComingBack_21 rfl (ez_inc _) (by decide) ?_
      dsimp only [List.set_cons_zero, List.set_cons_succ]
      refine ev_goto d_ED_firstComingBack_24 ?_
      refine ih _ (by omega) (t + 1) _ rfl ⟨by omega, fun k hk => by rw [es_up_off _ _ _ _ hk]; exact hoff k hk, fun u j hu hj => ?_⟩
      rw [hcl]
      by_cases hut : u = t
      · subst hut
        rw [es_up_eq]
        have h9 := hr1.2.2.2.2.2.2.1 u j (by omega) hj
        by_cases h6 : em_k E u = 6
        · rw [if_pos h6, b_0]
          exact ⟨(fun h => by cases h), fun h => absurd h6 h.2⟩
        · rw [if_neg h6]
          exact h9.trans ⟨fun h => ⟨h, h6⟩, fun h => h.1⟩
      · rw [es_up_ne _ _ _ _ hut]; exact hP u j (by omega) hj
theorem c_ED_firstComingBack {b : Nat} (hb : sb_ED b) {E : em_E} {P : Nat} (hw : em_wf P E) (hr : rc E b σ) : ez_Ct l G X_ED_firstComingBack [.ref b] (es_H σ) (es_Q (es_I fun y σ' => y = en (em_fst (em_cyc E) (em_n E)) ∧ ∀ k, k ≠ b + 8 → σ' k = σ k) es_no) := by
  refine es_Ct_of (ls := [some (.ref b), none, none]) ok_ED_firstComingBack rfl (Nat.le_of_ble_eq_true rfl) rfl ?_
  refine ev_iconst (v := 0) d_ED_firstComingBack_0 rfl ?_
  refine ev_istore_n (i := 1) d_ED_firstComingBack_1 rfl (by decide) ?_
  dsimp only [List.set_cons_zero, List.set_cons_succ]
  exact lp_ED_firstComingBack_2 hb hw hr _ 0 σ rfl ⟨Nat.zero_le _, fun _ _ => rfl, fun u j hu => by omega⟩
end
end
section
theorem zz_end : True := trivial
end
