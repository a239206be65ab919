section
-- ===== PART A: goes FIRST, ahead of the names: the tables' words, and 'selects' of the private methods out of them =====
/-- a private method of a class that the tables say can be made, by its rows of tables_1 -/
def lw_okq (q : MethodName × Nat) : Prop := (q.1.cls ≠ "java/lang/invoke/MethodHandle" ∧ q.1.cls ≠ "java/lang/invoke/VarHandle") ∧ Cond.instantiable q.1.cls q.2 ∈ tables_1 ∧ Cond.privateMethod q.1 ∈ tables_1 ∧ Cond.instanceMethod q.1 ∈ tables_1
theorem lw_p0 : lw_okq (⟨"EditionEqual", "editionOf", "(I)LEditionEqual$Edition;"⟩, 9) := ⟨⟨by decide +kernel, by decide +kernel⟩, List.mem_of_getElem? (i := 17) (by decide +kernel), List.mem_of_getElem? (i := 229) (by decide +kernel), List.mem_of_getElem? (i := 230) (by decide +kernel)⟩
theorem lw_p1 : lw_okq (⟨"java/lang/Throwable", "fillInStackTrace", "(I)Ljava/lang/Throwable;"⟩, 6) := ⟨⟨by decide +kernel, by decide +kernel⟩, List.mem_of_getElem? (i := 276) (by decide +kernel), List.mem_of_getElem? (i := 274) (by decide +kernel), List.mem_of_getElem? (i := 275) (by decide +kernel)⟩
theorem lw_p2 : lw_okq (⟨"EditionEqual", "isNumberOfKind", "(II)Z"⟩, 9) := ⟨⟨by decide +kernel, by decide +kernel⟩, List.mem_of_getElem? (i := 17) (by decide +kernel), List.mem_of_getElem? (i := 306) (by decide +kernel), List.mem_of_getElem? (i := 307) (by decide +kernel)⟩
theorem lw_p3 : lw_okq (⟨"EditionEqual", "forgetAnswers", "()V"⟩, 9) := ⟨⟨by decide +kernel, by decide +kernel⟩, List.mem_of_getElem? (i := 17) (by decide +kernel), List.mem_of_getElem? (i := 331) (by decide +kernel), List.mem_of_getElem? (i := 332) (by decide +kernel)⟩
theorem lw_p4 : lw_okq (⟨"EditionEqual", "checkRow", "(I)V"⟩, 9) := ⟨⟨by decide +kernel, by decide +kernel⟩, List.mem_of_getElem? (i := 17) (by decide +kernel), List.mem_of_getElem? (i := 403) (by decide +kernel), List.mem_of_getElem? (i := 404) (by decide +kernel)⟩
theorem lw_p5 : lw_okq (⟨"EditionEqual$Edition", "firstUnwired", "()I"⟩, 10) := ⟨⟨by decide +kernel, by decide +kernel⟩, List.mem_of_getElem? (i := 31) (by decide +kernel), List.mem_of_getElem? (i := 419) (by decide +kernel), List.mem_of_getElem? (i := 420) (by decide +kernel)⟩
theorem lw_p6 : lw_okq (⟨"EditionEqual$Edition", "firstComingBack", "()I"⟩, 10) := ⟨⟨by decide +kernel, by decide +kernel⟩, List.mem_of_getElem? (i := 31) (by decide +kernel), List.mem_of_getElem? (i := 423) (by decide +kernel), List.mem_of_getElem? (i := 424) (by decide +kernel)⟩
theorem lw_p7 : lw_okq (⟨"EditionEqual", "behaviourOf", "(I)LEditionEqual$Behaviour;"⟩, 9) := ⟨⟨by decide +kernel, by decide +kernel⟩, List.mem_of_getElem? (i := 17) (by decide +kernel), List.mem_of_getElem? (i := 445) (by decide +kernel), List.mem_of_getElem? (i := 446) (by decide +kernel)⟩
theorem lw_p8 : lw_okq (⟨"EditionEqual", "openRows", "()I"⟩, 9) := ⟨⟨by decide +kernel, by decide +kernel⟩, List.mem_of_getElem? (i := 17) (by decide +kernel), List.mem_of_getElem? (i := 450) (by decide +kernel), List.mem_of_getElem? (i := 451) (by decide +kernel)⟩
theorem lw_p9 : lw_okq (⟨"EditionEqual$Behaviour", "orderBlocks", "()V"⟩, 13) := ⟨⟨by decide +kernel, by decide +kernel⟩, List.mem_of_getElem? (i := 72) (by decide +kernel), List.mem_of_getElem? (i := 462) (by decide +kernel), List.mem_of_getElem? (i := 463) (by decide +kernel)⟩
theorem lw_p10 : lw_okq (⟨"EditionEqual$Behaviour", "fillColumns", "(I)V"⟩, 13) := ⟨⟨by decide +kernel, by decide +kernel⟩, List.mem_of_getElem? (i := 72) (by decide +kernel), List.mem_of_getElem? (i := 473) (by decide +kernel), List.mem_of_getElem? (i := 474) (by decide +kernel)⟩
theorem lw_p11 : lw_okq (⟨"EditionEqual$Behaviour", "workOutColumn", "(II)I"⟩, 13) := ⟨⟨by decide +kernel, by decide +kernel⟩, List.mem_of_getElem? (i := 72) (by decide +kernel), List.mem_of_getElem? (i := 477) (by decide +kernel), List.mem_of_getElem? (i := 478) (by decide +kernel)⟩
theorem lw_p12 : lw_okq (⟨"EditionEqual$Behaviour", "columnAt", "(II)I"⟩, 13) := ⟨⟨by decide +kernel, by decide +kernel⟩, List.mem_of_getElem? (i := 72) (by decide +kernel), List.mem_of_getElem? (i := 486) (by decide +kernel), List.mem_of_getElem? (i := 487) (by decide +kernel)⟩
theorem lw_p13 : lw_okq (⟨"EditionEqual$Behaviour", "fillTicks", "(I)V"⟩, 13) := ⟨⟨by decide +kernel, by decide +kernel⟩, List.mem_of_getElem? (i := 72) (by decide +kernel), List.mem_of_getElem? (i := 497) (by decide +kernel), List.mem_of_getElem? (i := 498) (by decide +kernel)⟩
theorem lw_p14 : lw_okq (⟨"EditionEqual$Behaviour", "findReached", "(I)V"⟩, 13) := ⟨⟨by decide +kernel, by decide +kernel⟩, List.mem_of_getElem? (i := 72) (by decide +kernel), List.mem_of_getElem? (i := 510) (by decide +kernel), List.mem_of_getElem? (i := 511) (by decide +kernel)⟩
theorem lw_p15 : lw_okq (⟨"EditionEqual$Behaviour", "placeOf", "(II)I"⟩, 13) := ⟨⟨by decide +kernel, by decide +kernel⟩, List.mem_of_getElem? (i := 72) (by decide +kernel), List.mem_of_getElem? (i := 518) (by decide +kernel), List.mem_of_getElem? (i := 519) (by decide +kernel)⟩
def lw_privs_1 : List (MethodName × Nat) := [(⟨"EditionEqual", "editionOf", "(I)LEditionEqual$Edition;"⟩, 9), (⟨"java/lang/Throwable", "fillInStackTrace", "(I)Ljava/lang/Throwable;"⟩, 6), (⟨"EditionEqual", "isNumberOfKind", "(II)Z"⟩, 9), (⟨"EditionEqual", "forgetAnswers", "()V"⟩, 9), (⟨"EditionEqual", "checkRow", "(I)V"⟩, 9), (⟨"EditionEqual$Edition", "firstUnwired", "()I"⟩, 10), (⟨"EditionEqual$Edition", "firstComingBack", "()I"⟩, 10), (⟨"EditionEqual", "behaviourOf", "(I)LEditionEqual$Behaviour;"⟩, 9), (⟨"EditionEqual", "openRows", "()I"⟩, 9), (⟨"EditionEqual$Behaviour", "orderBlocks", "()V"⟩, 13), (⟨"EditionEqual$Behaviour", "fillColumns", "(I)V"⟩, 13), (⟨"EditionEqual$Behaviour", "workOutColumn", "(II)I"⟩, 13), (⟨"EditionEqual$Behaviour", "columnAt", "(II)I"⟩, 13), (⟨"EditionEqual$Behaviour", "fillTicks", "(I)V"⟩, 13), (⟨"EditionEqual$Behaviour", "findReached", "(I)V"⟩, 13), (⟨"EditionEqual$Behaviour", "placeOf", "(II)I"⟩, 13)]
theorem lw_r1 : ∀ q ∈ lw_privs_1, lw_okq q := List.forall_mem_cons.mpr ⟨lw_p0, List.forall_mem_cons.mpr ⟨lw_p1, List.forall_mem_cons.mpr ⟨lw_p2, List.forall_mem_cons.mpr ⟨lw_p3, List.forall_mem_cons.mpr ⟨lw_p4, List.forall_mem_cons.mpr ⟨lw_p5, List.forall_mem_cons.mpr ⟨lw_p6, List.forall_mem_cons.mpr ⟨lw_p7, List.forall_mem_cons.mpr ⟨lw_p8, List.forall_mem_cons.mpr ⟨lw_p9, List.forall_mem_cons.mpr ⟨lw_p10, List.forall_mem_cons.mpr ⟨lw_p11, List.forall_mem_cons.mpr ⟨lw_p12, List.forall_mem_cons.mpr ⟨lw_p13, List.forall_mem_cons.mpr ⟨lw_p14, List.forall_mem_cons.mpr ⟨lw_p15, fun _ h => absurd h List.not_mem_nil⟩⟩⟩⟩⟩⟩⟩⟩⟩⟩⟩⟩⟩⟩⟩⟩
theorem lw_p16 : lw_okq (⟨"EditionEqual$Behaviour", "partByOuts", "(I)I"⟩, 13) := ⟨⟨by decide +kernel, by decide +kernel⟩, List.mem_of_getElem? (i := 72) (by decide +kernel), List.mem_of_getElem? (i := 576) (by decide +kernel), List.mem_of_getElem? (i := 577) (by decide +kernel)⟩
theorem lw_p17 : lw_okq (⟨"EditionEqual$Behaviour", "partByKeys", "()I"⟩, 13) := ⟨⟨by decide +kernel, by decide +kernel⟩, List.mem_of_getElem? (i := 72) (by decide +kernel), List.mem_of_getElem? (i := 581) (by decide +kernel), List.mem_of_getElem? (i := 582) (by decide +kernel)⟩
theorem lw_p18 : lw_okq (⟨"EditionEqual$Behaviour", "firstLike", "(I)I"⟩, 13) := ⟨⟨by decide +kernel, by decide +kernel⟩, List.mem_of_getElem? (i := 72) (by decide +kernel), List.mem_of_getElem? (i := 585) (by decide +kernel), List.mem_of_getElem? (i := 586) (by decide +kernel)⟩
theorem lw_p19 : lw_okq (⟨"EditionEqual$Behaviour", "partByNextClass", "(I)I"⟩, 13) := ⟨⟨by decide +kernel, by decide +kernel⟩, List.mem_of_getElem? (i := 72) (by decide +kernel), List.mem_of_getElem? (i := 592) (by decide +kernel), List.mem_of_getElem? (i := 593) (by decide +kernel)⟩
theorem lw_p20 : lw_okq (⟨"EditionEqual", "searchOfBoth", "()LEditionEqual$PairSearch;"⟩, 9) := ⟨⟨by decide +kernel, by decide +kernel⟩, List.mem_of_getElem? (i := 17) (by decide +kernel), List.mem_of_getElem? (i := 603) (by decide +kernel), List.mem_of_getElem? (i := 604) (by decide +kernel)⟩
theorem lw_p21 : lw_okq (⟨"EditionEqual", "checkBothRight", "()V"⟩, 9) := ⟨⟨by decide +kernel, by decide +kernel⟩, List.mem_of_getElem? (i := 17) (by decide +kernel), List.mem_of_getElem? (i := 607) (by decide +kernel), List.mem_of_getElem? (i := 608) (by decide +kernel)⟩
theorem lw_p22 : lw_okq (⟨"EditionEqual$PairSearch", "meet", "(IIII)V"⟩, 13) := ⟨⟨by decide +kernel, by decide +kernel⟩, List.mem_of_getElem? (i := 118) (by decide +kernel), List.mem_of_getElem? (i := 617) (by decide +kernel), List.mem_of_getElem? (i := 618) (by decide +kernel)⟩
theorem lw_p23 : lw_okq (⟨"EditionEqual$PairSearch", "goOnFrom", "(II)V"⟩, 13) := ⟨⟨by decide +kernel, by decide +kernel⟩, List.mem_of_getElem? (i := 118) (by decide +kernel), List.mem_of_getElem? (i := 624) (by decide +kernel), List.mem_of_getElem? (i := 625) (by decide +kernel)⟩
theorem lw_p24 : lw_okq (⟨"EditionEqual$PairSearch", "keepShown", "(II)V"⟩, 13) := ⟨⟨by decide +kernel, by decide +kernel⟩, List.mem_of_getElem? (i := 118) (by decide +kernel), List.mem_of_getElem? (i := 629) (by decide +kernel), List.mem_of_getElem? (i := 630) (by decide +kernel)⟩
theorem lw_p25 : lw_okq (⟨"EditionEqual$Matching", "matchBoth", "(II)Z"⟩, 6) := ⟨⟨by decide +kernel, by decide +kernel⟩, List.mem_of_getElem? (i := 164) (by decide +kernel), List.mem_of_getElem? (i := 686) (by decide +kernel), List.mem_of_getElem? (i := 687) (by decide +kernel)⟩
theorem lw_p26 : lw_okq (⟨"EditionEqual$Matching", "areOfOneSort", "(II)Z"⟩, 6) := ⟨⟨by decide +kernel, by decide +kernel⟩, List.mem_of_getElem? (i := 164) (by decide +kernel), List.mem_of_getElem? (i := 691) (by decide +kernel), List.mem_of_getElem? (i := 692) (by decide +kernel)⟩
theorem lw_p27 : lw_okq (⟨"EditionEqual$Edition", "liveBlocks", "()I"⟩, 10) := ⟨⟨by decide +kernel, by decide +kernel⟩, List.mem_of_getElem? (i := 31) (by decide +kernel), List.mem_of_getElem? (i := 722) (by decide +kernel), List.mem_of_getElem? (i := 723) (by decide +kernel)⟩
theorem lw_p28 : lw_okq (⟨"EditionEqualModel", "delays", "(I)I"⟩, 22) := ⟨⟨by decide +kernel, by decide +kernel⟩, List.mem_of_getElem? (i := 734) (by decide +kernel), List.mem_of_getElem? (i := 819) (by decide +kernel), List.mem_of_getElem? (i := 820) (by decide +kernel)⟩
theorem lw_p29 : lw_okq (⟨"EditionEqualModel", "goes", "(ZZ)Z"⟩, 22) := ⟨⟨by decide +kernel, by decide +kernel⟩, List.mem_of_getElem? (i := 734) (by decide +kernel), List.mem_of_getElem? (i := 823) (by decide +kernel), List.mem_of_getElem? (i := 824) (by decide +kernel)⟩
theorem lw_p30 : lw_okq (⟨"EditionEqualModel", "isBlock", "(II)Z"⟩, 22) := ⟨⟨by decide +kernel, by decide +kernel⟩, List.mem_of_getElem? (i := 734) (by decide +kernel), List.mem_of_getElem? (i := 831) (by decide +kernel), List.mem_of_getElem? (i := 832) (by decide +kernel)⟩
theorem lw_p31 : lw_okq (⟨"EditionEqualModel", "input", "(III)I"⟩, 22) := ⟨⟨by decide +kernel, by decide +kernel⟩, List.mem_of_getElem? (i := 734) (by decide +kernel), List.mem_of_getElem? (i := 835) (by decide +kernel), List.mem_of_getElem? (i := 836) (by decide +kernel)⟩
def lw_privs_2 : List (MethodName × Nat) := [(⟨"EditionEqual$Behaviour", "partByOuts", "(I)I"⟩, 13), (⟨"EditionEqual$Behaviour", "partByKeys", "()I"⟩, 13), (⟨"EditionEqual$Behaviour", "firstLike", "(I)I"⟩, 13), (⟨"EditionEqual$Behaviour", "partByNextClass", "(I)I"⟩, 13), (⟨"EditionEqual", "searchOfBoth", "()LEditionEqual$PairSearch;"⟩, 9), (⟨"EditionEqual", "checkBothRight", "()V"⟩, 9), (⟨"EditionEqual$PairSearch", "meet", "(IIII)V"⟩, 13), (⟨"EditionEqual$PairSearch", "goOnFrom", "(II)V"⟩, 13), (⟨"EditionEqual$PairSearch", "keepShown", "(II)V"⟩, 13), (⟨"EditionEqual$Matching", "matchBoth", "(II)Z"⟩, 6), (⟨"EditionEqual$Matching", "areOfOneSort", "(II)Z"⟩, 6), (⟨"EditionEqual$Edition", "liveBlocks", "()I"⟩, 10), (⟨"EditionEqualModel", "delays", "(I)I"⟩, 22), (⟨"EditionEqualModel", "goes", "(ZZ)Z"⟩, 22), (⟨"EditionEqualModel", "isBlock", "(II)Z"⟩, 22), (⟨"EditionEqualModel", "input", "(III)I"⟩, 22)]
theorem lw_r2 : ∀ q ∈ lw_privs_2, lw_okq q := List.forall_mem_cons.mpr ⟨lw_p16, List.forall_mem_cons.mpr ⟨lw_p17, List.forall_mem_cons.mpr ⟨lw_p18, List.forall_mem_cons.mpr ⟨lw_p19, List.forall_mem_cons.mpr ⟨lw_p20, List.forall_mem_cons.mpr ⟨lw_p21, List.forall_mem_cons.mpr ⟨lw_p22, List.forall_mem_cons.mpr ⟨lw_p23, List.forall_mem_cons.mpr ⟨lw_p24, List.forall_mem_cons.mpr ⟨lw_p25, List.forall_mem_cons.mpr ⟨lw_p26, List.forall_mem_cons.mpr ⟨lw_p27, List.forall_mem_cons.mpr ⟨lw_p28, List.forall_mem_cons.mpr ⟨lw_p29, List.forall_mem_cons.mpr ⟨lw_p30, List.forall_mem_cons.mpr ⟨lw_p31, fun _ h => absurd h List.not_mem_nil⟩⟩⟩⟩⟩⟩⟩⟩⟩⟩⟩⟩⟩⟩⟩⟩
theorem lw_p32 : lw_okq (⟨"EditionEqualModel", "isRow", "(I)Z"⟩, 22) := ⟨⟨by decide +kernel, by decide +kernel⟩, List.mem_of_getElem? (i := 734) (by decide +kernel), List.mem_of_getElem? (i := 847) (by decide +kernel), List.mem_of_getElem? (i := 848) (by decide +kernel)⟩
theorem lw_p33 : lw_okq (⟨"EditionEqualModel", "fault", "(I)I"⟩, 22) := ⟨⟨by decide +kernel, by decide +kernel⟩, List.mem_of_getElem? (i := 734) (by decide +kernel), List.mem_of_getElem? (i := 855) (by decide +kernel), List.mem_of_getElem? (i := 856) (by decide +kernel)⟩
theorem lw_p34 : lw_okq (⟨"EditionEqualModel", "isRound", "(II)Z"⟩, 22) := ⟨⟨by decide +kernel, by decide +kernel⟩, List.mem_of_getElem? (i := 734) (by decide +kernel), List.mem_of_getElem? (i := 862) (by decide +kernel), List.mem_of_getElem? (i := 863) (by decide +kernel)⟩
theorem lw_p35 : lw_okq (⟨"EditionEqualModel", "mark", "(II)Z"⟩, 22) := ⟨⟨by decide +kernel, by decide +kernel⟩, List.mem_of_getElem? (i := 734) (by decide +kernel), List.mem_of_getElem? (i := 866) (by decide +kernel), List.mem_of_getElem? (i := 867) (by decide +kernel)⟩
theorem lw_p36 : lw_okq (⟨"EditionEqualModel", "isRight", "(I)Z"⟩, 22) := ⟨⟨by decide +kernel, by decide +kernel⟩, List.mem_of_getElem? (i := 734) (by decide +kernel), List.mem_of_getElem? (i := 874) (by decide +kernel), List.mem_of_getElem? (i := 875) (by decide +kernel)⟩
theorem lw_p37 : lw_okq (⟨"EditionEqualModel", "settle", "(III)V"⟩, 22) := ⟨⟨by decide +kernel, by decide +kernel⟩, List.mem_of_getElem? (i := 734) (by decide +kernel), List.mem_of_getElem? (i := 878) (by decide +kernel), List.mem_of_getElem? (i := 879) (by decide +kernel)⟩
theorem lw_p38 : lw_okq (⟨"EditionEqualModel", "reckon", "(II)I"⟩, 22) := ⟨⟨by decide +kernel, by decide +kernel⟩, List.mem_of_getElem? (i := 734) (by decide +kernel), List.mem_of_getElem? (i := 882) (by decide +kernel), List.mem_of_getElem? (i := 883) (by decide +kernel)⟩
theorem lw_p39 : lw_okq (⟨"EditionEqualModel", "answer", "(III)I"⟩, 22) := ⟨⟨by decide +kernel, by decide +kernel⟩, List.mem_of_getElem? (i := 734) (by decide +kernel), List.mem_of_getElem? (i := 890) (by decide +kernel), List.mem_of_getElem? (i := 891) (by decide +kernel)⟩
theorem lw_p40 : lw_okq (⟨"EditionEqualModel", "explore", "(I)V"⟩, 22) := ⟨⟨by decide +kernel, by decide +kernel⟩, List.mem_of_getElem? (i := 734) (by decide +kernel), List.mem_of_getElem? (i := 898) (by decide +kernel), List.mem_of_getElem? (i := 899) (by decide +kernel)⟩
theorem lw_p41 : lw_okq (⟨"EditionEqualModel", "reachedCount", "(I)I"⟩, 22) := ⟨⟨by decide +kernel, by decide +kernel⟩, List.mem_of_getElem? (i := 734) (by decide +kernel), List.mem_of_getElem? (i := 902) (by decide +kernel), List.mem_of_getElem? (i := 903) (by decide +kernel)⟩
theorem lw_p42 : lw_okq (⟨"EditionEqualModel", "tells", "(III)Z"⟩, 22) := ⟨⟨by decide +kernel, by decide +kernel⟩, List.mem_of_getElem? (i := 734) (by decide +kernel), List.mem_of_getElem? (i := 914) (by decide +kernel), List.mem_of_getElem? (i := 915) (by decide +kernel)⟩
theorem lw_p43 : lw_okq (⟨"EditionEqualModel", "areRight", "()Z"⟩, 22) := ⟨⟨by decide +kernel, by decide +kernel⟩, List.mem_of_getElem? (i := 734) (by decide +kernel), List.mem_of_getElem? (i := 922) (by decide +kernel), List.mem_of_getElem? (i := 923) (by decide +kernel)⟩
theorem lw_p44 : lw_okq (⟨"EditionEqualModel", "goOver", "()V"⟩, 22) := ⟨⟨by decide +kernel, by decide +kernel⟩, List.mem_of_getElem? (i := 734) (by decide +kernel), List.mem_of_getElem? (i := 926) (by decide +kernel), List.mem_of_getElem? (i := 927) (by decide +kernel)⟩
theorem lw_p45 : lw_okq (⟨"EditionEqualModel", "meet", "(III)V"⟩, 22) := ⟨⟨by decide +kernel, by decide +kernel⟩, List.mem_of_getElem? (i := 734) (by decide +kernel), List.mem_of_getElem? (i := 930) (by decide +kernel), List.mem_of_getElem? (i := 931) (by decide +kernel)⟩
theorem lw_p46 : lw_okq (⟨"EditionEqualModel", "shownCount", "()I"⟩, 22) := ⟨⟨by decide +kernel, by decide +kernel⟩, List.mem_of_getElem? (i := 734) (by decide +kernel), List.mem_of_getElem? (i := 934) (by decide +kernel), List.mem_of_getElem? (i := 935) (by decide +kernel)⟩
theorem lw_p47 : lw_okq (⟨"EditionEqualModel", "areSame", "()Z"⟩, 22) := ⟨⟨by decide +kernel, by decide +kernel⟩, List.mem_of_getElem? (i := 734) (by decide +kernel), List.mem_of_getElem? (i := 954) (by decide +kernel), List.mem_of_getElem? (i := 955) (by decide +kernel)⟩
def lw_privs_3 : List (MethodName × Nat) := [(⟨"EditionEqualModel", "isRow", "(I)Z"⟩, 22), (⟨"EditionEqualModel", "fault", "(I)I"⟩, 22), (⟨"EditionEqualModel", "isRound", "(II)Z"⟩, 22), (⟨"EditionEqualModel", "mark", "(II)Z"⟩, 22), (⟨"EditionEqualModel", "isRight", "(I)Z"⟩, 22), (⟨"EditionEqualModel", "settle", "(III)V"⟩, 22), (⟨"EditionEqualModel", "reckon", "(II)I"⟩, 22), (⟨"EditionEqualModel", "answer", "(III)I"⟩, 22), (⟨"EditionEqualModel", "explore", "(I)V"⟩, 22), (⟨"EditionEqualModel", "reachedCount", "(I)I"⟩, 22), (⟨"EditionEqualModel", "tells", "(III)Z"⟩, 22), (⟨"EditionEqualModel", "areRight", "()Z"⟩, 22), (⟨"EditionEqualModel", "goOver", "()V"⟩, 22), (⟨"EditionEqualModel", "meet", "(III)V"⟩, 22), (⟨"EditionEqualModel", "shownCount", "()I"⟩, 22), (⟨"EditionEqualModel", "areSame", "()Z"⟩, 22)]
theorem lw_r3 : ∀ q ∈ lw_privs_3, lw_okq q := List.forall_mem_cons.mpr ⟨lw_p32, List.forall_mem_cons.mpr ⟨lw_p33, List.forall_mem_cons.mpr ⟨lw_p34, List.forall_mem_cons.mpr ⟨lw_p35, List.forall_mem_cons.mpr ⟨lw_p36, List.forall_mem_cons.mpr ⟨lw_p37, List.forall_mem_cons.mpr ⟨lw_p38, List.forall_mem_cons.mpr ⟨lw_p39, List.forall_mem_cons.mpr ⟨lw_p40, List.forall_mem_cons.mpr ⟨lw_p41, List.forall_mem_cons.mpr ⟨lw_p42, List.forall_mem_cons.mpr ⟨lw_p43, List.forall_mem_cons.mpr ⟨lw_p44, List.forall_mem_cons.mpr ⟨lw_p45, List.forall_mem_cons.mpr ⟨lw_p46, List.forall_mem_cons.mpr ⟨lw_p47, fun _ h => absurd h List.not_mem_nil⟩⟩⟩⟩⟩⟩⟩⟩⟩⟩⟩⟩⟩⟩⟩⟩
theorem lw_p48 : lw_okq (⟨"EditionEqualModel", "areSingle", "()Z"⟩, 22) := ⟨⟨by decide +kernel, by decide +kernel⟩, List.mem_of_getElem? (i := 734) (by decide +kernel), List.mem_of_getElem? (i := 958) (by decide +kernel), List.mem_of_getElem? (i := 959) (by decide +kernel)⟩
def lw_privs_4 : List (MethodName × Nat) := [(⟨"EditionEqualModel", "areSingle", "()Z"⟩, 22)]
theorem lw_r4 : ∀ q ∈ lw_privs_4, lw_okq q := List.forall_mem_cons.mpr ⟨lw_p48, fun _ h => absurd h List.not_mem_nil⟩
def lw_privs : List (MethodName × Nat) := lw_privs_1 ++ (lw_privs_2 ++ (lw_privs_3 ++ (lw_privs_4)))
def lw_tbl : List Cond := k2_sels lw_privs ++ tables_1
theorem lw_privs_ok : ∀ q ∈ lw_privs, lw_okq q := by
  show ∀ q ∈ lw_privs_1 ++ (lw_privs_2 ++ (lw_privs_3 ++ (lw_privs_4))), lw_okq q
  exact List.forall_mem_append.mpr ⟨lw_r1, List.forall_mem_append.mpr ⟨lw_r2, List.forall_mem_append.mpr ⟨lw_r3, lw_r4⟩⟩⟩
end
section
/-! the laws of exceptions, out of the printed names of this claim (claim/NAMES.whole.lean.txt) -/
section
def vx_T (XC : String → State → State → Prop) (st : State) (q : Addr) (t : State) (mc ms : Nat) (free : Addr → Prop) : Prop :=
  ∃ (E : String) (ce : Cell) (L : List Loc), XC E st t ∧ t.heap[q]? = some ce ∧ ce.vm = .none ∧ st.vm.findClass E = some ce.cls ∧ st.WarmedH t.vm ∧ st.sameButNew ({ t with vm := st.vm } : State) L mc ms ∧ ∀ z ∈ L, free z.base
end
section
def vx_Q (Qc : Array Value → State → Outcome → State → Prop) (XC : String → State → State → Prop) (mc ms : Nat) (free : Addr → Prop) : Array Value → State → Outcome → State → Prop := fun a st o t =>
  (Qc a st o t ∧ ∃ L, FrameEnd st o t L mc ms ∧ ∀ q ∈ L, free q.base) ∨ ∃ q, o = .threw q ∧ vx_T XC st q t mc ms free
end
section
def vx_W (p : Program) (l : Launch) (e : Env) (R : Room) (s : State) (m : MethodId) (args : Array Value) (below : List Frame) (meth : Method) (c : Code) (H : Heap) (locs : List Loc) (cells slots : Nat) (Q : State → Prop) (g : JFrame) (q : Addr) : Prop :=
  ∀ T : State, T.heap = H → Stand p l e R s m args below meth c T locs cells slots → ∃ t, Steps p.tables e below ((T.setTop g).pushFrame (.throwing q)) t ∧ Q t
end
section
variable {p : Program} {l : Launch} {e : Env} {R : Room} {s : State} {m : MethodId} {args : Array Value} {below : List Frame} {meth : Method} {c : Code} {H : Heap} {locs : List Loc} {cells slots : Nat} {Q : State → Prop}
variable {mc ms : Nat} {free : Addr → Prop} {A0 A1 : Nat → Prop} {H0 : Heap} {a : Array Value} {pc : Nat} {ls : Array Slot} {st0 rest : List Value}
theorem vx_catch {own name : String} {E : String} {ce : Cell} {q : Addr} (hown : s.vm.findClass own = some m.cls) (pre : List ExceptionTableEntry) (x : ExceptionTableEntry) (suf : List ExceptionTableEntry) (hsplit : c.exceptionTable.toList = pre ++ x :: suf)
    (hpass : ∀ z ∈ pre, covers z pc = false ∨ (z.catchType ≠ 0 ∧ ∃ nm : String, (Cond.classLink own z.catchType nm).before args s = true ∧ va_Nc E nm s)) (hx : covers x pc = true) (h0 : x.catchType ≠ 0)
    (hlink : (Cond.classLink own x.catchType name).before args s = true) (hcast : (Cond.castable E name).before args s = true) (hcell : H[q]? = some ce) (hv : ce.vm = .none) (hcl : s.vm.findClass E = some ce.cls)
    (kk : W p l e R s m args below meth c H locs cells slots Q (F0 m x.handlerPc ls [.ref q])) : vx_W p l e R s m args below meth c H locs cells slots Q (F0 m pc ls rest) q := by
  intro T hT X
  have hpl : e.platform.magicAccessors = ({} : Platform).magicAccessors := by rw [X.admits.platform]
  obtain ⟨c3, c4, hc3, hc4, hasg⟩ := Cond.castable_spec hcast
  cases Option.some.inj (hc3.symm.trans hcl)
  obtain ⟨c5, hc5, hcl5⟩ := Cond.classLink_spec hown hlink e.platform hpl
  cases Option.some.inj (hc4.symm.trans hc5)
  obtain ⟨vm', X', st⟩ := X.thenCaughtThrough q (g := F0 m pc ls rest) rfl (Steps.refl _) (by rw [hT]; exact hcell) (by rw [hv]; rfl) (by obtain ⟨k9, h9, -⟩ := Vm.findClass_spec hcl; exact ⟨k9, h9⟩) pre x suf hsplit
    (fun z hz => by
      rcases hpass z hz with h | ⟨hz0, nm, hl1, hn1⟩
      · exact Or.inl h
      · obtain ⟨c6, hc6, hcl6⟩ := Cond.classLink_spec hown hl1 e.platform hpl
        obtain ⟨a8, b8, h1, h2, h3⟩ := hn1
        cases Option.some.inj (h1.symm.trans hcl)
        cases Option.some.inj (h2.symm.trans hc6)
        exact Or.inr ⟨hz0, _, hcl6, h3⟩) hx (Or.inr ⟨h0, c4, hcl5, hasg⟩)
  obtain ⟨t, a1, b1⟩ := kk (T.setVm vm') hT X'
  exact ⟨t, st.trans a1, b1⟩
end
section
variable {p : Program} {l : Launch} {e : Env} {R : Room} {s : State} {m : MethodId} {args : Array Value} {below : List Frame} {meth : Method} {c : Code} {H : Heap} {locs : List Loc} {cells slots : Nat} {Q : State → Prop}
variable {mc ms : Nat} {free : Addr → Prop} {A0 A1 : Nat → Prop} {H0 : Heap} {a : Array Value} {ls : Array Slot} {st0 rest : List Value}
variable {Qc : Array Value → State → Outcome → State → Prop} {XC : String → State → State → Prop}
def vx_MQ (below : List Frame) (Qc : Array Value → State → Outcome → State → Prop) (XC : String → State → State → Prop) (a : Array Value) (s : State) (mc ms : Nat) (free : Addr → Prop) : State → Prop := fun t =>
  ∃ o, t.status = .running ∧ Ended t below o ∧ vx_Q Qc XC mc ms free a s o t
end
section
variable {p : Program} {l : Launch} {e : Env} {R : Room} {s : State} {m : MethodId} {args : Array Value} {below : List Frame} {meth : Method} {c : Code} {H : Heap} {locs : List Loc} {cells slots : Nat} {Q : State → Prop}
variable {mc ms : Nat} {free : Addr → Prop} {A0 A1 : Nat → Prop} {H0 : Heap} {a : Array Value} {ls : Array Slot} {st0 rest : List Value}
variable {Qc : Array Value → State → Outcome → State → Prop} {XC : String → State → State → Prop}
theorem vx_frame {U : State} {k n : Nat} (h : s.sameButNew ({ U with vm := s.vm } : State) locs k n) : s.heap.size ≤ U.heap.size ∧ ∀ q : Nat, q < s.heap.size → (∀ z ∈ locs, z.base ≠ q) → U.heap[q]? = s.heap[q]? := by
  obtain ⟨-, h2, -, -, -, h6⟩ := h
  refine ⟨h2, fun q hq hz => ?_⟩
  obtain ⟨c9, e1, e2, e3, e4⟩ := h6 q _ (Array.getElem?_eq_getElem hq)
  have hs : c9.slots = (s.heap[q]).slots := Array.ext_getElem? fun i => e4 i fun hm => hz _ hm rfl
  have h9 : c9 = s.heap[q] := by
    rw [hs] at e2
    exact e2
  have e5 : U.heap[q]? = some c9 := e1
  rw [e5, h9, Array.getElem?_eq_getElem hq]
end
section
variable {p : Program} {l : Launch} {e : Env} {R : Room} {s : State} {m : MethodId} {args : Array Value} {below : List Frame} {meth : Method} {c : Code} {H : Heap} {locs : List Loc} {cells slots : Nat} {Q : State → Prop}
variable {mc ms : Nat} {free : Addr → Prop} {A0 A1 : Nat → Prop} {H0 : Heap} {a : Array Value} {ls : Array Slot} {st0 rest : List Value}
variable {Qc : Array Value → State → Outcome → State → Prop} {XC : String → State → State → Prop}
def vx_no (w : Cond) : Bool := decide (w ≠ .isRef (.static Bundle.tN "UNASSIGNED_STACK" Bundle.steD)) && decide (w ≠ .isRef (.static Bundle.tN "SUPPRESSED_SENTINEL" Bundle.listD)) && decide (w ≠ .laysStatic Bundle.tN "UNASSIGNED_STACK" Bundle.steD) && decide (w ≠ .laysStatic Bundle.tN "SUPPRESSED_SENTINEL" Bundle.listD)
end
section
variable {p : Program} {l : Launch} {e : Env} {R : Room} {s : State} {m : MethodId} {args : Array Value} {below : List Frame} {meth : Method} {c : Code} {H : Heap} {locs : List Loc} {cells slots : Nat} {Q : State → Prop}
variable {mc ms : Nat} {free : Addr → Prop} {A0 A1 : Nat → Prop} {H0 : Heap} {a : Array Value} {ls : Array Slot} {st0 rest : List Value}
variable {Qc : Array Value → State → Outcome → State → Prop} {XC : String → State → State → Prop}
def vx_atS (own : String) (ic : Nat) (X : String) (names : List String) : List Cond := (Bundle.ownAtoms own ic X names).filter vx_no
end
section
variable {p : Program} {l : Launch} {e : Env} {R : Room} {s : State} {m : MethodId} {args : Array Value} {below : List Frame} {meth : Method} {c : Code} {H : Heap} {locs : List Loc} {cells slots : Nat} {Q : State → Prop}
variable {mc ms : Nat} {free : Addr → Prop} {A0 A1 : Nat → Prop} {H0 : Heap} {a : Array Value} {ls : Array Slot} {st0 rest : List Value}
variable {Qc : Array Value → State → Outcome → State → Prop} {XC : String → State → State → Prop}
def vx_ot (w : Cond) : Bool := w.onTables || goodWord w
end
section
variable {p : Program} {l : Launch} {e : Env} {R : Room} {s : State} {m : MethodId} {args : Array Value} {below : List Frame} {meth : Method} {c : Code} {H : Heap} {locs : List Loc} {cells slots : Nat} {Q : State → Prop}
variable {mc ms : Nat} {free : Addr → Prop} {A0 A1 : Nat → Prop} {H0 : Heap} {a : Array Value} {ls : Array Slot} {st0 rest : List Value}
variable {Qc : Array Value → State → Outcome → State → Prop} {XC : String → State → State → Prop}
theorem vx_ot_at {args a' : Array Value} {s U : State} {w : Cond} (hW : s.WarmedH U.vm) (hvm : s.vm = U.vm) (hg : vx_ot w = true) (h : w.before args s = true) : w.before a' U = true := by
  simp only [vx_ot, Bool.or_eq_true] at hg
  rcases hg with hg | hg
  · exact va_tabs hg hvm h
  · exact word_at hW (good_of_word hg) h
end
section
variable {p : Program} {l : Launch} {e : Env} {R : Room} {s : State} {m : MethodId} {args : Array Value} {below : List Frame} {meth : Method} {c : Code} {H : Heap} {locs : List Loc} {cells slots : Nat} {Q : State → Prop}
variable {mc ms : Nat} {free : Addr → Prop} {A0 A1 : Nat → Prop} {H0 : Heap} {a : Array Value} {ls : Array Slot} {st0 rest : List Value}
variable {Qc : Array Value → State → Outcome → State → Prop} {XC : String → State → State → Prop}
theorem vx_own {args : Array Value} {s : State} {L : List Cond} (h1 : ∀ w ∈ L.filter vx_no, w.before args s = true)
    (hU : (Cond.isRef (.static Bundle.tN "UNASSIGNED_STACK" Bundle.steD)).before args s = true) (hN : (Cond.isRef (.static Bundle.tN "SUPPRESSED_SENTINEL" Bundle.listD)).before args s = true)
    (lU : (Cond.laysStatic Bundle.tN "UNASSIGNED_STACK" Bundle.steD).before args s = true) (lN : (Cond.laysStatic Bundle.tN "SUPPRESSED_SENTINEL" Bundle.listD).before args s = true) : ∀ w ∈ L, w.before args s = true := by
  intro w hw
  by_cases e1 : w = .isRef (.static Bundle.tN "UNASSIGNED_STACK" Bundle.steD)
  · rw [e1]; exact hU
  · by_cases e2 : w = .isRef (.static Bundle.tN "SUPPRESSED_SENTINEL" Bundle.listD)
    · rw [e2]; exact hN
    · by_cases e3 : w = .laysStatic Bundle.tN "UNASSIGNED_STACK" Bundle.steD
      · rw [e3]; exact lU
      · by_cases e4 : w = .laysStatic Bundle.tN "SUPPRESSED_SENTINEL" Bundle.listD
        · rw [e4]; exact lN
        · exact h1 w (List.mem_filter.mpr ⟨hw, by unfold vx_no; rw [decide_eq_true e1, decide_eq_true e2, decide_eq_true e3, decide_eq_true e4]; rfl⟩)
end
section
variable {p : Program} {l : Launch} {e : Env} {R : Room} {s : State} {m : MethodId} {args : Array Value} {below : List Frame} {meth : Method} {c : Code} {H : Heap} {locs : List Loc} {cells slots : Nat} {Q : State → Prop}
variable {mc ms : Nat} {free : Addr → Prop} {A0 A1 : Nat → Prop} {H0 : Heap} {a : Array Value} {ls : Array Slot} {st0 rest : List Value}
variable {Qc : Array Value → State → Outcome → State → Prop} {XC : String → State → State → Prop}
def vx_L (C n d : String) (A : Nat → Prop) (U : State) (H : Heap) : Prop := ∃ (c : ClassId) (k : Class) (i : Nat) (f : Field) (a : Nat) (cell : Cell), U.vm.findClass C = some c ∧ U.fieldFound? C n d = some (c, k, i, f) ∧ f.isStatic = true ∧ k.statics = some a ∧ H[a]? = some cell ∧ cell.vm.isStatics = true ∧ cell.cls = c ∧ f.slot < cell.slots.size ∧ k.staticTypes[f.slot]? = some f.type ∧ ¬ A a
end
section
variable {p : Program} {l : Launch} {e : Env} {R : Room} {s : State} {m : MethodId} {args : Array Value} {below : List Frame} {meth : Method} {c : Code} {H : Heap} {locs : List Loc} {cells slots : Nat} {Q : State → Prop}
variable {mc ms : Nat} {free : Addr → Prop} {A0 A1 : Nat → Prop} {H0 : Heap} {a : Array Value} {ls : Array Slot} {st0 rest : List Value}
variable {Qc : Array Value → State → Outcome → State → Prop} {XC : String → State → State → Prop}
theorem vx_L.moved {C n d : String} {A : Nat → Prop} {u U : State} {H : Heap} (hvm : u.vm.Alike U.vm) (h : vx_L C n d A u H) : vx_L C n d A U H := by
  obtain ⟨c, k, i, f, a, cell, h1, h2, h3, h4, h5, h6, h7, h8, h9, h10⟩ := h
  obtain ⟨k', hi', he⟩ := State.fieldFound?_setVm hvm h2
  exact ⟨c, k', i, f, a, cell, by rw [hvm.findClass]; exact h1, hi', h3, by rw [he]; exact h4, h5, h6, h7, h8, by rw [he]; exact h9, h10⟩
end
section
variable {p : Program} {l : Launch} {e : Env} {R : Room} {s : State} {m : MethodId} {args : Array Value} {below : List Frame} {meth : Method} {c : Code} {H : Heap} {locs : List Loc} {cells slots : Nat} {Q : State → Prop}
variable {mc ms : Nat} {free : Addr → Prop} {A0 A1 : Nat → Prop} {H0 : Heap} {a : Array Value} {ls : Array Slot} {st0 rest : List Value}
variable {Qc : Array Value → State → Outcome → State → Prop} {XC : String → State → State → Prop}
theorem vx_L.kept {C n d : String} {A : Nat → Prop} {U : State} {H H1 : Heap} (h : vx_L C n d A U H) (hq : ∀ a : Nat, a < H.size → ¬ A a → H1[a]? = H[a]?) : vx_L C n d A U H1 := by
  obtain ⟨c, k, i, f, a, cell, h1, h2, h3, h4, h5, h6, h7, h8, h9, h10⟩ := h
  exact ⟨c, k, i, f, a, cell, h1, h2, h3, h4, by rw [hq a (Array.getElem?_eq_some_iff.mp h5).1 h10]; exact h5, h6, h7, h8, h9, h10⟩
end
section
variable {p : Program} {l : Launch} {e : Env} {R : Room} {s : State} {m : MethodId} {args : Array Value} {below : List Frame} {meth : Method} {c : Code} {H : Heap} {locs : List Loc} {cells slots : Nat} {Q : State → Prop}
variable {mc ms : Nat} {free : Addr → Prop} {A0 A1 : Nat → Prop} {H0 : Heap} {a : Array Value} {ls : Array Slot} {st0 rest : List Value}
variable {Qc : Array Value → State → Outcome → State → Prop} {XC : String → State → State → Prop}
theorem vx_L.narrow {C n d : String} {A B : Nat → Prop} {U : State} {H : Heap} (h : vx_L C n d A U H) (hAB : ∀ q, B q → A q) : vx_L C n d B U H := by
  obtain ⟨c, k, i, f, a, cell, h1, h2, h3, h4, h5, h6, h7, h8, h9, h10⟩ := h
  exact ⟨c, k, i, f, a, cell, h1, h2, h3, h4, h5, h6, h7, h8, h9, fun z => h10 (hAB _ z)⟩
end
section
variable {p : Program} {l : Launch} {e : Env} {R : Room} {s : State} {m : MethodId} {args : Array Value} {below : List Frame} {meth : Method} {c : Code} {H : Heap} {locs : List Loc} {cells slots : Nat} {Q : State → Prop}
variable {mc ms : Nat} {free : Addr → Prop} {A0 A1 : Nat → Prop} {H0 : Heap} {a : Array Value} {ls : Array Slot} {st0 rest : List Value}
variable {Qc : Array Value → State → Outcome → State → Prop} {XC : String → State → State → Prop}
theorem vx_L.word {C n d : String} {A : Nat → Prop} {s : State} {args : Array Value} (h : vx_L C n d A s s.heap) : (Cond.laysStatic C n d).before args s = true := by
  obtain ⟨c, k, i, f, a, cell, h1, h2, h3, h4, h5, h6, h7, h8, h9, -⟩ := h
  show (Cond.laysStatic C n d).holds args s none s [] = true
  exact Cond.laysStatic_of h1 h2 h3 h4 h5 h6 h7 h8 h9
end
section
variable {p : Program} {l : Launch} {e : Env} {R : Room} {s : State} {m : MethodId} {args : Array Value} {below : List Frame} {meth : Method} {c : Code} {H : Heap} {locs : List Loc} {cells slots : Nat} {Q : State → Prop}
variable {mc ms : Nat} {free : Addr → Prop} {A0 A1 : Nat → Prop} {H0 : Heap} {a : Array Value} {ls : Array Slot} {st0 rest : List Value}
variable {Qc : Array Value → State → Outcome → State → Prop} {XC : String → State → State → Prop}
def vx_Zq (C n d : String) (A : Nat → Prop) (U : State) (H : Heap) : Prop := va_Zq C n d A U H ∧ vx_L C n d A U H
end
section
variable {p : Program} {l : Launch} {e : Env} {R : Room} {s : State} {m : MethodId} {args : Array Value} {below : List Frame} {meth : Method} {c : Code} {H : Heap} {locs : List Loc} {cells slots : Nat} {Q : State → Prop}
variable {mc ms : Nat} {free : Addr → Prop} {A0 A1 : Nat → Prop} {H0 : Heap} {a : Array Value} {ls : Array Slot} {st0 rest : List Value}
variable {Qc : Array Value → State → Outcome → State → Prop} {XC : String → State → State → Prop}
theorem vx_Zq.moved {C n d : String} {A : Nat → Prop} {u U : State} {H : Heap} (hvm : u.vm.Alike U.vm) (h : vx_Zq C n d A u H) : vx_Zq C n d A U H := ⟨va_Zq.moved hvm h.1, vx_L.moved hvm h.2⟩
end
section
variable {p : Program} {l : Launch} {e : Env} {R : Room} {s : State} {m : MethodId} {args : Array Value} {below : List Frame} {meth : Method} {c : Code} {H : Heap} {locs : List Loc} {cells slots : Nat} {Q : State → Prop}
variable {mc ms : Nat} {free : Addr → Prop} {A0 A1 : Nat → Prop} {H0 : Heap} {a : Array Value} {ls : Array Slot} {st0 rest : List Value}
variable {Qc : Array Value → State → Outcome → State → Prop} {XC : String → State → State → Prop}
theorem vx_Zq.kept {C n d : String} {A : Nat → Prop} {U : State} {H H1 : Heap} (h : vx_Zq C n d A U H) (hq : ∀ a : Nat, a < H.size → ¬ A a → H1[a]? = H[a]?) : vx_Zq C n d A U H1 := ⟨va_Zq.kept h.1 hq, vx_L.kept h.2 hq⟩
end
section
variable {p : Program} {l : Launch} {e : Env} {R : Room} {s : State} {m : MethodId} {args : Array Value} {below : List Frame} {meth : Method} {c : Code} {H : Heap} {locs : List Loc} {cells slots : Nat} {Q : State → Prop}
variable {mc ms : Nat} {free : Addr → Prop} {A0 A1 : Nat → Prop} {H0 : Heap} {a : Array Value} {ls : Array Slot} {st0 rest : List Value}
variable {Qc : Array Value → State → Outcome → State → Prop} {XC : String → State → State → Prop}
theorem vx_Zq.narrow {C n d : String} {A B : Nat → Prop} {U : State} {H : Heap} (h : vx_Zq C n d A U H) (hAB : ∀ q, B q → A q) : vx_Zq C n d B U H := ⟨va_Zq.narrow h.1 hAB, vx_L.narrow h.2 hAB⟩
end
section
variable {p : Program} {l : Launch} {e : Env} {R : Room} {s : State} {m : MethodId} {args : Array Value} {below : List Frame} {meth : Method} {c : Code} {H : Heap} {locs : List Loc} {cells slots : Nat} {Q : State → Prop}
variable {mc ms : Nat} {free : Addr → Prop} {A0 A1 : Nat → Prop} {H0 : Heap} {a : Array Value} {ls : Array Slot} {st0 rest : List Value}
variable {Qc : Array Value → State → Outcome → State → Prop} {XC : String → State → State → Prop}
theorem vx_Zqof {args : Array Value} {s : State} {C n d : String} {A : Nat → Prop} (hl : (Cond.laysStatic C n d).before args s = true) (hini : (Cond.initialized C).before args s = true) (h : (Cond.isRef (.static C n d)).before args s = true) (hA : ∀ a : Nat, a < s.heap.size → ¬ A a) : vx_Zq C n d A s s.heap := by
  refine ⟨va_Zqof hl hini h hA, ?_⟩
  obtain ⟨c, k, i, f, a, cell, h1, h2, h3, h4, h5, h6, h7, h8, h9⟩ := Cond.laysStatic_spec hl
  exact ⟨c, k, i, f, a, cell, h1, h2, h3, h4, h5, h6, h7, h8, h9, hA a (Array.getElem?_eq_some_iff.mp h5).1⟩
end
section
variable {p : Program} {l : Launch} {e : Env} {R : Room} {s : State} {m : MethodId} {args : Array Value} {below : List Frame} {meth : Method} {c : Code} {H : Heap} {locs : List Loc} {cells slots : Nat} {Q : State → Prop}
variable {mc ms : Nat} {free : Addr → Prop} {A0 A1 : Nat → Prop} {H0 : Heap} {a : Array Value} {ls : Array Slot} {st0 rest : List Value}
variable {Qc : Array Value → State → Outcome → State → Prop} {XC : String → State → State → Prop}
theorem vx_isRef {C n d : String} {v : Value} {A : Nat → Prop} {s : State} {args : Array Value} (h : va_Z C n d v A s s.heap) (hv : v.isRef = true) : (Cond.isRef (.static C n d)).before args s = true := by
  obtain ⟨cf, kf, fi, f, a, cell, h1, h2, h3, h4, h5, h6, h7, -⟩ := h
  have he : (Term.static C n d).eval args s none [] s = some v := by
    simp [Term.eval, State.fieldNamed?, h1, h2, h4, h5, h6, h7]
  simp only [Cond.before, Cond.holds, Cond.value, he]
  cases v <;> simp_all [Value.isRef]
end
section
variable {p : Program} {l : Launch} {e : Env} {R : Room} {s : State} {m : MethodId} {args : Array Value} {below : List Frame} {meth : Method} {c : Code} {H : Heap} {locs : List Loc} {cells slots : Nat} {Q : State → Prop}
variable {mc ms : Nat} {free : Addr → Prop} {A0 A1 : Nat → Prop} {H0 : Heap} {a : Array Value} {ls : Array Slot} {st0 rest : List Value}
variable {Qc : Array Value → State → Outcome → State → Prop} {XC : String → State → State → Prop}
theorem vx_isRefq {C n d : String} {A : Nat → Prop} {s : State} {args : Array Value} (h : va_Zq C n d A s s.heap) : (Cond.isRef (.static C n d)).before args s = true := by
  rcases h with h | ⟨t, h⟩
  · exact vx_isRef h rfl
  · exact vx_isRef h rfl
end
section
variable {p : Program} {l : Launch} {e : Env} {R : Room} {s : State} {m : MethodId} {args : Array Value} {below : List Frame} {meth : Method} {c : Code} {H : Heap} {locs : List Loc} {cells slots : Nat} {Q : State → Prop}
variable {mc ms : Nat} {free : Addr → Prop} {A0 A1 : Nat → Prop} {H0 : Heap} {a : Array Value} {ls : Array Slot} {st0 rest : List Value}
variable {Qc : Array Value → State → Outcome → State → Prop} {XC : String → State → State → Prop}
theorem vx_rebase {T : State} (X : Stand p l e R s m args below meth c T locs cells slots) {R' : Room} (hf : R'.frames ≤ R.frames) (hl : R'.locals ≤ R.locals) (hc : cells + R'.cells ≤ R.cells) (hs : slots + R'.slots ≤ R.slots) :
    Stand p l e R' ((T.setVm s.vm).setFrames (.invoking m args :: below)) m args below meth c T [] 0 0 := by
  have htop : (T.setVm s.vm).topJava?.isSome := X.here.top
  have hF : ((T.setVm s.vm).setFrames (.invoking m args :: below)).frames = .invoking m args :: below := State.frames_setFrames _ (State.cur_lt_of_top htop)
  obtain ⟨g₀, hg0⟩ := Option.isSome_iff_exists.mp htop
  obtain ⟨r, hr⟩ := State.topJava?_eq_some.mp hg0
  have hl9 : e.platform.stackLimits (T.setVm s.vm).me = e.platform.stackLimits s.me := X.limits
  have hb9 : (T.setVm s.vm).me.stackBytes = s.me.stackBytes := X.bytes
  refine ⟨X.admits, X.cas, X.clock, hF, ?_, X.hears, X.method, X.code, X.here, X.tail, X.warmed, ?_, ?_, ?_⟩
  · have h := X.room
    have hU : ((T.setVm s.vm).setFrames (.invoking m args :: below)).localsInUse = s.localsInUse := by
      rw [State.localsInUse_invoking hF (meth := meth) (c := c) X.method X.code, State.localsInUse_invoking X.frames X.method X.code]
    simp only [State.hasRoom, Bool.and_eq_true, decide_eq_true_eq] at h ⊢
    obtain ⟨⟨⟨⟨h1, h2, h3, h4, h5, h6⟩, h7⟩, h8⟩, h9⟩ := h
    rw [X.frames, List.length_cons] at h2 h3
    have q1 := X.heapSize
    have q2 := X.used
    simp only [hF, hU, List.length_cons, State.stackLimits_setFrames, State.stackBytes_setFrames, hl9, hb9]
    refine ⟨⟨⟨⟨by omega, by omega, by omega, by omega, by omega, h6⟩, ?_⟩, ?_⟩, X.book⟩
    · show T.heap.size + R'.cells ≤ e.platform.maxCells
      omega
    · show T.slotsUsed + R'.slots ≤ e.platform.maxSlots
      omega
  · rw [State.stackLimits_setFrames]; rfl
  · rw [State.stackBytes_setFrames]; rfl
  · refine ⟨?_, Nat.le_refl _, Nat.le_refl _, ?_, ?_, fun a c9 h9 => ⟨c9, h9, rfl, rfl, fun _ _ => rfl⟩⟩
    · obtain ⟨t, ht, -⟩ := State.frames_cons hr
      show T.setVm s.vm = { ((T.setVm s.vm).setFrames (.invoking m args :: below)).setFrames (T.setVm s.vm).frames with heap := T.heap, slotsUsed := T.slotsUsed }
      rw [State.setFrames_setFrames, State.setFrames_self ht]
      rfl
    · show T.slotsUsed = T.slotsUsed + ((T.heap.toList.drop T.heap.size).map (·.slots.size)).sum
      rw [List.drop_eq_nil_of_le (Nat.le_of_eq Array.length_toList)]
      rfl
    · show ((T.heap.toList.drop T.heap.size).map (·.slots.size)).sum ≤ 0
      rw [List.drop_eq_nil_of_le (Nat.le_of_eq Array.length_toList)]
      exact Nat.le_refl _
end
section
variable {p : Program} {l : Launch} {e : Env} {R : Room} {s : State} {m : MethodId} {args : Array Value} {below : List Frame} {meth : Method} {c : Code} {H : Heap} {locs : List Loc} {cells slots : Nat} {Q : State → Prop}
variable {mc ms : Nat} {free : Addr → Prop} {A0 A1 : Nat → Prop} {H0 : Heap} {a : Array Value} {ls : Array Slot} {st0 rest : List Value}
variable {Qc : Array Value → State → Outcome → State → Prop} {XC : String → State → State → Prop}
theorem vx_throwS {cc : ByteArray} {pc : Nat} (hexec : p.tables.exec = Jvm.exec) (hb : c.code = cc) (hl : l.stackTraces = false) {own cls text : String} {names : List String} {ik is ic mc ms sa : Nat} {A : Nat → Prop}
    (hown : s.vm.findClass own = some m.cls) (hcls : Bundle.fit cls = true) (hnames : ∀ n ∈ names, Bundle.fit n = true)
    (hk : (Cond.classLink own ik cls).before args s = true) (hini : (Cond.initialized cls).before args s = true) (hstr : vk_R own is text sa s) (hat : ∀ w ∈ vx_atS own ic cls names, w.before args s = true)
    (hgood : ∀ w ∈ Cond.classLink own ik cls :: Cond.initialized cls :: vx_atS own ic cls names, vx_ot w = true)
    (hU : vx_Zq Bundle.tN "UNASSIGNED_STACK" Bundle.steD A s s.heap) (hN : vx_Zq Bundle.tN "SUPPRESSED_SENTINEL" Bundle.listD A s s.heap) (hS : va_S A s.heap H locs) (hsize : ls.size = c.maxLocals)
    (d0 : decode cc pc = .ok (.new ik, 3)) (d3 : decode cc (pc + 3) = .ok (.dup, 1)) (d4 : decode cc (pc + 4) = .ok (.ldc is, 2)) (d6 : decode cc (pc + 6) = .ok (.invokespecial ic, 3)) (d9 : decode cc (pc + 9) = .ok (.athrow, 1))
    (hout : ∀ x ∈ c.exceptionTable.toList, covers x (pc + 9) = false)
    (hRframes : names.length + 3 < R.frames) (hRlocals : (rest.map fun v => v.category).sum + (13 * (names.length + 1) + 43) ≤ R.locals) (hRcells : cells + 1 ≤ R.cells) (hRslots : slots + 6 ≤ R.slots) (hlocks : meth.locks = false)
    (hx : ∀ t : State, s.vm.Alike t.vm → H.size ≤ t.heap.size → (∀ q : Nat, q < H.size → t.heap[q]? = H[q]?) → XC cls s t)
    (hf : ∀ z ∈ locs, free z.base) (hc : cells + 1 ≤ mc) (hs : slots + 6 ≤ ms) :
    W p l e R s m args below meth c H locs cells slots (vx_MQ below Qc XC args s mc ms free) (F0 m pc ls rest) := by
  intro T hT X
  have htr : e.platform.stackTraces = false := (show e.platform.stackTraces = l.stackTraces by rw [X.admits.platform]).trans hl
  have Y := vx_rebase X (R' := { frames := R.frames, locals := R.locals, cells := 1, slots := 6 }) (Nat.le_refl _) (Nat.le_refl _) hRcells hRslots
  obtain ⟨s', hA⟩ : ∃ z, z = (T.setVm s.vm).setFrames (.invoking m args :: below) := ⟨_, rfl⟩
  rw [← hA] at Y
  have hvm : s'.vm = s.vm := by rw [hA]; rfl
  have hhp : s'.heap = H := by rw [hA]; exact hT
  have hW0 : s.WarmedH s'.vm := by rw [hvm]; exact State.WarmedH.refl s
  have hat' : ∀ w ∈ vx_atS own ic cls names, w.before args s' = true := fun w hw => vx_ot_at hW0 hvm.symm (hgood w (List.mem_cons_of_mem _ (List.mem_cons_of_mem _ hw))) (hat w hw)
  have hk' : (Cond.classLink own ik cls).before args s' = true := vx_ot_at hW0 hvm.symm (hgood _ List.mem_cons_self) hk
  have hini' : (Cond.initialized cls).before args s' = true := vx_ot_at hW0 hvm.symm (hgood _ (List.mem_cons_of_mem _ List.mem_cons_self)) hini
  have hU' : vx_Zq Bundle.tN "UNASSIGNED_STACK" Bundle.steD A s' s'.heap := by rw [hhp]; exact vx_Zq.moved hW0.alike (hU.kept hS.2.1)
  have hN' : vx_Zq Bundle.tN "SUPPRESSED_SENTINEL" Bundle.listD A s' s'.heap := by rw [hhp]; exact vx_Zq.moved hW0.alike (hN.kept hS.2.1)
  have h : ∀ w ∈ Bundle.ownAtoms own ic cls names, w.before args s' = true := vx_own hat' (vx_isRefq hU'.1) (vx_isRefq hN'.1) hU'.2.word hN'.2.word
  have hown' : s'.vm.findClass own = some m.cls := by rw [hvm]; exact hown
  have hins : (Cond.instantiable cls 6).before args s' = true := h _ (by simp [Bundle.ownAtoms])
  obtain ⟨vm₁, cX, kX, hfX, hkX, -, -, X₁, st1⟩ := Y.newCold hexec (own := own) (C := cls) (index := ik) (n := 6) hown' hk' hins hini'
    (g := F0 m pc ls rest) rfl (by rw [hb]; exact d0) (Nat.le_refl _) (Nat.le_refl _)
  generalize hT1 : (T.setVm vm₁).pushCell { cls := cX, slots := kX.instanceTypes.map defaultValue, vm := .none } = T1 at X₁ st1
  have hcat : (Value.ref T.heap.size).category = 1 := rfl
  have hcellA : T1.heap[T.heap.size]? = some (freshCell cX kX) := by rw [← hT1]; exact State.heap_pushCell_size _ _
  have d3' : decode c.code (pc + 3) = .ok (.dup, 1) := by rw [hb]; exact d3
  have d4' : decode c.code (pc + 4) = .ok (.ldc is, 2) := by rw [hb]; exact d4
  have hstr' : vk_R own is text sa s' := vk_R.warm hW0 hstr
  obtain ⟨U, hsteps, hrun, hend, hW, hsame, ce, hce, hO⟩ := X₁.ctorThrowS hexec htr (own := own) (cls := cls) (names := names) (ic := ic) hown' hcls hnames h (fun x hx => nomatch hx) hfX hkX hcellA (by rw [hhp, hT]; exact Nat.le_refl _) (msg := .ref sa) rfl
    (g := { method := m, pc := pc + 6, locals := ls, stack := .ref sa :: .ref T.heap.size :: .ref T.heap.size :: rest, locked := none }) rfl hsize rfl rfl (rest := rest) rfl
    (by rw [hb]; exact d6) (by rw [hb]; exact d9) hout hRframes (by simp only [List.map_cons, List.sum_cons, hcat]; omega) hlocks
  obtain ⟨f1, f2⟩ := vx_frame hsame
  rw [hhp] at f1 f2
  have hWs : s.WarmedH U.vm := State.WarmedH.trans hW0 hW
  have hcl : s.vm.findClass cls = some ce.cls := by
    have h9 := hO.cls
    rw [hvm] at h9
    exact h9
  have hall : s.sameButNew ({ U with vm := s.vm } : State) locs mc ms := by
    subst hA
    obtain ⟨e1, e2⟩ := hsame
    rw [State.setFrames_setFrames] at e1
    have h2 : (T.setVm s.vm).sameButNew ({ U with vm := s.vm } : State) [] (0 + 1) (0 + 6) := ⟨e1, e2⟩
    have h3 := X.same.trans h2
    rw [List.append_nil] at h3
    exact h3.mono hc hs
  refine ⟨U, ?_, .threw T.heap.size, hrun, hend, Or.inr ⟨T.heap.size, rfl, cls, ce, locs, hx U hWs.alike f1 (fun q hq => f2 q hq (fun z hz => nomatch hz)), hce, hO.vm, hcl, hWs, hall, hf⟩⟩
  refine st1 _ ?_
  show Steps p.tables e below (T1.setTop { method := m, pc := pc + 3, locals := ls, stack := .ref T.heap.size :: rest, locked := none }) _
  jvm_step X₁.here [X₁.here.top, hexec, d3', Value.category]
  exact X₁.ldcString hexec (own := own) (text := text) (index := is) (a := sa) hown' hstr'.1 hstr'.2
    (g := { method := m, pc := pc + 4, locals := ls, stack := .ref T.heap.size :: .ref T.heap.size :: rest, locked := none }) rfl d4' _ hsteps
end
end
section
/-! ===== classes: their fields; methods: name, bytes, locals, answer, handlers, room ===== -/
def T_EE : u_T := fun k => match k with
  | 0 => ("EditionEqual", "pointCount", "I", true)
  | 1 => ("EditionEqual", "rowCount", "I", true)
  | 2 => ("EditionEqual", "firstEdition", "LEditionEqual$Edition;", true)
  | 3 => ("EditionEqual", "secondEdition", "LEditionEqual$Edition;", true)
  | 4 => ("EditionEqual", "firstBehaviour", "LEditionEqual$Behaviour;", true)
  | 5 => ("EditionEqual", "secondBehaviour", "LEditionEqual$Behaviour;", true)
  | 6 => ("EditionEqual", "search", "LEditionEqual$PairSearch;", true)
  | 7 => ("EditionEqual", "matching", "LEditionEqual$Matching;", true)
  | _ => ("EditionEqual", "barredRows", "I", false)
def ty_EE : Nat → FieldType := fun k => match k with
  | 0 => .int
  | 1 => .int
  | 2 => .object "EditionEqual$Edition"
  | 3 => .object "EditionEqual$Edition"
  | 4 => .object "EditionEqual$Behaviour"
  | 5 => .object "EditionEqual$Behaviour"
  | 6 => .object "EditionEqual$PairSearch"
  | 7 => .object "EditionEqual$Matching"
  | _ => .int
theorem nm_EE : ∀ a, a < 9 → ∀ b, b < 9 → a ≠ b → (T_EE a).2.1 ≠ (T_EE b).2.1 := by decide +kernel
theorem tp_EE : ∀ k, k < 9 → parseFieldDescriptor (T_EE k).2.2.1 = some (ty_EE k) := by decide +kernel
def T_ED : u_T := fun k => match k with
  | 0 => ("EditionEqual$Edition", "kinds", "[I", true)
  | 1 => ("EditionEqual$Edition", "numbers", "[I", true)
  | 2 => ("EditionEqual$Edition", "neededInputs", "[I", true)
  | 3 => ("EditionEqual$Edition", "wires", "[I", true)
  | 4 => ("EditionEqual$Edition", "neededBlocks", "[I", true)
  | 5 => ("EditionEqual$Edition", "outputs", "[I", true)
  | 6 => ("EditionEqual$Edition", "delays", "[I", true)
  | 7 => ("EditionEqual$Edition", "ahead", "[I", true)
  | 8 => ("EditionEqual$Edition", "blockCount", "I", false)
  | _ => ("EditionEqual$Edition", "delayCount", "I", false)
def ty_ED : Nat → FieldType := fun k => match k with
  | 0 => .array .int
  | 1 => .array .int
  | 2 => .array .int
  | 3 => .array .int
  | 4 => .array .int
  | 5 => .array .int
  | 6 => .array .int
  | 7 => .array .int
  | 8 => .int
  | _ => .int
theorem nm_ED : ∀ a, a < 10 → ∀ b, b < 10 → a ≠ b → (T_ED a).2.1 ≠ (T_ED b).2.1 := by decide +kernel
theorem tp_ED : ∀ k, k < 10 → parseFieldDescriptor (T_ED k).2.2.1 = some (ty_ED k) := by decide +kernel
def T_BH : u_T := fun k => match k with
  | 0 => ("EditionEqual$Behaviour", "edition", "LEditionEqual$Edition;", true)
  | 1 => ("EditionEqual$Behaviour", "order", "[I", true)
  | 2 => ("EditionEqual$Behaviour", "columns", "[I", true)
  | 3 => ("EditionEqual$Behaviour", "outs", "[I", true)
  | 4 => ("EditionEqual$Behaviour", "nextStates", "[I", true)
  | 5 => ("EditionEqual$Behaviour", "queue", "[I", true)
  | 6 => ("EditionEqual$Behaviour", "classes", "[I", true)
  | 7 => ("EditionEqual$Behaviour", "keys", "[I", true)
  | 8 => ("EditionEqual$Behaviour", "newClasses", "[I", true)
  | 9 => ("EditionEqual$Behaviour", "orderedCount", "I", false)
  | 10 => ("EditionEqual$Behaviour", "stateCount", "I", false)
  | 11 => ("EditionEqual$Behaviour", "reachedStates", "I", false)
  | _ => ("EditionEqual$Behaviour", "known", "Z", false)
def ty_BH : Nat → FieldType := fun k => match k with
  | 0 => .object "EditionEqual$Edition"
  | 1 => .array .int
  | 2 => .array .int
  | 3 => .array .int
  | 4 => .array .int
  | 5 => .array .int
  | 6 => .array .int
  | 7 => .array .int
  | 8 => .array .int
  | 9 => .int
  | 10 => .int
  | 11 => .int
  | _ => .boolean
theorem nm_BH : ∀ a, a < 13 → ∀ b, b < 13 → a ≠ b → (T_BH a).2.1 ≠ (T_BH b).2.1 := by decide +kernel
theorem tp_BH : ∀ k, k < 13 → parseFieldDescriptor (T_BH k).2.2.1 = some (ty_BH k) := by decide +kernel
def T_PS : u_T := fun k => match k with
  | 0 => ("EditionEqual$PairSearch", "first", "LEditionEqual$Behaviour;", true)
  | 1 => ("EditionEqual$PairSearch", "second", "LEditionEqual$Behaviour;", true)
  | 2 => ("EditionEqual$PairSearch", "met", "[I", true)
  | 3 => ("EditionEqual$PairSearch", "queue", "[I", true)
  | 4 => ("EditionEqual$PairSearch", "cameFrom", "[I", true)
  | 5 => ("EditionEqual$PairSearch", "cameBy", "[I", true)
  | 6 => ("EditionEqual$PairSearch", "pairCount", "I", false)
  | 7 => ("EditionEqual$PairSearch", "shownCount", "I", false)
  | 8 => ("EditionEqual$PairSearch", "shownFrom", "I", false)
  | 9 => ("EditionEqual$PairSearch", "shownLast", "I", false)
  | 10 => ("EditionEqual$PairSearch", "firstOuts", "I", false)
  | 11 => ("EditionEqual$PairSearch", "secondOuts", "I", false)
  | _ => ("EditionEqual$PairSearch", "known", "Z", false)
def ty_PS : Nat → FieldType := fun k => match k with
  | 0 => .object "EditionEqual$Behaviour"
  | 1 => .object "EditionEqual$Behaviour"
  | 2 => .array .int
  | 3 => .array .int
  | 4 => .array .int
  | 5 => .array .int
  | 6 => .int
  | 7 => .int
  | 8 => .int
  | 9 => .int
  | 10 => .int
  | 11 => .int
  | _ => .boolean
theorem nm_PS : ∀ a, a < 13 → ∀ b, b < 13 → a ≠ b → (T_PS a).2.1 ≠ (T_PS b).2.1 := by decide +kernel
theorem tp_PS : ∀ k, k < 13 → parseFieldDescriptor (T_PS k).2.2.1 = some (ty_PS k) := by decide +kernel
def T_MT : u_T := fun k => match k with
  | 0 => ("EditionEqual$Matching", "first", "LEditionEqual$Edition;", true)
  | 1 => ("EditionEqual$Matching", "second", "LEditionEqual$Edition;", true)
  | 2 => ("EditionEqual$Matching", "partners", "[I", true)
  | 3 => ("EditionEqual$Matching", "partnersBack", "[I", true)
  | 4 => ("EditionEqual$Matching", "queue", "[I", true)
  | _ => ("EditionEqual$Matching", "matchCount", "I", false)
def ty_MT : Nat → FieldType := fun k => match k with
  | 0 => .object "EditionEqual$Edition"
  | 1 => .object "EditionEqual$Edition"
  | 2 => .array .int
  | 3 => .array .int
  | 4 => .array .int
  | _ => .int
theorem nm_MT : ∀ a, a < 6 → ∀ b, b < 6 → a ≠ b → (T_MT a).2.1 ≠ (T_MT b).2.1 := by decide +kernel
theorem tp_MT : ∀ k, k < 6 → parseFieldDescriptor (T_MT k).2.2.1 = some (ty_MT k) := by decide +kernel
def T_MD : u_T := fun k => match k with
  | 0 => ("EditionEqualModel", "thrown", "I", false)
  | 1 => ("EditionEqualModel", "points", "I", true)
  | 2 => ("EditionEqualModel", "barred", "[Z", true)
  | 3 => ("EditionEqualModel", "counts", "[I", true)
  | 4 => ("EditionEqualModel", "kinds", "[I", true)
  | 5 => ("EditionEqualModel", "numbers", "[I", true)
  | 6 => ("EditionEqualModel", "firsts", "[I", true)
  | 7 => ("EditionEqualModel", "seconds", "[I", true)
  | 8 => ("EditionEqualModel", "outs", "[I", true)
  | 9 => ("EditionEqualModel", "come", "[Z", true)
  | 10 => ("EditionEqualModel", "values", "[I", true)
  | 11 => ("EditionEqualModel", "table", "[I", true)
  | 12 => ("EditionEqualModel", "reached", "[Z", true)
  | 13 => ("EditionEqualModel", "apart", "[Z", true)
  | 14 => ("EditionEqualModel", "pairCount", "I", false)
  | 15 => ("EditionEqualModel", "pairs", "[I", true)
  | 16 => ("EditionEqualModel", "cameFrom", "[I", true)
  | 17 => ("EditionEqualModel", "cameBy", "[I", true)
  | 18 => ("EditionEqualModel", "seen", "[Z", true)
  | 19 => ("EditionEqualModel", "differsAt", "I", false)
  | 20 => ("EditionEqualModel", "differsBy", "I", false)
  | _ => ("EditionEqualModel", "match", "[Z", true)
def ty_MD : Nat → FieldType := fun k => match k with
  | 0 => .int
  | 1 => .int
  | 2 => .array .boolean
  | 3 => .array .int
  | 4 => .array .int
  | 5 => .array .int
  | 6 => .array .int
  | 7 => .array .int
  | 8 => .array .int
  | 9 => .array .boolean
  | 10 => .array .int
  | 11 => .array .int
  | 12 => .array .boolean
  | 13 => .array .boolean
  | 14 => .int
  | 15 => .array .int
  | 16 => .array .int
  | 17 => .array .int
  | 18 => .array .boolean
  | 19 => .int
  | 20 => .int
  | _ => .array .boolean
theorem nm_MD : ∀ a, a < 22 → ∀ b, b < 22 → a ≠ b → (T_MD a).2.1 ≠ (T_MD b).2.1 := by decide +kernel
theorem tp_MD : ∀ k, k < 22 → parseFieldDescriptor (T_MD k).2.2.1 = some (ty_MD k) := by decide +kernel
def ez_cl : List vw_C := [("EditionEqual", T_EE, 9), ("EditionEqual$Edition", T_ED, 10), ("EditionEqual$Behaviour", T_BH, 13), ("EditionEqual$PairSearch", T_PS, 13), ("EditionEqual$Matching", T_MT, 6), ("EditionEqualModel", T_MD, 22)]
/-- classes' numbers and slots; the arrays' classes; addresses of what nobody writes (900: the class's table of columns, 901: the script); the script -/
abbrev ez_G : Type := va_G × (FieldType → ClassId) × (Nat → Nat) × (Nat × (Nat → Int32))
def ez_str : List (String × Nat × String) := [("EditionEqual", 215, "no such edition"), ("EditionEqual", 81, "no such kind, or no such number of the kind"), ("EditionEqual", 92, "no more blocks, or no more delays"), ("EditionEqual", 107, "no such block or input"), ("EditionEqual", 113, "no such output or block"), ("EditionEqual", 211, "no such row"), ("EditionEqual", 217, "no such block"), ("EditionEqual", 199, "the edition is not right"), ("EditionEqual", 146, "a place is not below 0"), ("EditionEqual", 213, "one of the editions is not right"), ("EditionEqual", 165, "rows are counted from 0"), ("EditionEqual", 167, "so many rows are not shown"), ("EditionEqual", 191, "idle blocks are counted from 0")]
def ez_dc (j : Nat) : Int32 := match j with
  | 0 => 0xAAAAAAAA
  | 1 => 0xCCCCCCCC
  | 2 => 0xF0F0F0F0
  | 3 => 0xFF00FF00
  | _ => 0xFFFF0000
def ez_tU : String := "UNASSIGNED_STACK"
/-- what nobody writes -/
def ez_Ro (G : ez_G) (A : Nat → Prop) (U : State) (H : Heap) : Prop :=
  (va_Z "EditionEqual" "DELAY_COLUMNS" "[I" (.ref (G.2.2.1 900)) A U H ∧ va_T .int (G.2.2.1 900) 5 (fun j => .int (ez_dc j)) A U H) ∧ (vx_Zq Bundle.tN "UNASSIGNED_STACK" Bundle.steD A U H ∧ vx_Zq Bundle.tN "SUPPRESSED_SENTINEL" Bundle.listD A U H) ∧
  (∀ q ∈ ez_str, ∃ a, vk_R q.1 q.2.1 q.2.2 a U) ∧ va_Nc "java/lang/IllegalStateException" "java/lang/IllegalArgumentException" U ∧ va_T .int (G.2.2.1 901) G.2.2.2.1 (fun j => .int (G.2.2.2.2 j)) A U H
theorem ez_Ro.moved {G : ez_G} {A : Nat → Prop} {u U : State} {H : Heap} (hW : u.WarmedH U.vm) (h : ez_Ro G A u H) : ez_Ro G A U H :=
  ⟨⟨va_Z.moved hW.alike h.1.1, va_T.moved hW.alike h.1.2⟩, ⟨vx_Zq.moved hW.alike h.2.1.1, vx_Zq.moved hW.alike h.2.1.2⟩, fun q hq => (h.2.2.1 q hq).elim fun a ha => ⟨a, vk_R.warm hW ha⟩, va_Nc.moved hW.alike h.2.2.2.1, va_T.moved hW.alike h.2.2.2.2⟩
theorem ez_Ro.kept {G : ez_G} {A : Nat → Prop} {U : State} {H H1 : Heap} (h : ez_Ro G A U H) (hq : ∀ a : Nat, a < H.size → ¬ A a → H1[a]? = H[a]?) : ez_Ro G A U H1 :=
  ⟨⟨va_Z.kept h.1.1 hq, va_T.kept h.1.2 hq⟩, ⟨vx_Zq.kept h.2.1.1 hq, vx_Zq.kept h.2.1.2 hq⟩, h.2.2.1, h.2.2.2.1, va_T.kept h.2.2.2.2 hq⟩
theorem ez_Ro.narrow {G : ez_G} {A B : Nat → Prop} {U : State} {H : Heap} (h : ez_Ro G A U H) (hAB : ∀ q, B q → A q) : ez_Ro G B U H :=
  ⟨⟨va_Z.narrow h.1.1 hAB, va_T.narrow h.1.2 hAB⟩, ⟨vx_Zq.narrow h.2.1.1 hAB, vx_Zq.narrow h.2.1.2 hAB⟩, h.2.2.1, h.2.2.2.1, va_T.narrow h.2.2.2.2 hAB⟩
end
section
/-! ===== THE LAYER: a method's run over a world that is a list of cells, each known by its place ===== -/
/-- a cell: an array (its type, its length and contents), or an object (its class's number, its fields); '.ref k' in it is the cell at place k -/
abbrev ez_Cell : Type := (FieldType × vp_A) ⊕ (Nat × List Value)
abbrev ez_H : Type := List ez_Cell
/-- a method: name, bytes, number of locals, what it returns, handlers; its room: frames, words; cells, slots that must be free; cells, slots that it makes where it returns (one of six slots more where it throws) -/
abbrev ez_X : Type := MethodName × ByteArray × Nat × Option FieldType × List (Nat × Nat × Nat × Nat) × (Nat × Nat × Nat × Nat × Nat × Nat)
abbrev ez_hs (X : ez_X) : List (Nat × Nat × Nat × Nat) := X.2.2.2.2.1
abbrev ez_fr (X : ez_X) : Nat := X.2.2.2.2.2.1
abbrev ez_lo (X : ez_X) : Nat := X.2.2.2.2.2.2.1
abbrev ez_rc (X : ez_X) : Nat := X.2.2.2.2.2.2.2.1
abbrev ez_rs (X : ez_X) : Nat := X.2.2.2.2.2.2.2.2.1
abbrev ez_mc (X : ez_X) : Nat := X.2.2.2.2.2.2.2.2.2.1
abbrev ez_ms (X : ez_X) : Nat := X.2.2.2.2.2.2.2.2.2.2
def ez_rm (X : ez_X) : Room := { frames := ez_fr X, cells := ez_rc X, slots := ez_rs X, locals := ez_lo X }
def ez_kc (X : ez_X) (o : Outcome) : Nat := match o with
  | .returned _ => ez_mc X
  | .threw _ => ez_mc X + 1
def ez_ks (X : ez_X) (o : Outcome) : Nat := match o with
  | .returned _ => ez_ms X
  | .threw _ => ez_ms X + 6
/-- how a method ends: a value, or an exception of a kind; and the world then -/
abbrev ez_R : Type := (Option Value ⊕ Nat) × ez_H
def ez_v (ad : Nat → Nat) (v : Value) : Value := match v with
  | .ref k => .ref (ad k)
  | w => w
def ez_e (cA : FieldType → ClassId) (ad : Nat → Nat) (q : ez_Cell) : va_E := match q with
  | .inl a => .inl (cA a.1, a.2)
  | .inr o => .inr (o.1, o.2.map (ez_v ad))
def ez_ws (G : ez_G) (ad : Nat → Nat) (h : ez_H) : va_W := h.mapIdx fun k q => (ad k, ez_e G.2.1 ad q)
theorem ez_cat (ad : Nat → Nat) (v : Value) : (ez_v ad v).category = v.category := by cases v <;> rfl
theorem ez_ws_get (G : ez_G) (ad : Nat → Nat) {h : ez_H} {k : Nat} {q : ez_Cell} (hk : h[k]? = some q) : (ez_ws G ad h)[k]? = some (ad k, ez_e G.2.1 ad q) := by
  simp [ez_ws, hk]
theorem ez_ws_of (G : ez_G) (ad : Nat → Nat) {h : ez_H} {k : Nat} {q : Nat × va_E} (hk : (ez_ws G ad h)[k]? = some q) : ∃ c, h[k]? = some c ∧ q = (ad k, ez_e G.2.1 ad c) := by
  simp only [ez_ws, List.getElem?_mapIdx] at hk
  cases hc : h[k]? with
  | none => rw [hc] at hk; cases hk
  | some c => rw [hc] at hk; exact ⟨c, rfl, (Option.some.inj hk).symm⟩
theorem ez_ws_set (G : ez_G) (ad : Nat → Nat) (h : ez_H) (k : Nat) (q : ez_Cell) : ez_ws G ad (h.set k q) = (ez_ws G ad h).set k (ad k, ez_e G.2.1 ad q) := by
  apply List.ext_getElem?
  intro j
  simp only [ez_ws, List.getElem?_mapIdx, List.getElem?_set, List.length_mapIdx]
  by_cases hj : k = j
  · subst hj
    by_cases hl : k < h.length <;> simp [hl]
  · simp [hj]
theorem ez_ws_len (G : ez_G) (ad : Nat → Nat) (h : ez_H) : (ez_ws G ad h).length = h.length := by simp [ez_ws]
/-! the words that stay -/
def ez_gw (w : Cond) : Bool := goodWord w || (match w with
  | .fieldLinkNest .. => true
  | .methodLinkNest .. => true
  | .castable .. => true
  | .declares _ => true
  | _ => false)
def ez_T : List Cond := lw_tbl.filter ez_gw
theorem ez_gw_keep {w : Cond} (hw : ez_gw w = true) {args a' : Array Value} {s U : State} (hW : s.WarmedH U.vm) (h : w.before args s = true) : w.before a' U = true := by
  unfold ez_gw at hw
  rw [Bool.or_eq_true] at hw
  rcases hw with g | g
  · exact word_at hW (good_of_word g) h
  · cases w <;> first
      | exact absurd g Bool.false_ne_true
      | exact va_Nw.use rfl (va_Nw.warmF hW (va_Nw.of rfl h))
      | exact va_Nw.use rfl (va_Nw.warmM hW (va_Nw.of rfl h))
      | exact va_Nw.use rfl (va_Nw.warmC hW (va_Nw.of rfl h))
      | exact va_Nw.use rfl (va_Nw.warmD hW (va_Nw.of rfl h))
theorem ez_T_keep {args : Array Value} {s : State} (hts : ∀ w ∈ ez_T, w.before args s = true) : ∀ w ∈ ez_T, ∀ (a' : Array Value) (U : State), s.WarmedH U.vm → w.before a' U = true :=
  fun w hw _ _ hW => ez_gw_keep (List.mem_filter.mp hw).2 hW (hts w hw)
theorem ez_in (i : Nat) {w : Cond} (h : lw_tbl[i]? = some w) (hg : ez_gw w = true) : w ∈ ez_T := List.mem_filter.mpr ⟨List.mem_of_getElem? h, hg⟩
/-! a method's surroundings -/
def ez_tys (G : ez_G) : List (ClassId × FieldType) := [(G.2.1 .int, .int), (G.2.1 .boolean, .boolean), (G.2.1 .long, .long)]
def ez_ctx (G : ez_G) (X : ez_X) (p : Program) (s : State) (m : MethodId) (args : Array Value) (meth : Method) (c : Code) : Prop :=
  p.tables.exec = Jvm.exec ∧ c.code = X.2.1 ∧ c.maxLocals = X.2.2.1 ∧ s.vm.findClass X.1.cls = some m.cls ∧ (∀ w ∈ ez_T, w.before args s = true) ∧ meth.sig.returnType = X.2.2.2.1 ∧ meth.locks = false ∧
  c.exceptionTable.toList.map (fun h => (h.startPc, h.endPc, h.handlerPc, h.catchType)) = ez_hs X ∧ va_K G.1 ez_cl (ez_tys G) s ∧ meth.name = X.1.name
def ez_L (ad : Nat → Nat) (n : Nat) (ls : List (Option Value)) (L : Array Slot) : Prop :=
  L.size = n ∧ lv_wf L ∧ ∀ (i : Nat) (v : Value), ls[i]? = some (some v) → v.category = 1 ∧ L[i]? = some (.val (ez_v ad v))
def ez_In (G : ez_G) (X : ez_X) (uc us : Nat) (ls : List (Option Value)) (h : ez_H) (p : Program) (s : State) (m : MethodId) (args : Array Value) (meth : Method) (c : Code)
    (A : Nat → Prop) (n0 : Nat) (ad0 ad : Nat → Nat) (H : Heap) (locs : List Loc) (cells slots : Nat) (L : Array Slot) : Prop :=
  ez_ctx G X p s m args meth c ∧ (∀ q, s.heap.size ≤ q → A q) ∧ (ez_Ro G A s s.heap ∧ h.length ≤ 900 ∧ ∀ k, 900 ≤ k → ad k = G.2.2.1 k) ∧ n0 ≤ h.length ∧ (∀ k, ¬ (n0 ≤ k ∧ k < h.length) → ad k = ad0 k) ∧
  va_P G.1 ez_cl (ez_ws G ad h) H ∧ va_D A (ez_ws G ad h) ∧ va_S A s.heap H locs ∧ ez_L ad X.2.2.1 ls L ∧ cells ≤ uc ∧ slots ≤ us
def ez_exN (k : Nat) : String := if k = 0 then "java/lang/IllegalArgumentException" else "java/lang/IllegalStateException"
def ez_out (ad : Nat → Nat) (r : Option Value ⊕ Nat) (o : Outcome) (t : State) : Prop := match r with
  | .inl v => o = .returned (v.map (ez_v ad))
  | .inr k => ∃ (x : Addr) (cell : Cell), o = .threw x ∧ t.heap[x]? = some cell ∧ cell.vm = .none ∧ t.vm.findClass (ez_exN k) = some cell.cls
def ez_Fin (G : ez_G) (A : Nat → Prop) (n0 : Nat) (ad0 : Nat → Nat) (Q : ez_R → Prop) (o : Outcome) (t : State) : Prop :=
  ∃ (r : ez_R) (ad : Nat → Nat), Q r ∧ (n0 ≤ r.2.length ∧ r.2.length ≤ 900) ∧ (∀ k, ¬ (n0 ≤ k ∧ k < r.2.length) → ad k = ad0 k) ∧ va_P G.1 ez_cl (ez_ws G ad r.2) t.heap ∧ va_D A (ez_ws G ad r.2) ∧ ez_out ad r.1 o t
def ez_MQ (X : ez_X) (below : List Frame) (s : State) (A : Nat → Prop) (F : Outcome → State → Prop) : State → Prop := fun t =>
  ∃ o, t.status = .running ∧ Ended t below o ∧ F o t ∧ va_F A s t ∧ ∃ L, (s.WarmedH t.vm ∧ s.sameButNew ({ t with vm := s.vm } : State) L (ez_kc X o) (ez_ks X o)) ∧ ∀ q ∈ L, A q.base
/-- from this frame, over this world, the method comes to its end, and Q is true of how it ends -/
def ez_Ev (l : Launch) (G : ez_G) (X : ez_X) (uc us pc : Nat) (ls : List (Option Value)) (st : List Value) (h : ez_H) (Q : ez_R → Prop) : Prop :=
  ∀ (p : Program) (e : Env) (s : State) (m : MethodId) (args : Array Value) (below : List Frame) (meth : Method) (c : Code) (A : Nat → Prop) (n0 : Nat) (ad0 ad : Nat → Nat) (H : Heap) (locs : List Loc) (cells slots : Nat) (L : Array Slot),
    ez_In G X uc us ls h p s m args meth c A n0 ad0 ad H locs cells slots L →
    W p l e (ez_rm X) s m args below meth c H locs cells slots (ez_MQ X below s A (ez_Fin G A n0 ad0 Q)) (F0 m pc L (st.map (ez_v ad)))
/-! a contract -/
def ez_Met (l : Launch) (X : ez_X) (Pc : Array Value → State → Prop) (Qc : State → Outcome → State → Prop) (free : Addr → Prop) : Prop :=
  MetFree l X.1 (headSpec ez_T (ez_rm X)) Pc (fun _ _ _ _ _ => True) (fun _ st o t => Qc st o t ∧ ∃ L, (st.WarmedH t.vm ∧ st.sameButNew ({ t with vm := st.vm } : State) L (ez_kc X o) (ez_ks X o)) ∧ ∀ q ∈ L, free q.base)
def ez_Pre (G : ez_G) (ad : Nat → Nat) (sz : Nat) (as : List Value) (h : ez_H) (a : Array Value) (U : State) : Prop :=
  a = (as.map (ez_v ad)).toArray ∧ U.heap.size = sz ∧ va_P G.1 ez_cl (ez_ws G ad h) U.heap ∧ va_D (fun _ => True) (ez_ws G ad h) ∧ va_K G.1 ez_cl (ez_tys G) U ∧ ez_Ro G (va_A (ez_ws G ad h) sz) U U.heap ∧ h.length ≤ 900 ∧ ∀ k, 900 ≤ k → ad k = G.2.2.1 k
/-- the method's contract at these arguments over this world -/
def ez_Ct (l : Launch) (G : ez_G) (X : ez_X) (as : List Value) (h : ez_H) (Q : ez_R → Prop) : Prop :=
  ∀ (ad : Nat → Nat) (sz : Nat), ez_Met l X (ez_Pre G ad sz as h) (fun st o t => ez_Fin G (va_A (ez_ws G ad h) sz) h.length ad Q o t ∧ va_F (va_A (ez_ws G ad h) sz) st t) (va_A (ez_ws G ad h) sz)
/-! from a walk to a contract -/
def ez_code (X : ez_X) : Cond := match X.2.2.2.2.1 with
  | [] => .code X.1 X.2.1 X.2.2.1 X.2.2.2.1
  | q :: hs => .codeWith X.1 X.2.1 X.2.2.1 X.2.2.2.1 (q :: hs)
theorem ez_code_spec {X : ez_X} {args : Array Value} {s : State} {m : MethodId} (hn : s.methodNamed? X.1 = some m) (h : (ez_code X).before args s = true) :
    ∃ meth c, s.vm.method? m = some meth ∧ meth.code = some c ∧ c.code = X.2.1 ∧ c.maxLocals = X.2.2.1 ∧ meth.sig.returnType = X.2.2.2.1 ∧ meth.locks = false ∧
      c.exceptionTable.toList.map (fun h => (h.startPc, h.endPc, h.handlerPc, h.catchType)) = ez_hs X ∧ parseMethodDescriptor X.1.desc = some meth.sig := by
  obtain ⟨y, cc, n, ret, hs, rm⟩ := X
  cases hs with
  | nil =>
    obtain ⟨meth, c, h1, h2, h3, h4, h5, h6, h7, h8⟩ := Cond.code_spec (x := y) (bytes := cc) (maxLocals := n) (ret := ret) hn h
    refine ⟨meth, c, h1, h2, h3, h4, h5, h6, ?_, h8⟩
    rw [Array.isEmpty_iff] at h7
    rw [h7]
    rfl
  | cons q hs =>
    obtain ⟨m', meth, c, h0, h1, h2, h3, h4, h7, h5, h6, h8⟩ := Cond.codeWith_spec (x := y) (bytes := cc) (maxLocals := n) (ret := ret) (handlers := q :: hs) h
    cases hn.symm.trans h0
    exact ⟨meth, c, h1, h2, h3, h4, h5, h6, h7, h8⟩
def ez_ok (X : ez_X) (n : Nat) : Prop :=
  plainName X.1.cls = true ∧ ez_code X ∈ ez_T ∧ Cond.initialized X.1.cls ∈ ez_T ∧ (X.1.cls ≠ "java/lang/invoke/MethodHandle" ∧ X.1.cls ≠ "java/lang/invoke/VarHandle") ∧ (parseMethodDescriptor X.1.desc).map (fun d => d.parameters.length) = some n
def ez_ls (X : ez_X) (as : List Value) : List (Option Value) := as.map some ++ List.replicate (X.2.2.1 - as.length) none
theorem ez_args : ∀ (vs : List Value) (k i : Nat) (v : Value), (∀ w ∈ vs, w.category = 1) → vs[i]? = some v → (k + i, v) ∈ lv_args k vs := by
  intro vs
  induction vs with
  | nil => intro k i v _ h; simp at h
  | cons w vs ih =>
    intro k i v hc h
    have hw : ¬ w.category = 2 := by rw [hc w List.mem_cons_self]; decide
    simp only [lv_args, hw, if_false]
    cases i with
    | zero =>
      simp only [List.getElem?_cons_zero, Option.some.injEq] at h
      subst h
      exact List.mem_cons_self
    | succ i =>
      rw [List.getElem?_cons_succ] at h
      have := ih (k + 1) i v (fun x hx => hc x (List.mem_cons_of_mem _ hx)) h
      rw [show k + (i + 1) = k + 1 + i by omega]
      exact List.mem_cons_of_mem _ this
theorem ez_sl : ∀ (vs : List Value), (∀ w ∈ vs, w.category = 1) → (lg_sl vs).length = vs.length := by
  intro vs
  induction vs with
  | nil => intro _; rfl
  | cons w vs ih =>
    intro hc
    have hw : ¬ w.category = 2 := by rw [hc w List.mem_cons_self]; decide
    have e : lg_sl (w :: vs) = Slot.val w :: lg_sl vs := by simp [lg_sl, hw]
    rw [e, List.length_cons, ih (fun x hx => hc x (List.mem_cons_of_mem _ hx)), List.length_cons]
theorem ez_L_entry {X : ez_X} (ad : Nat → Nat) {as : List Value} (hc : ∀ w ∈ as, w.category = 1) (hl : as.length ≤ X.2.2.1) :
    ez_L ad X.2.2.1 (ez_ls X as) ((lg_sl (as.map (ez_v ad)) ++ List.replicate (X.2.2.1 - (lg_sl (as.map (ez_v ad))).length) Slot.unset).toArray) := by
  have hc' : ∀ w ∈ as.map (ez_v ad), w.category = 1 := by
    intro w hw
    obtain ⟨v, hv, rfl⟩ := List.mem_map.mp hw
    rw [ez_cat]
    exact hc v hv
  have hn := ez_sl _ hc'
  rw [List.length_map] at hn
  obtain ⟨h1, h2, h3⟩ := lv_entry (as.map (ez_v ad)) (n := X.2.2.1) (by rw [hn]; exact hl)
  refine ⟨h1, h2, fun i v hi => ?_⟩
  unfold ez_ls at hi
  by_cases hlt : i < as.length
  · rw [List.getElem?_append_left (by rw [List.length_map]; exact hlt), List.getElem?_map] at hi
    cases ha : as[i]? with
    | none => rw [ha] at hi; cases hi
    | some w =>
      rw [ha] at hi
      simp only [Option.map_some, Option.some.injEq] at hi
      subst hi
      refine ⟨hc w (List.mem_of_getElem? ha), ?_⟩
      have := h3 _ (ez_args (as.map (ez_v ad)) 0 i (ez_v ad w) hc' (by rw [List.getElem?_map, ha]; rfl))
      simpa using this
  · rw [List.getElem?_append_right (by rw [List.length_map]; omega), List.getElem?_replicate] at hi
    split at hi <;> cases hi
theorem ez_Ct_of {l : Launch} {G : ez_G} {X : ez_X} {n : Nat} {as : List Value} {h : ez_H} {Q : ez_R → Prop} (hok : ez_ok X n) (hcat : ∀ w ∈ as, w.category = 1) (hlen : as.length ≤ X.2.2.1)
    (body : ez_Ev l G X 0 0 0 (ez_ls X as) [] h Q) : ez_Ct l G X as h Q := by
  intro ad sz
  refine MetFree.of_bodyS (code := X.2.1) (maxLocals := X.2.2.1) (ret := X.2.2.2.1) hok.1 ?_ ?_
  · intro args s m hpre hn
    obtain ⟨meth, c, h1, h2, h3, h4, h5, h6, -, -⟩ := ez_code_spec hn (atoms_spec (ws := ez_T) hpre _ hok.2.1)
    exact ⟨meth, c, h1, h2, h3, h4, h5, h6⟩
  · intro p e s m args below meth c s₁ B hml hP _
    obtain ⟨rfl, hsz, hPw, hD, hK, hro, hap, had⟩ := hP
    have hts := atoms_spec (ws := ez_T) B.pre
    obtain ⟨meth', c', h1, h2, -, -, -, -, hh, -⟩ := ez_code_spec B.named (hts _ hok.2.1)
    cases B.method.symm.trans h1
    cases (Stand.of_body B).code.symm.trans h2
    have hh0 : s₁.heap = s.heap := by rw [B.state]; rfl
    have I : ez_In G X 0 0 (ez_ls X as) h p s m _ meth c (va_A (ez_ws G ad h) sz) h.length ad ad s.heap [] 0 0 _ :=
      ⟨⟨B.exec, B.bytes, hml, findClass_of_methodNamed B.named, hts, B.returns, B.notSynchronized, hh, hK, (name_of_methodNamed B.named B.method).1⟩, fun q hq => Or.inr (by rw [← hsz]; exact hq), ⟨hro, hap, had⟩, Nat.le_refl _, fun _ _ => rfl, hPw, hD.self, va_S.rf, ez_L_entry ad hcat hlen, Nat.le_refl _, Nat.le_refl _⟩
    obtain ⟨t, a1, o, b1, b2, b3, b4, b5⟩ := body p e s m _ below meth c _ _ _ _ _ _ _ _ _ I s₁ hh0 (Stand.of_body B)
    refine ⟨t, o, ?_, b1, b2, ⟨b3, b4⟩, b5⟩
    rw [lg_entry_eq]
    exact a1
/-! calls: whatever the outcome -/
theorem ez_any {l : Launch} {R : Room} {p : Program} {e : Env} {below : List Frame} {s : State} {sargs : Array Value} {X : ez_X} {Pc : Array Value → State → Prop} {Qc : State → Outcome → State → Prop} {free : Addr → Prop}
    (hM : ez_Met l X Pc Qc free) (hT : ∀ w ∈ ez_T, ∀ (a' : Array Value) (U : State), s.WarmedH U.vm → w.before a' U = true) (hcode : ez_code X ∈ ez_T) (hini : Cond.initialized X.1.cls ∈ ez_T) (hblind : FrameBlind Pc)
    (hfr : ez_fr X + 1 ≤ R.frames) (hlo : 8 + (X.2.2.1 + 11) + ez_lo X ≤ R.locals) {m : MethodId} {meth : Method} {c : Code} {U : State} {locs : List Loc} {cells slots : Nat} (S : Stand p l e R s m sargs below meth c U locs cells slots)
    {g : JFrame} {ig : Instr} {len : Nat} {mk : MethodId} {a : Array Value} (hg : g.method = m) (hsize : g.locals.size = c.maxLocals) (hdg : decode c.code g.pc = .ok (ig, len)) (hW : 2 * g.monitorRoom + (g.stack.map fun v => v.category).sum ≤ 8)
    (hn : U.methodNamed? X.1 = some mk) (hc : cells + ez_rc X ≤ R.cells) (hs : slots + ez_rs X ≤ R.slots) (hP : Pc a U) :
    ∃ (o : Outcome) (st t T' : State) (L : List Loc), st.heap = U.heap ∧ Stand p l e R s m sargs below meth c T' (locs ++ L) (cells + ez_kc X o) (slots + ez_ks X o) ∧ (∀ q ∈ L, free q.base) ∧ T'.heap = t.heap ∧ T'.vm = t.vm ∧ Qc st o t ∧
      (∀ v, o = .returned v → Steps p.tables e below (doInvoke e (U.setTop g) [] mk a).1 (T'.setTop { g with pc := g.pc + len, stack := v.toList ++ g.stack })) ∧
      (∀ x, o = .threw x → Steps p.tables e below (doInvoke e (U.setTop g) [] mk a).1 ((T'.setTop g).pushFrame (.throwing x))) := by
  obtain ⟨methY, cY, hmY, hcY, -, hlY, -, -, -, -⟩ := ez_code_spec hn (hT _ hcode a U S.warmed)
  obtain ⟨kY, hkY, -⟩ := className_of_methodNamed hn
  have hinitY : kY.init = .initialized := Cond.initialized_spec (findClass_of_methodNamed hn) hkY (hT _ hini a U S.warmed)
  have h : At U g.method c below := by rw [hg]; exact S.here
  have happ : (headSpec ez_T (ez_rm X)).appliesLoose X.1 e.platform (U.calling g mk a) = true :=
    Spec.appliesLoose_calling (g := g) h hdg hn hkY hinitY
      (S.room_calling (g := g) (R' := ez_rm X) hsize hmY hcY hfr (by rw [hlY]; show _ + ez_lo X ≤ _; omega) hc hs) (atoms_intro fun w hw => hT w hw a U S.warmed)
  obtain ⟨mid, hmid⟩ := h.above
  have hfr2 : (U.setTop g).frames = (.java g :: mid) ++ below := by rw [State.frames_setTop' g h.top, hmid]; rfl
  obtain ⟨o, s₂, hsteps, -, hend, hq⟩ := Steps.callFree hM p S.admits S.cas S.clock (acts := []) hfr2 happ (hblind _ _ _ _ hP) trivial
  obtain ⟨hqc, L, ⟨hW₂, e2, q2, q3, q4, q5, q6⟩, hL⟩ := hq
  rw [State.frames_setTop' g h.top] at hend
  have e3 : s₂ = ({ (U.calling g mk a).setFrames s₂.frames with heap := s₂.heap, slotsUsed := s₂.slotsUsed } : State).setVm s₂.vm := by
    have h9 : s₂ = ({ s₂ with vm := (U.calling g mk a).vm } : State).setVm s₂.vm := rfl
    have e2' : ({ s₂ with vm := (U.calling g mk a).vm } : State) = { (U.calling g mk a).setFrames s₂.frames with heap := s₂.heap, slotsUsed := s₂.slotsUsed } := e2
    rw [e2'] at h9
    exact h9
  have hW' : U.WarmedH s₂.vm := hW₂
  obtain ⟨g₀, hg0⟩ := Option.isSome_iff_exists.mp h.top
  obtain ⟨r, hr⟩ := State.topJava?_eq_some.mp hg0
  have hr' : (({ U with heap := s₂.heap, slotsUsed := s₂.slotsUsed } : State).setVm s₂.vm).frames = .java g₀ :: r := hr
  have hsame : U.sameButNew ({ U with heap := s₂.heap, slotsUsed := s₂.slotsUsed } : State) L (ez_kc X o) (ez_ks X o) := by
    refine ⟨?_, q2, q3, q4, q5, q6⟩
    obtain ⟨t, ht, -⟩ := State.frames_cons hr
    show ({ U with heap := s₂.heap, slotsUsed := s₂.slotsUsed } : State) = { U.setFrames U.frames with heap := s₂.heap, slotsUsed := s₂.slotsUsed }
    rw [State.setFrames_self ht]
  refine ⟨o, U.calling g mk a, s₂, ({ U with heap := s₂.heap, slotsUsed := s₂.slotsUsed } : State).setVm s₂.vm, L, rfl,
    ⟨S.admits, S.cas, S.clock, S.frames, S.room, S.hears, S.method, S.code, (S.here.setHeapUsed s₂.heap s₂.slotsUsed).setVm hW'.alike, S.tail, State.WarmedH.trans S.warmed hW', S.limits, S.bytes, S.same.trans (hsame.setVm s.vm)⟩, hL, rfl, rfl, hqc, ?_, ?_⟩
  · rintro v rfl
    obtain ⟨c₂, i₂, len₂, hc₂, hd₂, hf₂⟩ := hend
    have hcc : c₂ = c := by
      have h1 : s₂.code? g.method = U.code? g.method := by rw [State.code?_eq, State.code?_eq, hW'.alike.method?]
      exact Option.some.inj (hc₂.symm.trans (h1.trans h.code))
    subst hcc
    have hlen : len₂ = len := by rw [hdg] at hd₂; cases hd₂; rfl
    subst hlen
    have hs₂ : s₂ = (({ U with heap := s₂.heap, slotsUsed := s₂.slotsUsed } : State).setVm s₂.vm).setTop { g with pc := g.pc + len₂, stack := v.toList ++ g.stack } := by
      refine e3.trans ?_
      rw [hf₂, State.calling_eq h.top, State.setFrames_setFrames, State.setTop_of_frames _ hr', hr]
      rfl
    rw [← hs₂]
    exact hsteps
  · rintro x rfl
    have hf₂ : s₂.frames = .throwing x :: .java g :: U.frames.tail := hend
    have hs₂ : s₂ = ((({ U with heap := s₂.heap, slotsUsed := s₂.slotsUsed } : State).setVm s₂.vm).setTop g).pushFrame (.throwing x) := by
      refine e3.trans ?_
      rw [hf₂, State.calling_eq h.top, State.setFrames_setFrames, State.pushFrame, State.frames_setTop _ hr', State.setTop_of_frames _ hr', State.setFrames_setFrames, hr]
      rfl
    rw [← hs₂]
    exact hsteps
/-! the three kinds of call, to the callee's entry -/
section EzGo
variable {p : Program} {l : Launch} {e : Env} {R : Room} {s : State} {m : MethodId} {args : Array Value} {below : List Frame} {meth : Method} {c : Code} {T : State} {locs : List Loc} {cells slots : Nat}
def ez_link (own : String) (index : Nat) (y : MethodName) : Prop := Cond.methodLink own index y ∈ ez_T ∨ ∃ host, Cond.methodLinkNest own index y host ∈ ez_T
def ez_To (p : Program) (l : Launch) (e : Env) (R : Room) (s : State) (m : MethodId) (args : Array Value) (below : List Frame) (meth : Method) (c : Code) (T : State) (locs : List Loc) (cells slots : Nat) (y : MethodName) (g : JFrame) (rest : List Value) (a : Array Value) : Prop :=
  ∃ (vm₁ : Vm) (mk : MethodId), s.methodNamed? y = some mk ∧ Stand p l e R s m args below meth c (T.setVm vm₁) locs cells slots ∧ ∀ target, Steps p.tables e below (doInvoke e ((T.setVm vm₁).setTop { g with stack := rest }) [] mk a).1 target → Steps p.tables e below (T.setTop g) target
theorem ez_goS (X : Stand p l e R s m args below meth c T locs cells slots) (hexec : p.tables.exec = Jvm.exec) (hts : ∀ w ∈ ez_T, w.before args s = true) {own : String} {index n : Nat} {Y : ez_X} (hok : ez_ok Y n)
    (hown : s.vm.findClass own = some m.cls) (hl : ez_link own index Y.1) (hstat : Cond.static Y.1 ∈ ez_T)
    {g : JFrame} (hg : g.method = m) {argsL rest : List Value} (hn : argsL.length = n) (hstack : g.stack = argsL.reverse ++ rest) (hdg : decode c.code g.pc = .ok (.invokestatic index, 3)) :
    ez_To p l e R s m args below meth c T locs cells slots Y.1 g rest argsL.toArray := by
  obtain ⟨-, hcw, hiw, hy, hpar⟩ := hok
  have hcode := hts _ hcw
  obtain ⟨mk, hnamed⟩ : ∃ mk, s.methodNamed? Y.1 = some mk := by
    obtain ⟨y, cc, n, ret, hs, rm⟩ := Y
    cases hs with
    | nil => exact Cond.code_named hcode
    | cons q hs =>
      obtain ⟨m', meth, c, h0, -⟩ := Cond.codeWith_spec (x := y) (bytes := cc) (maxLocals := n) (ret := ret) (handlers := q :: hs) hcode
      exact ⟨m', h0⟩
  obtain ⟨methM, cM, hmethM, -, -, -, -, -, -, hsigM⟩ := ez_code_spec hnamed hcode
  have hstatic : methM.isStatic = true := Cond.static_spec hnamed hmethM (hts _ hstat)
  obtain ⟨kP, hkP, -⟩ := className_of_methodNamed hnamed
  have hinitP : kP.init = .initialized := Cond.initialized_spec (findClass_of_methodNamed hnamed) hkP (hts _ hiw)
  have hlen : argsL.length = methM.sig.parameters.length := by
    rw [hsigM] at hpar
    exact hn.trans (Option.some.inj hpar).symm
  rcases hl with hl | ⟨host, hl⟩
  · obtain ⟨vm₁, X₁, hstep₁⟩ := X.invokestatic hexec hown (hts _ hl) hnamed hmethM hstatic hkP hinitP hy (g := g) hg (argsL := argsL) (rest := rest) hlen hstack hdg
    exact ⟨vm₁, mk, hnamed, X₁, fun target h => hstep₁ _ fun acts => by rw [doInvoke_state]; exact h⟩
  · obtain ⟨vm₁, X₁, hstep₁⟩ := X.invokestaticNest hexec hown (hts _ hl) hnamed hmethM hstatic hkP hinitP hy (g := g) hg (argsL := argsL) (rest := rest) hlen hstack hdg
    exact ⟨vm₁, mk, hnamed, X₁, fun target h => hstep₁ _ fun acts => by rw [doInvoke_state]; exact h⟩
theorem ez_goV (X : Stand p l e R s m args below meth c T locs cells slots) (hexec : p.tables.exec = Jvm.exec) (hts : ∀ w ∈ ez_T, w.before args s = true) {own : String} {index n : Nat} {Y : ez_X} (hok : ez_ok Y n)
    (hown : s.vm.findClass own = some m.cls) (hl : ez_link own index Y.1) (hinst : Cond.instanceMethod Y.1 ∈ ez_T) (hsel : Cond.selects Y.1.cls Y.1 Y.1 ∈ ez_T)
    {b : Addr} {cellB : Cell} (hcell : T.heap[b]? = some cellB) (hobj : cellB.vm.isStatics = false) (hcls : s.vm.findClass Y.1.cls = some cellB.cls)
    {g : JFrame} (hg : g.method = m) {argsL rest : List Value} (hn : argsL.length = n) (hstack : g.stack = argsL.reverse ++ .ref b :: rest) (hdg : decode c.code g.pc = .ok (.invokevirtual index, 3)) :
    ez_To p l e R s m args below meth c T locs cells slots Y.1 g rest (Value.ref b :: argsL).toArray := by
  obtain ⟨-, hcw, -, hy, hpar⟩ := hok
  obtain ⟨mk, methM, hnamed, hmethM, hstM, habM⟩ := Cond.instanceMethod_spec (hts _ hinst)
  obtain ⟨methM', cM, hmethM', -, -, -, -, -, -, hsigM⟩ := ez_code_spec hnamed (hts _ hcw)
  cases hmethM.symm.trans hmethM'
  obtain ⟨c2, r2, m2, q1, q2, q3, q4, kP, hkP, hkPi⟩ := Cond.selects_spec (hts _ hsel)
  cases hcls.symm.trans q1
  cases (State.methodFound?_of_named hnamed hy).symm.trans q2
  cases hnamed.symm.trans q3
  have hselP : selectMethod e.platform s.vm cellB.cls mk = .method mk := by rw [Launch.admits_selectMethod X.admits]; exact q4
  have hlen : argsL.length = methM.sig.parameters.length := by
    rw [hsigM] at hpar
    exact hn.trans (Option.some.inj hpar).symm
  rcases hl with hl | ⟨host, hl⟩
  · obtain ⟨vm₁, X₁, hstep₁⟩ := X.invokevirtual hexec hown (hts _ hl) hnamed hmethM hstM hkP hkPi hy (a := b) (cell := cellB) hcell
      (fun z h => by rw [h] at hobj; cases hobj) hselP hmethM habM hkP hkPi (g := g) hg (argsL := argsL) (rest := rest) hlen hstack hdg
    exact ⟨vm₁, mk, hnamed, X₁, fun target h => hstep₁ _ fun acts => by rw [doInvoke_state]; exact h⟩
  · obtain ⟨vm₁, X₁, hstep₁⟩ := X.invokevirtualNest hexec hown (hts _ hl) hnamed hmethM hstM hkP hkPi hy (a := b) (cell := cellB) hcell
      (fun z h => by rw [h] at hobj; cases hobj) hselP hmethM habM hkP hkPi (g := g) hg (argsL := argsL) (rest := rest) hlen hstack hdg
    exact ⟨vm₁, mk, hnamed, X₁, fun target h => hstep₁ _ fun acts => by rw [doInvoke_state]; exact h⟩
theorem ez_goI (X : Stand p l e R s m args below meth c T locs cells slots) (hexec : p.tables.exec = Jvm.exec) (hts : ∀ w ∈ ez_T, w.before args s = true) {own : String} {index n : Nat} {Y : ez_X} (hok : ez_ok Y n) (hy1 : Y.1.name = "<init>") (hr : Y.2.2.2.1 = none) (hh : ez_hs Y = [])
    (hown : s.vm.findClass own = some m.cls) (hl : ez_link own index Y.1) (hinst : Cond.instanceMethod Y.1 ∈ ez_T)
    {a : Addr} {g : JFrame} (hg : g.method = m) {argsL rest : List Value} (hn : argsL.length = n) (hstack : g.stack = argsL.reverse ++ .ref a :: rest) (hdg : decode c.code g.pc = .ok (.invokespecial index, 3)) :
    ez_To p l e R s m args below meth c T locs cells slots Y.1 g rest (Value.ref a :: argsL).toArray := by
  obtain ⟨y, cc, nl, ret, hs, rm⟩ := Y
  cases hr
  cases hh
  obtain ⟨-, hcw, -, hy, hpar⟩ := hok
  have hcode : (Cond.code y cc nl none).before args s = true := hts _ hcw
  have hpl : e.platform.magicAccessors = ({} : Platform).magicAccessors := by rw [X.admits.platform]
  have hlen : ∀ sig, parseMethodDescriptor y.desc = some sig → argsL.length = sig.parameters.length := fun sig h => by
    rw [h] at hpar
    exact hn.trans (Option.some.inj hpar).symm
  subst hg
  rcases hl with hl | ⟨host, hl⟩
  · obtain ⟨mk, methM, cM, kP, vm₁, hnamed, hmethM, hcodeM, -, hlocalsM, -, hkP, -, hW₁, hstep₁⟩ := Steps.initColdArgs (e := e) X.here hexec X.warmed hpl hown hy1 hy (hts _ hl) (hts _ hinst) hcode (f := g) rfl hlen hstack hdg
    exact ⟨vm₁, mk, hnamed, X.noted hW₁, fun target h => hstep₁ _ fun acts => by rw [doInvoke_state]; exact h⟩
  · obtain ⟨mk, methM, cM, kP, vm₁, hnamed, hmethM, hcodeM, -, hlocalsM, -, hkP, -, hW₁, hstep₁⟩ := Steps.initColdArgsNest (e := e) X.here hexec X.warmed hpl hown hy1 hy (hts _ hl) (hts _ hinst) hcode (f := g) rfl hlen hstack hdg
    exact ⟨vm₁, mk, hnamed, X.noted hW₁, fun target h => hstep₁ _ fun acts => by rw [doInvoke_state]; exact h⟩
end EzGo
/-! a call, in the layer -/
def ez_still (n n' : Nat) (ls : List (Option Value)) (rest : List Value) : Prop := ∀ ad ad' : Nat → Nat, (∀ k, ¬ (n ≤ k ∧ k < n') → ad' k = ad k) → rest.map (ez_v ad') = rest.map (ez_v ad) ∧ ∀ (i : Nat) (v : Value), ls[i]? = some (some v) → ez_v ad' v = ez_v ad v
theorem ez_still_eq (n : Nat) (ls : List (Option Value)) (rest : List Value) : ez_still n n ls rest := by
  intro ad ad' h
  have e : ad' = ad := funext fun k => h k (by omega)
  subst e
  exact ⟨rfl, fun _ _ _ => rfl⟩
def ez_old (n n' : Nat) (v : Value) : Bool := match v with
  | .ref k => !(decide (n ≤ k) && decide (k < n'))
  | _ => true
theorem ez_old_eq {n n' : Nat} {v : Value} (hv : ez_old n n' v = true) {ad ad' : Nat → Nat} (h : ∀ k, ¬ (n ≤ k ∧ k < n') → ad' k = ad k) : ez_v ad' v = ez_v ad v := by
  cases v <;> try rfl
  rename_i k
  have hk : ¬ (n ≤ k ∧ k < n') := fun ⟨a, b⟩ => by simp [ez_old, a, b] at hv
  simp only [ez_v]
  rw [h k hk]
theorem ez_still_of {n n' : Nat} {ls : List (Option Value)} {rest : List Value} (h1 : rest.all (ez_old n n') = true) (h2 : ls.all (fun o => match o with | some v => ez_old n n' v | none => true) = true) : ez_still n n' ls rest := by
  intro ad ad' h
  refine ⟨List.map_congr_left fun v hv => ez_old_eq (List.all_eq_true.mp h1 v hv) h, fun i v hi => ?_⟩
  exact ez_old_eq (List.all_eq_true.mp h2 _ (List.mem_of_getElem? hi)) h
/-- an exception of a kind has just come to this frame -/
def ez_Th (l : Launch) (G : ez_G) (X : ez_X) (uc us pc : Nat) (ls : List (Option Value)) (h : ez_H) (kx : Nat) (Q : ez_R → Prop) : Prop :=
  ∀ (p : Program) (e : Env) (s : State) (m : MethodId) (args : Array Value) (below : List Frame) (meth : Method) (c : Code) (A : Nat → Prop) (n0 : Nat) (ad0 ad : Nat → Nat) (H : Heap) (locs : List Loc) (cells slots : Nat) (L : Array Slot) (st : List Value) (x : Addr) (cell : Cell) (T : State),
    ez_In G X uc us ls h p s m args meth c A n0 ad0 ad H locs cells slots L → H[x]? = some cell → cell.vm = .none → s.vm.findClass (ez_exN kx) = some cell.cls → T.heap = H → Stand p l e (ez_rm X) s m args below meth c T locs cells slots →
    ∃ t, Steps p.tables e below ((T.setTop (F0 m pc L st)).pushFrame (.throwing x)) t ∧ ez_MQ X below s A (ez_Fin G A n0 ad0 Q) t
theorem ez_blind (G : ez_G) (ad : Nat → Nat) (sz : Nat) (as : List Value) (h : ez_H) : FrameBlind (ez_Pre G ad sz as h) := fun _ _ _ _ hp => hp
/-- a callee's room is there -/
def ez_fits (X Y : ez_X) (uc us : Nat) : Prop := (ez_fr Y + 1 ≤ ez_fr X ∧ 8 + (Y.2.2.1 + 11) + ez_lo Y ≤ ez_lo X) ∧ uc + ez_rc Y ≤ ez_rc X ∧ us + ez_rs Y ≤ ez_rs X
section EzCall
variable {l : Launch} {G : ez_G} {X Y : ez_X} {uc us pc pc' n : Nat} {ls : List (Option Value)} {st rest as : List Value} {h : ez_H} {Q Qc : ez_R → Prop}
theorem ez_call (hok : ez_ok Y n) (hC : ez_Ct l G Y as h Qc) (hroom : ez_fits X Y uc us) (hrest : (rest.map fun v => v.category).sum ≤ 8)
    (hto : ∀ (p : Program) (e : Env) (s : State) (m : MethodId) (args : Array Value) (below : List Frame) (meth : Method) (c : Code) (A : Nat → Prop) (n0 : Nat) (ad0 ad : Nat → Nat) (H : Heap) (locs : List Loc) (cells slots : Nat) (L : Array Slot) (T : State),
      ez_In G X uc us ls h p s m args meth c A n0 ad0 ad H locs cells slots L → T.heap = H → Stand p l e (ez_rm X) s m args below meth c T locs cells slots →
      ez_To p l e (ez_rm X) s m args below meth c T locs cells slots Y.1 (F0 m pc L (st.map (ez_v ad))) (rest.map (ez_v ad)) (as.map (ez_v ad)).toArray)
    (hdg : ∃ ig, decode X.2.1 pc = .ok (ig, 3)) (hp : pc + 3 = pc')
    (kr : ∀ v h', Qc (.inl v, h') → ez_still h.length h'.length ls rest ∧ ez_Ev l G X (uc + ez_mc Y) (us + ez_ms Y) pc' ls (v.toList ++ rest) h' Q)
    (kt : ∀ k h', Qc (.inr k, h') → h'.length = h.length ∧ ez_Th l G X (uc + ez_mc Y + 1) (us + ez_ms Y + 6) pc ls h' k Q) : ez_Ev l G X uc us pc ls st h Q := by
  intro p e s m args below meth c A n0 ad0 ad H locs cells slots L I T hT S
  obtain ⟨vm₁, mk, hnamed, S₁, hgo⟩ := hto p e s m args below meth c A n0 ad0 ad H locs cells slots L T I hT S
  obtain ⟨hctx, hA, ⟨hRo, hh9, had⟩, hn0, hag, hPw, hD, hS, hL, hc1, hs1⟩ := I
  obtain ⟨hx, hb, hml, hown, hts, hret, hlk, hhand, hK, -⟩ := id hctx
  obtain ⟨ig, hdg⟩ := hdg
  have hAH : ∀ q, va_A (ez_ws G ad h) H.size q → A q := by
    intro q hq
    rcases hq with ⟨k, e2, hk⟩ | hq
    · exact hD.2 k _ hk
    · exact hA q (Nat.le_trans hS.1 hq)
  have hweigh : 2 * (F0 m pc L (rest.map (ez_v ad))).monitorRoom + ((F0 m pc L (rest.map (ez_v ad))).stack.map fun v => v.category).sum ≤ 8 := by
    have e1 : ((rest.map (ez_v ad)).map fun v => v.category) = rest.map fun v => v.category := by
      rw [List.map_map]
      exact List.map_congr_left fun v _ => ez_cat ad v
    show 2 * 0 + ((rest.map (ez_v ad)).map fun v => v.category).sum ≤ 8
    rw [e1]
    omega
  have hpre : ez_Pre G ad H.size as h (as.map (ez_v ad)).toArray (T.setVm vm₁) := by
    refine ⟨rfl, by show T.heap.size = _; rw [hT], by show va_P _ _ _ T.heap; rw [hT]; exact hPw, ⟨hD.1, fun _ _ _ => trivial⟩, hK.moved S₁.warmed.alike, ?_, hh9, had⟩
    show ez_Ro G _ _ T.heap
    rw [hT]
    exact ((hRo.kept (fun q h1 h2 => hS.2.1 q h1 h2)).narrow hAH).moved S₁.warmed
  obtain ⟨o, st0, t, T', Lc, h0, S', hLc, e1, e2, ⟨hfin, hF⟩, hr, hth⟩ := ez_any (hC ad H.size) (ez_T_keep hts) hok.2.1 hok.2.2.1 (ez_blind G ad H.size as h) (R := ez_rm X) hroom.1.1 hroom.1.2 S₁
    (g := F0 m pc L (rest.map (ez_v ad))) (ig := ig) (len := 3) (mk := mk) (a := (as.map (ez_v ad)).toArray) rfl (by rw [hml]; exact hL.1) (by rw [hb]; exact hdg) hweigh (S₁.named hnamed) (by show cells + ez_rc Y ≤ ez_rc X; have := hroom.2.1; omega) (by show slots + ez_rs Y ≤ ez_rs X; have := hroom.2.2; omega) hpre
  have h0' : st0.heap = H := h0.trans hT
  obtain ⟨⟨r, h'⟩, ad', hq, ⟨hl', hl9⟩, hag', hP', hD', ho⟩ := hfin
  have hF1 : H.size ≤ T'.heap.size := by rw [e1, ← h0']; exact hF.1
  have hF2 : ∀ q : Nat, q < H.size → ¬ va_A (ez_ws G ad h) H.size q → T'.heap[q]? = H[q]? := fun q h1 h2 => by rw [e1, ← h0']; exact hF.2 q (by rw [h0']; exact h1) h2
  have hS' : va_S A s.heap T'.heap (locs ++ Lc) := by
    refine ⟨Nat.le_trans hS.1 hF1, fun q h1 h2 => ?_, fun q hq => ?_⟩
    · rw [hF2 q (Nat.lt_of_lt_of_le h1 hS.1) (fun z => h2 (hAH q z))]
      exact hS.2.1 q h1 h2
    · rcases List.mem_append.mp hq with h1 | h1
      · exact hS.2.2 q h1
      · exact hAH _ (hLc q h1)
  have hDA : va_D A (ez_ws G ad' h') := ⟨hD'.1, fun k q hk => hAH _ (hD'.2 k q hk)⟩
  have hPT : va_P G.1 ez_cl (ez_ws G ad' h') T'.heap := by rw [e1]; exact hP'
  have hag2 : ∀ k, ¬ (n0 ≤ k ∧ k < h'.length) → ad' k = ad0 k := fun k hk => (hag' k (by dsimp only; omega)).trans (hag k (by dsimp only at hl'; omega))
  have had2 : ∀ k, 900 ≤ k → ad' k = G.2.2.1 k := fun k hk => (hag' k (by dsimp only at hl9 ⊢; omega)).trans (had k hk)
  cases r with
  | inl v =>
    obtain ⟨hst, hev⟩ := kr v h' hq
    obtain ⟨hr1, hr2⟩ := hst ad ad' hag'
    subst ho
    have I' : ez_In G X (uc + ez_mc Y) (us + ez_ms Y) ls h' p s m args meth c A n0 ad0 ad' T'.heap (locs ++ Lc) (cells + ez_mc Y) (slots + ez_ms Y) L :=
      ⟨hctx, hA, ⟨hRo, hl9, had2⟩, Nat.le_trans hn0 hl', hag2, hPT, hDA, hS', ⟨hL.1, hL.2.1, fun i w hi => by rw [hr2 i w hi]; exact hL.2.2 i w hi⟩, by omega, by omega⟩
    obtain ⟨t2, a1, b1⟩ := hev p e s m args below meth c A n0 ad0 ad' T'.heap (locs ++ Lc) (cells + ez_mc Y) (slots + ez_ms Y) L I' T' rfl S'
    refine ⟨t2, hgo t2 ((hr _ rfl).trans ?_), b1⟩
    have e3 : (v.map (ez_v ad')).toList ++ rest.map (ez_v ad) = (v.toList ++ rest).map (ez_v ad') := by
      rw [← hr1]
      cases v <;> simp
    subst hp
    show Steps p.tables e below (T'.setTop (F0 m (pc + 3) L ((v.map (ez_v ad')).toList ++ rest.map (ez_v ad)))) t2
    rw [e3]
    exact a1
  | inr k =>
    obtain ⟨hle, hev⟩ := kt k h' hq
    obtain ⟨x, cell, ho1, ho2, ho3, ho4⟩ := ho
    have hlh : h.length = h'.length := hle.symm
    have e : ad' = ad := funext fun k => hag' k (by dsimp only; omega)
    subst e
    subst ho1
    have I' : ez_In G X (uc + ez_mc Y + 1) (us + ez_ms Y + 6) ls h' p s m args meth c A n0 ad0 ad' T'.heap (locs ++ Lc) (cells + (ez_mc Y + 1)) (slots + (ez_ms Y + 6)) L :=
      ⟨hctx, hA, ⟨hRo, hl9, had2⟩, Nat.le_trans hn0 hl', hag2, hPT, hDA, hS', hL, by omega, by omega⟩
    obtain ⟨t2, a1, b1⟩ := hev p e s m args below meth c A n0 ad0 ad' T'.heap (locs ++ Lc) (cells + (ez_mc Y + 1)) (slots + (ez_ms Y + 6)) L (rest.map (ez_v ad')) x cell T' I' (by rw [e1]; exact ho2) ho3 (by rw [← ho4, ← e2]; exact (S'.warmed.alike.findClass _ _).symm) rfl S'
    exact ⟨t2, hgo t2 ((hth x rfl).trans a1), b1⟩
/-- an exception leaves a method that has no handlers -/
theorem ez_Th_out (hX : ez_hs X = []) (hu : uc ≤ ez_mc X + 1 ∧ us ≤ ez_ms X + 6) (hq : Q (.inr n, h)) : ez_Th l G X uc us pc ls h n Q := by
  intro p e s m args below meth c A n0 ad0 ad H locs cells slots L st x cell T I hx1 hx2 hx3 hT S
  obtain ⟨⟨hx, hb, hml, hown, hts, hret, hlk, hhand, hK, -⟩, hA, ⟨hRo, hh9, had⟩, hn0, hag, hPw, hD, hS, hL, hc1, hs1⟩ := I
  have hout : ∀ y ∈ c.exceptionTable.toList, covers y (F0 m pc L st).pc = false := by
    rw [hX] at hhand
    rw [List.map_eq_nil_iff.mp hhand]
    intro y hy
    cases hy
  have S2 := stand_widen S (show cells ≤ ez_mc X + 1 by omega) (show slots ≤ ez_ms X + 6 by omega)
  obtain ⟨w1, w2, w3, w4, w5⟩ := S2.leaveThrown x (g := F0 m pc L st) rfl rfl rfl hout hlk
  refine ⟨_, w1, .threw x, w2, w3, ⟨(.inr n, h), ad, hq, ⟨hn0, hh9⟩, hag, by show va_P _ _ _ T.heap; rw [hT]; exact hPw, hD, x, cell, rfl, by show T.heap[x]? = _; rw [hT]; exact hx1, hx2, ?_⟩, hS.F hT, locs, ⟨w4, w5⟩, hS.2.2⟩
  show T.vm.findClass _ = _
  rw [S.warmed.alike.findClass]
  exact hx3
end EzCall
end
section
/-! ===== the layer's rows ===== -/
section EzRows
variable {l : Launch} {G : ez_G} {X : ez_X} {uc us pc pc' tgt : Nat} {ls : List (Option Value)} {st : List Value} {h : ez_H} {Q : ez_R → Prop}
/-- an instruction of so many bytes stands here, the next one there -/
def ez_at (X : ez_X) (pc : Nat) (i : Instr) (n pc' : Nat) : Prop := decode X.2.1 pc = .ok (i, n) ∧ pc + n = pc'
/-- a branch: its instruction, the next one, its offset, its target -/
def ez_br (X : ez_X) (pc : Nat) (i : Instr) (n pc' : Nat) (off : Int) (tgt : Nat) : Prop := decode X.2.1 pc = .ok (i, n) ∧ pc + n = pc' ∧ (pc : Int) + off = (tgt : Int)
theorem ez_pure {st' : List Value}
    (hW : ∀ (p : Program) (e : Env) (s : State) (m : MethodId) (args : Array Value) (below : List Frame) (meth : Method) (c : Code) (ad : Nat → Nat) (H : Heap) (locs : List Loc) (cells slots : Nat) (Qz : State → Prop) (L : Array Slot), p.tables.exec = Jvm.exec → c.code = X.2.1 →
      W p l e (ez_rm X) s m args below meth c H locs cells slots Qz (F0 m pc' L (st'.map (ez_v ad))) → W p l e (ez_rm X) s m args below meth c H locs cells slots Qz (F0 m pc L (st.map (ez_v ad))))
    (k : ez_Ev l G X uc us pc' ls st' h Q) : ez_Ev l G X uc us pc ls st h Q :=
  fun p e s m args below meth c A n0 ad0 ad H locs cells slots L I => hW p e s m args below meth c ad H locs cells slots _ L I.1.1 I.1.2.1 (k p e s m args below meth c A n0 ad0 ad H locs cells slots L I)
theorem ev_iconst {n : Int} {v : Int32} (hd : ez_at X pc (.iconst n) 1 pc') (hv : Int32.ofInt n = v) (k : ez_Ev l G X uc us pc' ls (.int v :: st) h Q) : ez_Ev l G X uc us pc ls st h Q := by
  obtain ⟨hd, rfl⟩ := hd
  exact ez_pure (st' := .int v :: st) (fun p e s m args below meth c ad H locs cells slots Qz L hx hb kk => lv_iconst hx hb hd hv kk) k
theorem ev_bipush {n : Int} {v : Int32} (hd : ez_at X pc (.bipush n) 2 pc') (hv : (Int8.ofInt n).toInt32 = v) (k : ez_Ev l G X uc us pc' ls (.int v :: st) h Q) : ez_Ev l G X uc us pc ls st h Q := by
  obtain ⟨hd, rfl⟩ := hd
  exact ez_pure (st' := .int v :: st) (fun p e s m args below meth c ad H locs cells slots Qz L hx hb kk => lv_bipush hx hb hd hv kk) k
theorem ev_sipush {n : Int} {v : Int32} (hd : ez_at X pc (.sipush n) 3 pc') (hv : (Int16.ofInt n).toInt32 = v) (k : ez_Ev l G X uc us pc' ls (.int v :: st) h Q) : ez_Ev l G X uc us pc ls st h Q := by
  obtain ⟨hd, rfl⟩ := hd
  exact ez_pure (st' := .int v :: st) (fun p e s m args below meth c ad H locs cells slots Qz L hx hb kk => lv_sipush hx hb hd hv kk) k
theorem ev_iadd {x y : Int32} (hd : ez_at X pc .iadd 1 pc') (k : ez_Ev l G X uc us pc' ls (.int (x + y) :: st) h Q) : ez_Ev l G X uc us pc ls (.int y :: .int x :: st) h Q := by
  obtain ⟨hd, rfl⟩ := hd
  exact ez_pure (st' := .int (x + y) :: st) (fun p e s m args below meth c ad H locs cells slots Qz L hx hb kk => lv_iadd hx hb hd kk) k
theorem ev_isub {x y : Int32} (hd : ez_at X pc .isub 1 pc') (k : ez_Ev l G X uc us pc' ls (.int (x - y) :: st) h Q) : ez_Ev l G X uc us pc ls (.int y :: .int x :: st) h Q := by
  obtain ⟨hd, rfl⟩ := hd
  exact ez_pure (st' := .int (x - y) :: st) (fun p e s m args below meth c ad H locs cells slots Qz L hx hb kk => lv_isub hx hb hd kk) k
theorem ev_imul {x y : Int32} (hd : ez_at X pc .imul 1 pc') (k : ez_Ev l G X uc us pc' ls (.int (x * y) :: st) h Q) : ez_Ev l G X uc us pc ls (.int y :: .int x :: st) h Q := by
  obtain ⟨hd, rfl⟩ := hd
  exact ez_pure (st' := .int (x * y) :: st) (fun p e s m args below meth c ad H locs cells slots Qz L hx hb kk => lv_imul hx hb hd kk) k
theorem ev_iand {x y : Int32} (hd : ez_at X pc .iand 1 pc') (k : ez_Ev l G X uc us pc' ls (.int (x &&& y) :: st) h Q) : ez_Ev l G X uc us pc ls (.int y :: .int x :: st) h Q := by
  obtain ⟨hd, rfl⟩ := hd
  exact ez_pure (st' := .int (x &&& y) :: st) (fun p e s m args below meth c ad H locs cells slots Qz L hx hb kk => lv_iand hx hb hd kk) k
theorem ev_ior {x y : Int32} (hd : ez_at X pc .ior 1 pc') (k : ez_Ev l G X uc us pc' ls (.int (x ||| y) :: st) h Q) : ez_Ev l G X uc us pc ls (.int y :: .int x :: st) h Q := by
  obtain ⟨hd, rfl⟩ := hd
  exact ez_pure (st' := .int (x ||| y) :: st) (fun p e s m args below meth c ad H locs cells slots Qz L hx hb kk => lv_ior hx hb hd kk) k
theorem ev_ixor {x y : Int32} (hd : ez_at X pc .ixor 1 pc') (k : ez_Ev l G X uc us pc' ls (.int (x ^^^ y) :: st) h Q) : ez_Ev l G X uc us pc ls (.int y :: .int x :: st) h Q := by
  obtain ⟨hd, rfl⟩ := hd
  exact ez_pure (st' := .int (x ^^^ y) :: st) (fun p e s m args below meth c ad H locs cells slots Qz L hx hb kk => lv_ixor hx hb hd kk) k
theorem ev_ishl {x y : Int32} (hd : ez_at X pc .ishl 1 pc') (k : ez_Ev l G X uc us pc' ls (.int (x <<< (y &&& 31)) :: st) h Q) : ez_Ev l G X uc us pc ls (.int y :: .int x :: st) h Q := by
  obtain ⟨hd, rfl⟩ := hd
  exact ez_pure (st' := .int (x <<< (y &&& 31)) :: st) (fun p e s m args below meth c ad H locs cells slots Qz L hx hb kk => lv_ishl hx hb hd kk) k
theorem ev_ishr {x y : Int32} (hd : ez_at X pc .ishr 1 pc') (k : ez_Ev l G X uc us pc' ls (.int (x >>> (y &&& 31)) :: st) h Q) : ez_Ev l G X uc us pc ls (.int y :: .int x :: st) h Q := by
  obtain ⟨hd, rfl⟩ := hd
  exact ez_pure (st' := .int (x >>> (y &&& 31)) :: st) (fun p e s m args below meth c ad H locs cells slots Qz L hx hb kk => lv_ishr hx hb hd kk) k
theorem ev_iushr {x y : Int32} (hd : ez_at X pc .iushr 1 pc') (k : ez_Ev l G X uc us pc' ls (.int ((x.toUInt32 >>> (y.toUInt32 &&& Int32.toUInt32 31)).toInt32) :: st) h Q) : ez_Ev l G X uc us pc ls (.int y :: .int x :: st) h Q := by
  obtain ⟨hd, rfl⟩ := hd
  exact ez_pure (st' := .int ((x.toUInt32 >>> (y.toUInt32 &&& Int32.toUInt32 31)).toInt32) :: st) (fun p e s m args below meth c ad H locs cells slots Qz L hx hb kk => lv_iushr hx hb hd rfl kk) k
theorem ev_idiv {x y : Int32} (hd : ez_at X pc .idiv 1 pc') (hne : ¬ y = 0) (k : ez_Ev l G X uc us pc' ls (.int (x / y) :: st) h Q) : ez_Ev l G X uc us pc ls (.int y :: .int x :: st) h Q := by
  obtain ⟨hd, rfl⟩ := hd
  exact ez_pure (st' := .int (x / y) :: st) (fun p e s m args below meth c ad H locs cells slots Qz L hx hb kk => lv_idiv hx hb hd hne kk) k
theorem ev_irem {x y : Int32} (hd : ez_at X pc .irem 1 pc') (hne : ¬ y = 0) (k : ez_Ev l G X uc us pc' ls (.int (x - x / y * y) :: st) h Q) : ez_Ev l G X uc us pc ls (.int y :: .int x :: st) h Q := by
  obtain ⟨hd, rfl⟩ := hd
  exact ez_pure (st' := .int (x - x / y * y) :: st) (fun p e s m args below meth c ad H locs cells slots Qz L hx hb kk => lv_irem hx hb hd hne kk) k
theorem ev_ineg {x : Int32} (hd : ez_at X pc .ineg 1 pc') (k : ez_Ev l G X uc us pc' ls (.int (-x) :: st) h Q) : ez_Ev l G X uc us pc ls (.int x :: st) h Q := by
  obtain ⟨hd, rfl⟩ := hd
  exact ez_pure (st' := .int (-x) :: st) (fun p e s m args below meth c ad H locs cells slots Qz L hx hb kk => lv_ineg hx hb hd kk) k
theorem ev_goto {off : Int} {n : Nat} (hd : ez_br X pc (.goto off) 3 n off tgt) (k : ez_Ev l G X uc us tgt ls st h Q) : ez_Ev l G X uc us pc ls st h Q :=
  ez_pure (fun p e s m args below meth c ad H locs cells slots Qz L hx hb kk => lv_goto hx hb hd.1 hd.2.2 kk) k
theorem ev_dup {v : Value} (hd : ez_at X pc .dup 1 pc') (hc : v.category = 1) (k : ez_Ev l G X uc us pc' ls (v :: v :: st) h Q) : ez_Ev l G X uc us pc ls (v :: st) h Q := by
  obtain ⟨hd, rfl⟩ := hd
  exact ez_pure (st' := v :: v :: st) (fun p e s m args below meth c ad H locs cells slots Qz L hx hb kk => lv_dup hx hb hd ((ez_cat ad v).trans hc) kk) k
theorem ev_dup2 {v w : Value} (hd : ez_at X pc .dup2 1 pc') (hc : v.category = 1) (hc2 : w.category = 1) (k : ez_Ev l G X uc us pc' ls (v :: w :: v :: w :: st) h Q) : ez_Ev l G X uc us pc ls (v :: w :: st) h Q := by
  obtain ⟨hd, rfl⟩ := hd
  exact ez_pure (st' := v :: w :: v :: w :: st) (fun p e s m args below meth c ad H locs cells slots Qz L hx hb kk => lv_dup2_11 hx hb hd ((ez_cat ad v).trans hc) ((ez_cat ad w).trans hc2) kk) k
theorem ev_pop {v : Value} (hd : ez_at X pc .pop 1 pc') (hc : v.category = 1) (k : ez_Ev l G X uc us pc' ls st h Q) : ez_Ev l G X uc us pc ls (v :: st) h Q := by
  obtain ⟨hd, rfl⟩ := hd
  exact ez_pure (st' := st) (fun p e s m args below meth c ad H locs cells slots Qz L hx hb kk => lv_pop hx hb hd ((ez_cat ad v).trans hc) kk) k
theorem ev_icmp_eq {x y : Int32} {off : Int} (hd : ez_br X pc (.if_icmp .eq off) 3 pc' off tgt) (kt : x = y → ez_Ev l G X uc us tgt ls st h Q) (kf : ¬ x = y → ez_Ev l G X uc us pc' ls st h Q) : ez_Ev l G X uc us pc ls (.int y :: .int x :: st) h Q := by
  obtain ⟨hd, rfl, ht⟩ := hd
  intro p e s m args below meth c A n0 ad0 ad H locs cells slots L I
  exact lv_icmp_eq I.1.1 I.1.2.1 hd ht (fun hc => kt hc p e s m args below meth c A n0 ad0 ad H locs cells slots L I) (fun hc => kf hc p e s m args below meth c A n0 ad0 ad H locs cells slots L I)
theorem ev_icmp_ne {x y : Int32} {off : Int} (hd : ez_br X pc (.if_icmp .ne off) 3 pc' off tgt) (kt : ¬ x = y → ez_Ev l G X uc us tgt ls st h Q) (kf : x = y → ez_Ev l G X uc us pc' ls st h Q) : ez_Ev l G X uc us pc ls (.int y :: .int x :: st) h Q := by
  obtain ⟨hd, rfl, ht⟩ := hd
  intro p e s m args below meth c A n0 ad0 ad H locs cells slots L I
  exact lv_icmp_ne I.1.1 I.1.2.1 hd ht (fun hc => kt hc p e s m args below meth c A n0 ad0 ad H locs cells slots L I) (fun hc => kf hc p e s m args below meth c A n0 ad0 ad H locs cells slots L I)
theorem ev_icmp_lt {x y : Int32} {off : Int} (hd : ez_br X pc (.if_icmp .lt off) 3 pc' off tgt) (kt : x < y → ez_Ev l G X uc us tgt ls st h Q) (kf : ¬ x < y → ez_Ev l G X uc us pc' ls st h Q) : ez_Ev l G X uc us pc ls (.int y :: .int x :: st) h Q := by
  obtain ⟨hd, rfl, ht⟩ := hd
  intro p e s m args below meth c A n0 ad0 ad H locs cells slots L I
  exact lv_icmp_lt I.1.1 I.1.2.1 hd ht (fun hc => kt hc p e s m args below meth c A n0 ad0 ad H locs cells slots L I) (fun hc => kf hc p e s m args below meth c A n0 ad0 ad H locs cells slots L I)
theorem ev_icmp_ge {x y : Int32} {off : Int} (hd : ez_br X pc (.if_icmp .ge off) 3 pc' off tgt) (kt : y ≤ x → ez_Ev l G X uc us tgt ls st h Q) (kf : ¬ y ≤ x → ez_Ev l G X uc us pc' ls st h Q) : ez_Ev l G X uc us pc ls (.int y :: .int x :: st) h Q := by
  obtain ⟨hd, rfl, ht⟩ := hd
  intro p e s m args below meth c A n0 ad0 ad H locs cells slots L I
  exact lv_icmp_ge I.1.1 I.1.2.1 hd ht (fun hc => kt hc p e s m args below meth c A n0 ad0 ad H locs cells slots L I) (fun hc => kf hc p e s m args below meth c A n0 ad0 ad H locs cells slots L I)
theorem ev_icmp_gt {x y : Int32} {off : Int} (hd : ez_br X pc (.if_icmp .gt off) 3 pc' off tgt) (kt : y < x → ez_Ev l G X uc us tgt ls st h Q) (kf : ¬ y < x → ez_Ev l G X uc us pc' ls st h Q) : ez_Ev l G X uc us pc ls (.int y :: .int x :: st) h Q := by
  obtain ⟨hd, rfl, ht⟩ := hd
  intro p e s m args below meth c A n0 ad0 ad H locs cells slots L I
  exact lv_icmp_gt I.1.1 I.1.2.1 hd ht (fun hc => kt hc p e s m args below meth c A n0 ad0 ad H locs cells slots L I) (fun hc => kf hc p e s m args below meth c A n0 ad0 ad H locs cells slots L I)
theorem ev_icmp_le {x y : Int32} {off : Int} (hd : ez_br X pc (.if_icmp .le off) 3 pc' off tgt) (kt : x ≤ y → ez_Ev l G X uc us tgt ls st h Q) (kf : ¬ x ≤ y → ez_Ev l G X uc us pc' ls st h Q) : ez_Ev l G X uc us pc ls (.int y :: .int x :: st) h Q := by
  obtain ⟨hd, rfl, ht⟩ := hd
  intro p e s m args below meth c A n0 ad0 ad H locs cells slots L I
  exact lv_icmp_le I.1.1 I.1.2.1 hd ht (fun hc => kt hc p e s m args below meth c A n0 ad0 ad H locs cells slots L I) (fun hc => kf hc p e s m args below meth c A n0 ad0 ad H locs cells slots L I)
theorem ev_if_eq {x : Int32} {off : Int} (hd : ez_br X pc (.ifCond .eq off) 3 pc' off tgt) (kt : x = 0 → ez_Ev l G X uc us tgt ls st h Q) (kf : ¬ x = 0 → ez_Ev l G X uc us pc' ls st h Q) : ez_Ev l G X uc us pc ls (.int x :: st) h Q := by
  obtain ⟨hd, rfl, ht⟩ := hd
  intro p e s m args below meth c A n0 ad0 ad H locs cells slots L I
  exact lv_if_eq I.1.1 I.1.2.1 hd ht (fun hc => kt hc p e s m args below meth c A n0 ad0 ad H locs cells slots L I) (fun hc => kf hc p e s m args below meth c A n0 ad0 ad H locs cells slots L I)
theorem ev_if_ne {x : Int32} {off : Int} (hd : ez_br X pc (.ifCond .ne off) 3 pc' off tgt) (kt : ¬ x = 0 → ez_Ev l G X uc us tgt ls st h Q) (kf : x = 0 → ez_Ev l G X uc us pc' ls st h Q) : ez_Ev l G X uc us pc ls (.int x :: st) h Q := by
  obtain ⟨hd, rfl, ht⟩ := hd
  intro p e s m args below meth c A n0 ad0 ad H locs cells slots L I
  exact lv_if_ne I.1.1 I.1.2.1 hd ht (fun hc => kt hc p e s m args below meth c A n0 ad0 ad H locs cells slots L I) (fun hc => kf hc p e s m args below meth c A n0 ad0 ad H locs cells slots L I)
theorem ev_if_lt {x : Int32} {off : Int} (hd : ez_br X pc (.ifCond .lt off) 3 pc' off tgt) (kt : x < 0 → ez_Ev l G X uc us tgt ls st h Q) (kf : ¬ x < 0 → ez_Ev l G X uc us pc' ls st h Q) : ez_Ev l G X uc us pc ls (.int x :: st) h Q := by
  obtain ⟨hd, rfl, ht⟩ := hd
  intro p e s m args below meth c A n0 ad0 ad H locs cells slots L I
  exact lv_if_lt I.1.1 I.1.2.1 hd ht (fun hc => kt hc p e s m args below meth c A n0 ad0 ad H locs cells slots L I) (fun hc => kf hc p e s m args below meth c A n0 ad0 ad H locs cells slots L I)
theorem ev_if_ge {x : Int32} {off : Int} (hd : ez_br X pc (.ifCond .ge off) 3 pc' off tgt) (kt : 0 ≤ x → ez_Ev l G X uc us tgt ls st h Q) (kf : ¬ 0 ≤ x → ez_Ev l G X uc us pc' ls st h Q) : ez_Ev l G X uc us pc ls (.int x :: st) h Q := by
  obtain ⟨hd, rfl, ht⟩ := hd
  intro p e s m args below meth c A n0 ad0 ad H locs cells slots L I
  exact lv_if_ge I.1.1 I.1.2.1 hd ht (fun hc => kt hc p e s m args below meth c A n0 ad0 ad H locs cells slots L I) (fun hc => kf hc p e s m args below meth c A n0 ad0 ad H locs cells slots L I)
theorem ev_if_gt {x : Int32} {off : Int} (hd : ez_br X pc (.ifCond .gt off) 3 pc' off tgt) (kt : 0 < x → ez_Ev l G X uc us tgt ls st h Q) (kf : ¬ 0 < x → ez_Ev l G X uc us pc' ls st h Q) : ez_Ev l G X uc us pc ls (.int x :: st) h Q := by
  obtain ⟨hd, rfl, ht⟩ := hd
  intro p e s m args below meth c A n0 ad0 ad H locs cells slots L I
  exact lv_if_gt I.1.1 I.1.2.1 hd ht (fun hc => kt hc p e s m args below meth c A n0 ad0 ad H locs cells slots L I) (fun hc => kf hc p e s m args below meth c A n0 ad0 ad H locs cells slots L I)
theorem ev_if_le {x : Int32} {off : Int} (hd : ez_br X pc (.ifCond .le off) 3 pc' off tgt) (kt : x ≤ 0 → ez_Ev l G X uc us tgt ls st h Q) (kf : ¬ x ≤ 0 → ez_Ev l G X uc us pc' ls st h Q) : ez_Ev l G X uc us pc ls (.int x :: st) h Q := by
  obtain ⟨hd, rfl, ht⟩ := hd
  intro p e s m args below meth c A n0 ad0 ad H locs cells slots L I
  exact lv_if_le I.1.1 I.1.2.1 hd ht (fun hc => kt hc p e s m args below meth c A n0 ad0 ad H locs cells slots L I) (fun hc => kf hc p e s m args below meth c A n0 ad0 ad H locs cells slots L I)
theorem ev_iload_n {k : Fin 4} {i : Nat} {x : Int32} (hd : ez_at X pc (.iload_n k) 1 pc') (hi : (k : Nat) = i) (hl : ls[i]? = some (some (.int x))) (kk : ez_Ev l G X uc us pc' ls (.int x :: st) h Q) : ez_Ev l G X uc us pc ls st h Q := by
  obtain ⟨hd, rfl⟩ := hd
  intro p e s m args below meth c A n0 ad0 ad H locs cells slots L I
  exact lv_iload_n I.1.1 I.1.2.1 hd hi (I.2.2.2.2.2.2.2.2.1.2.2 i _ hl).2 (kk p e s m args below meth c A n0 ad0 ad H locs cells slots L I)
theorem ev_iload {i : Nat} {x : Int32} (hd : ez_at X pc (.iload i) 2 pc') (hl : ls[i]? = some (some (.int x))) (kk : ez_Ev l G X uc us pc' ls (.int x :: st) h Q) : ez_Ev l G X uc us pc ls st h Q := by
  obtain ⟨hd, rfl⟩ := hd
  intro p e s m args below meth c A n0 ad0 ad H locs cells slots L I
  exact lv_iload I.1.1 I.1.2.1 hd (I.2.2.2.2.2.2.2.2.1.2.2 i _ hl).2 (kk p e s m args below meth c A n0 ad0 ad H locs cells slots L I)
theorem ev_aload_n {k : Fin 4} {i : Nat} {x : Nat} (hd : ez_at X pc (.aload_n k) 1 pc') (hi : (k : Nat) = i) (hl : ls[i]? = some (some (.ref x))) (kk : ez_Ev l G X uc us pc' ls (.ref x :: st) h Q) : ez_Ev l G X uc us pc ls st h Q := by
  obtain ⟨hd, rfl⟩ := hd
  intro p e s m args below meth c A n0 ad0 ad H locs cells slots L I
  exact lv_aload_n I.1.1 I.1.2.1 hd hi (I.2.2.2.2.2.2.2.2.1.2.2 i _ hl).2 (kk p e s m args below meth c A n0 ad0 ad H locs cells slots L I)
theorem ev_aload {i : Nat} {x : Nat} (hd : ez_at X pc (.aload i) 2 pc') (hl : ls[i]? = some (some (.ref x))) (kk : ez_Ev l G X uc us pc' ls (.ref x :: st) h Q) : ez_Ev l G X uc us pc ls st h Q := by
  obtain ⟨hd, rfl⟩ := hd
  intro p e s m args below meth c A n0 ad0 ad H locs cells slots L I
  exact lv_aload I.1.1 I.1.2.1 hd (I.2.2.2.2.2.2.2.2.1.2.2 i _ hl).2 (kk p e s m args below meth c A n0 ad0 ad H locs cells slots L I)
/-- the known locals, listed -/
def ez_lv (ad : Nat → Nat) (ls : List (Option Value)) : List (Nat × Value) := (List.range ls.length).filterMap fun i => (ls[i]?.join).map fun v => (i, ez_v ad v)
theorem ez_lv_mem {ad : Nat → Nat} {ls : List (Option Value)} {q : Nat × Value} (hq : q ∈ ez_lv ad ls) : ∃ v, ls[q.1]? = some (some v) ∧ q.2 = ez_v ad v := by
  obtain ⟨i, -, hi⟩ := List.mem_filterMap.mp hq
  cases hj : ls[i]?.join with
  | none => rw [hj] at hi; cases hi
  | some v =>
    rw [hj] at hi
    cases hi
    refine ⟨v, ?_, rfl⟩
    cases hk : ls[i]? with
    | none => rw [hk] at hj; cases hj
    | some o => rw [hk] at hj; simp only [Option.join_some] at hj; rw [hj]
theorem ez_lv_in {ad : Nat → Nat} {ls : List (Option Value)} {i : Nat} {v : Value} (h : ls[i]? = some (some v)) : (i, ez_v ad v) ∈ ez_lv ad ls :=
  List.mem_filterMap.mpr ⟨i, List.mem_range.mpr (List.getElem?_eq_some_iff.mp h).1, by rw [h]; rfl⟩
theorem ez_lv_has {ad : Nat → Nat} {n : Nat} {ls : List (Option Value)} {L : Array Slot} (h : ez_L ad n ls L) : lv_has L n (ez_lv ad ls) := by
  refine ⟨h.1, h.2.1, fun q hq => ?_⟩
  obtain ⟨v, h1, h2⟩ := ez_lv_mem hq
  rw [h2]
  exact (h.2.2 q.1 v h1).2
theorem ez_L_put {ad : Nat → Nat} {n i : Nat} {ls : List (Option Value)} {L L' : Array Slot} {v : Value} (h : ez_L ad n ls L) (hc : v.category = 1)
    (h' : lv_has L' n ((i, ez_v ad v) :: (ez_lv ad ls).filter (fun q => !(q.1 == i) && !(q.1 + 1 == i && q.2.category == 2)))) : ez_L ad n (ls.set i (some v)) L' := by
  refine ⟨h'.1, h'.2.1, fun j w hj => ?_⟩
  rw [List.getElem?_set] at hj
  by_cases hij : i = j
  · subst hij
    rw [if_pos rfl] at hj
    split at hj
    · simp only [Option.some.injEq] at hj
      subst hj
      exact ⟨hc, h'.2.2 _ List.mem_cons_self⟩
    · cases hj
  · rw [if_neg hij] at hj
    have h1 := (h.2.2 j w hj).1
    refine ⟨h1, h'.2.2 (j, ez_v ad w) (List.mem_cons_of_mem _ (List.mem_filter.mpr ⟨ez_lv_in hj, ?_⟩))⟩
    have h2 : ¬ (ez_v ad w).category = 2 := by rw [ez_cat, h1]; decide
    simp [h2, Ne.symm hij]
theorem ez_In_ls {ls' : List (Option Value)} {h : ez_H} {p : Program} {s : State} {m : MethodId} {args : Array Value} {meth : Method} {c : Code} {A : Nat → Prop} {n0 : Nat} {ad0 ad : Nat → Nat} {H : Heap} {locs : List Loc} {cells slots : Nat} {L L' : Array Slot}
    (I : ez_In G X uc us ls h p s m args meth c A n0 ad0 ad H locs cells slots L) (hL : ez_L ad X.2.2.1 ls' L') : ez_In G X uc us ls' h p s m args meth c A n0 ad0 ad H locs cells slots L' :=
  ⟨I.1, I.2.1, I.2.2.1, I.2.2.2.1, I.2.2.2.2.1, I.2.2.2.2.2.1, I.2.2.2.2.2.2.1, I.2.2.2.2.2.2.2.1, hL, I.2.2.2.2.2.2.2.2.2⟩
theorem ev_istore_n {k : Fin 4} {i : Nat} {x : Int32} (hd : ez_at X pc (.istore_n k) 1 pc') (hi : (k : Nat) = i) (hn : i < X.2.2.1) (kk : ez_Ev l G X uc us pc' (ls.set i (some (.int x))) st h Q) : ez_Ev l G X uc us pc ls (.int x :: st) h Q := by
  obtain ⟨hd, rfl⟩ := hd
  intro p e s m args below meth c A n0 ad0 ad H locs cells slots L I
  exact lv_istore_n I.1.1 I.1.2.1 hd hi (ez_lv_has I.2.2.2.2.2.2.2.2.1) hn rfl (fun L' hL' => kk p e s m args below meth c A n0 ad0 ad H locs cells slots L' (ez_In_ls I (ez_L_put I.2.2.2.2.2.2.2.2.1 rfl hL')))
theorem ev_istore {i : Nat} {x : Int32} (hd : ez_at X pc (.istore i) 2 pc') (hn : i < X.2.2.1) (kk : ez_Ev l G X uc us pc' (ls.set i (some (.int x))) st h Q) : ez_Ev l G X uc us pc ls (.int x :: st) h Q := by
  obtain ⟨hd, rfl⟩ := hd
  intro p e s m args below meth c A n0 ad0 ad H locs cells slots L I
  exact lv_istore I.1.1 I.1.2.1 hd (ez_lv_has I.2.2.2.2.2.2.2.2.1) hn rfl (fun L' hL' => kk p e s m args below meth c A n0 ad0 ad H locs cells slots L' (ez_In_ls I (ez_L_put I.2.2.2.2.2.2.2.2.1 rfl hL')))
theorem ev_astore_n {k : Fin 4} {i : Nat} {x : Nat} (hd : ez_at X pc (.astore_n k) 1 pc') (hi : (k : Nat) = i) (hn : i < X.2.2.1) (kk : ez_Ev l G X uc us pc' (ls.set i (some (.ref x))) st h Q) : ez_Ev l G X uc us pc ls (.ref x :: st) h Q := by
  obtain ⟨hd, rfl⟩ := hd
  intro p e s m args below meth c A n0 ad0 ad H locs cells slots L I
  exact lv_astore_n I.1.1 I.1.2.1 hd hi (ez_lv_has I.2.2.2.2.2.2.2.2.1) hn rfl (fun L' hL' => kk p e s m args below meth c A n0 ad0 ad H locs cells slots L' (ez_In_ls I (ez_L_put I.2.2.2.2.2.2.2.2.1 rfl hL')))
theorem ev_astore {i : Nat} {x : Nat} (hd : ez_at X pc (.astore i) 2 pc') (hn : i < X.2.2.1) (kk : ez_Ev l G X uc us pc' (ls.set i (some (.ref x))) st h Q) : ez_Ev l G X uc us pc ls (.ref x :: st) h Q := by
  obtain ⟨hd, rfl⟩ := hd
  intro p e s m args below meth c A n0 ad0 ad H locs cells slots L I
  exact lv_astore I.1.1 I.1.2.1 hd (ez_lv_has I.2.2.2.2.2.2.2.2.1) hn rfl (fun L' hL' => kk p e s m args below meth c A n0 ad0 ad H locs cells slots L' (ez_In_ls I (ez_L_put I.2.2.2.2.2.2.2.2.1 rfl hL')))
theorem ev_iinc {i : Nat} {n : Int} {x v : Int32} (hd : ez_at X pc (.iinc i n) 3 pc') (hl : ls[i]? = some (some (.int x))) (hv : x + Int32.ofInt n = v) (hn : i < X.2.2.1) (kk : ez_Ev l G X uc us pc' (ls.set i (some (.int v))) st h Q) : ez_Ev l G X uc us pc ls st h Q := by
  obtain ⟨hd, rfl⟩ := hd
  intro p e s m args below meth c A n0 ad0 ad H locs cells slots L I
  obtain ⟨k, hk⟩ := List.getElem?_of_mem (ez_lv_in (ad := ad) hl)
  exact lv_iinc I.1.1 I.1.2.1 hd (ez_lv_has I.2.2.2.2.2.2.2.2.1) hk hv hn rfl (fun L' hL' => kk p e s m args below meth c A n0 ad0 ad H locs cells slots L' (ez_In_ls I (ez_L_put (v := .int v) I.2.2.2.2.2.2.2.2.1 rfl hL')))
/-- forget locals -/
theorem ev_ls (ls' : List (Option Value)) (hl : ∀ (i : Nat) (v : Value), ls'[i]? = some (some v) → ls[i]? = some (some v)) (kk : ez_Ev l G X uc us pc ls' st h Q) : ez_Ev l G X uc us pc ls st h Q := by
  intro p e s m args below meth c A n0 ad0 ad H locs cells slots L I
  exact kk p e s m args below meth c A n0 ad0 ad H locs cells slots L (ez_In_ls I ⟨I.2.2.2.2.2.2.2.2.1.1, I.2.2.2.2.2.2.2.2.1.2.1, fun i v hv => I.2.2.2.2.2.2.2.2.1.2.2 i v (hl i v hv)⟩)
def ez_mask : List Bool → List (Option Value) → List (Option Value)
  | true :: bs, o :: l => o :: ez_mask bs l
  | false :: bs, _ :: l => none :: ez_mask bs l
  | _, _ => []
theorem ez_mask_le : ∀ (bs : List Bool) (l : List (Option Value)) (i : Nat) (v : Value), (ez_mask bs l)[i]? = some (some v) → l[i]? = some (some v) := by
  intro bs
  induction bs with
  | nil => intro l i v h; cases l <;> simp [ez_mask] at h
  | cons b bs ih =>
    intro l i v h
    cases l with
    | nil => cases b <;> simp [ez_mask] at h
    | cons o l =>
      cases b <;> cases i <;> simp only [ez_mask, List.getElem?_cons_zero, List.getElem?_cons_succ] at h ⊢
      · cases h
      · exact ih l _ v h
      · exact h
      · exact ih l _ v h
theorem ev_mask (bm : List Bool) {ls' : List (Option Value)} (hl : ez_mask bm ls = ls') (kk : ez_Ev l G X uc us pc ls' st h Q) : ez_Ev l G X uc us pc ls st h Q :=
  ev_ls ls' (fun i v hv => ez_mask_le bm ls i v (by rw [hl]; exact hv)) kk
theorem ev_mono {Q' : ez_R → Prop} (hq : ∀ r, Q' r → Q r) (kk : ez_Ev l G X uc us pc ls st h Q') : ez_Ev l G X uc us pc ls st h Q := by
  intro p e s m args below meth c A n0 ad0 ad H locs cells slots L I T hT S
  obtain ⟨t, a1, o, b1, b2, ⟨r, ad', c1, c2⟩, b4⟩ := kk p e s m args below meth c A n0 ad0 ad H locs cells slots L I T hT S
  exact ⟨t, a1, o, b1, b2, ⟨r, ad', hq r c1, c2⟩, b4⟩
/-- more is taken as used -/
theorem ev_more {uc' us' : Nat} (h1 : uc ≤ uc') (h2 : us ≤ us') (kk : ez_Ev l G X uc' us' pc ls st h Q) : ez_Ev l G X uc us pc ls st h Q := by
  intro p e s m args below meth c A n0 ad0 ad H locs cells slots L I
  exact kk p e s m args below meth c A n0 ad0 ad H locs cells slots L ⟨I.1, I.2.1, I.2.2.1, I.2.2.2.1, I.2.2.2.2.1, I.2.2.2.2.2.1, I.2.2.2.2.2.2.1, I.2.2.2.2.2.2.2.1, I.2.2.2.2.2.2.2.2.1, Nat.le_trans I.2.2.2.2.2.2.2.2.2.1 h1, Nat.le_trans I.2.2.2.2.2.2.2.2.2.2 h2⟩
/-- a cell is written -/
theorem ez_In_set {k : Nat} {q : ez_Cell} {h : ez_H} {p : Program} {s : State} {m : MethodId} {args : Array Value} {meth : Method} {c : Code} {A : Nat → Prop} {n0 : Nat} {ad0 ad : Nat → Nat} {H H1 : Heap} {locs locs1 : List Loc} {cells slots : Nat} {L : Array Slot}
    (I : ez_In G X uc us ls h p s m args meth c A n0 ad0 ad H locs cells slots L) (hP1 : va_P G.1 ez_cl ((ez_ws G ad h).set k (ad k, ez_e G.2.1 ad q)) H1) (hD1 : va_D A ((ez_ws G ad h).set k (ad k, ez_e G.2.1 ad q))) (hS1 : va_S A s.heap H1 locs1) : ez_In G X uc us ls (h.set k q) p s m args meth c A n0 ad0 ad H1 locs1 cells slots L :=
  ⟨I.1, I.2.1, ⟨I.2.2.1.1, by rw [List.length_set]; exact I.2.2.1.2.1, I.2.2.1.2.2⟩, by rw [List.length_set]; exact I.2.2.2.1, by rw [List.length_set]; exact I.2.2.2.2.1, by rw [ez_ws_set]; exact hP1, by rw [ez_ws_set]; exact hD1, hS1, I.2.2.2.2.2.2.2.2.1, I.2.2.2.2.2.2.2.2.2⟩
theorem ev_iald {k n : Nat} {f : Nat → Int32} {i : Int32} (hd : ez_at X pc .iaload 1 pc') (hk : h[k]? = some (.inl (.int, (n, .inl f)))) (hin : vp_in i n) (kk : ez_Ev l G X uc us pc' ls (.int (f i.toNatClampNeg) :: st) h Q) : ez_Ev l G X uc us pc ls (.int i :: .ref k :: st) h Q := by
  obtain ⟨hd, rfl⟩ := hd
  intro p e s m args below meth c A n0 ad0 ad H locs cells slots L I
  exact va_iald I.1.1 I.1.2.1 I.1.2.2.2.2.2.2.2.2.1 I.2.2.2.2.2.1 k 0 (ez_ws_get G ad hk) rfl hin hd (kk p e s m args below meth c A n0 ad0 ad H locs cells slots L I)
theorem ev_zald {k n : Nat} {f : Nat → Int32} {i : Int32} (hd : ez_at X pc .baload 1 pc') (hk : h[k]? = some (.inl (.boolean, (n, .inl f)))) (hin : vp_in i n) (kk : ez_Ev l G X uc us pc' ls (.int (f i.toNatClampNeg) :: st) h Q) : ez_Ev l G X uc us pc ls (.int i :: .ref k :: st) h Q := by
  obtain ⟨hd, rfl⟩ := hd
  intro p e s m args below meth c A n0 ad0 ad H locs cells slots L I
  exact va_zald I.1.1 I.1.2.1 I.1.2.2.2.2.2.2.2.2.1 I.2.2.2.2.2.1 k 1 (ez_ws_get G ad hk) rfl hin hd (kk p e s m args below meth c A n0 ad0 ad H locs cells slots L I)
theorem ev_lald {k n : Nat} {f : Nat → Int64} {i : Int32} (hd : ez_at X pc .laload 1 pc') (hk : h[k]? = some (.inl (.long, (n, .inr (.inl f))))) (hin : vp_in i n) (kk : ez_Ev l G X uc us pc' ls (.long (f i.toNatClampNeg) :: st) h Q) : ez_Ev l G X uc us pc ls (.int i :: .ref k :: st) h Q := by
  obtain ⟨hd, rfl⟩ := hd
  intro p e s m args below meth c A n0 ad0 ad H locs cells slots L I
  exact va_lald I.1.1 I.1.2.1 I.1.2.2.2.2.2.2.2.2.1 I.2.2.2.2.2.1 k 2 (ez_ws_get G ad hk) rfl hin hd (kk p e s m args below meth c A n0 ad0 ad H locs cells slots L I)
theorem ev_iast {k n : Nat} {f : Nat → Int32} {i x : Int32} (hd : ez_at X pc .iastore 1 pc') (hk : h[k]? = some (.inl (.int, (n, .inl f)))) (hin : vp_in i n) (kk : ez_Ev l G X uc us pc' ls st (h.set k (.inl (.int, (n, .inl (upd f i.toNatClampNeg x))))) Q) : ez_Ev l G X uc us pc ls (.int x :: .int i :: .ref k :: st) h Q := by
  obtain ⟨hd, rfl⟩ := hd
  intro p e s m args below meth c A n0 ad0 ad H locs cells slots L I
  exact va_iast I.1.1 I.1.2.1 I.1.2.2.2.2.2.2.2.2.1 I.2.2.2.2.2.1 I.2.2.2.2.2.2.1 I.2.2.2.2.2.2.2.1 k 0 (ez_ws_get G ad hk) rfl hin hd (fun H1 locs1 hP1 hD1 hS1 => kk p e s m args below meth c A n0 ad0 ad H1 locs1 cells slots L (ez_In_set (q := .inl (.int, (n, .inl (upd f i.toNatClampNeg x)))) I hP1 hD1 hS1))
theorem ev_zast {k n : Nat} {f : Nat → Int32} {i x : Int32} (hd : ez_at X pc .bastore 1 pc') (hk : h[k]? = some (.inl (.boolean, (n, .inl f)))) (hin : vp_in i n) (kk : ez_Ev l G X uc us pc' ls st (h.set k (.inl (.boolean, (n, .inl (upd f i.toNatClampNeg (vp_nar .boolean x)))))) Q) : ez_Ev l G X uc us pc ls (.int x :: .int i :: .ref k :: st) h Q := by
  obtain ⟨hd, rfl⟩ := hd
  intro p e s m args below meth c A n0 ad0 ad H locs cells slots L I
  exact va_zast I.1.1 I.1.2.1 I.1.2.2.2.2.2.2.2.2.1 I.2.2.2.2.2.1 I.2.2.2.2.2.2.1 I.2.2.2.2.2.2.2.1 k 1 (ez_ws_get G ad hk) rfl hin hd (fun H1 locs1 hP1 hD1 hS1 => kk p e s m args below meth c A n0 ad0 ad H1 locs1 cells slots L (ez_In_set (q := .inl (.boolean, (n, .inl (upd f i.toNatClampNeg (vp_nar .boolean x))))) I hP1 hD1 hS1))
theorem ev_last {k n : Nat} {f : Nat → Int64} {i : Int32} {x : Int64} (hd : ez_at X pc .lastore 1 pc') (hk : h[k]? = some (.inl (.long, (n, .inr (.inl f))))) (hin : vp_in i n) (kk : ez_Ev l G X uc us pc' ls st (h.set k (.inl (.long, (n, .inr (.inl (vp_updL f i.toNatClampNeg x)))))) Q) : ez_Ev l G X uc us pc ls (.long x :: .int i :: .ref k :: st) h Q := by
  obtain ⟨hd, rfl⟩ := hd
  intro p e s m args below meth c A n0 ad0 ad H locs cells slots L I
  exact va_last I.1.1 I.1.2.1 I.1.2.2.2.2.2.2.2.2.1 I.2.2.2.2.2.1 I.2.2.2.2.2.2.1 I.2.2.2.2.2.2.2.1 k 2 (ez_ws_get G ad hk) rfl hin hd (fun H1 locs1 hP1 hD1 hS1 => kk p e s m args below meth c A n0 ad0 ad H1 locs1 cells slots L (ez_In_set (q := .inl (.long, (n, .inr (.inl (vp_updL f i.toNatClampNeg x))))) I hP1 hD1 hS1))
theorem ev_alen {k : Nat} {a : vp_A} {v : Int32} (hd : ez_at X pc .arraylength 1 pc') (hk : h[k]? = some (.inl (.int, a))) (hv : Int32.ofNat a.1 = v) (kk : ez_Ev l G X uc us pc' ls (.int v :: st) h Q) : ez_Ev l G X uc us pc ls (.ref k :: st) h Q := by
  obtain ⟨hd, rfl⟩ := hd
  intro p e s m args below meth c A n0 ad0 ad H locs cells slots L I
  exact va_alen I.1.1 I.1.2.1 I.1.2.2.2.2.2.2.2.2.1 I.2.2.2.2.2.1 k 0 (ez_ws_get G ad hk) rfl hv hd (kk p e s m args below meth c A n0 ad0 ad H locs cells slots L I)
theorem ev_i2l {x : Int32} (hd : ez_at X pc .i2l 1 pc') (k : ez_Ev l G X uc us pc' ls (.long x.toInt64 :: st) h Q) : ez_Ev l G X uc us pc ls (.int x :: st) h Q := by
  obtain ⟨hd, rfl⟩ := hd
  exact ez_pure (st' := .long x.toInt64 :: st) (fun p e s m args below meth c ad H locs cells slots Qz L hx hb kk => lv_i2l hx hb hd rfl kk) k
theorem ev_lconst {n : Fin 2} {v : Int64} (hd : ez_at X pc (.lconst n) 1 pc') (hv : Int64.ofNat (n : Nat) = v) (k : ez_Ev l G X uc us pc' ls (.long v :: st) h Q) : ez_Ev l G X uc us pc ls st h Q := by
  obtain ⟨hd, rfl⟩ := hd
  exact ez_pure (st' := .long v :: st) (fun p e s m args below meth c ad H locs cells slots Qz L hx hb kk => lv_lconst hx hb hd hv kk) k
theorem ev_lcmp {x y : Int64} (hd : ez_at X pc .lcmp 1 pc') (k : ez_Ev l G X uc us pc' ls (.int (lg_cmp x y) :: st) h Q) : ez_Ev l G X uc us pc ls (.long y :: .long x :: st) h Q := by
  obtain ⟨hd, rfl⟩ := hd
  exact ez_pure (st' := .int (lg_cmp x y) :: st) (fun p e s m args below meth c ad H locs cells slots Qz L hx hb kk => W.lcmp hx hb hd kk) k
theorem ev_ldc {index : Nat} {v : Int32} (hd : ez_at X pc (.ldc index) 2 pc') (hc : Cond.constant X.1.cls index v ∈ ez_T) (kk : ez_Ev l G X uc us pc' ls (.int v :: st) h Q) : ez_Ev l G X uc us pc ls st h Q := by
  obtain ⟨hd, rfl⟩ := hd
  intro p e s m args below meth c A n0 ad0 ad H locs cells slots L I
  exact lv_ldc I.1.1 I.1.2.1 I.1.2.2.2.1 (I.1.2.2.2.2.1 _ hc) hd (kk p e s m args below meth c A n0 ad0 ad H locs cells slots L I)
theorem ev_tableOut {dflt lo hi : Int} {offs : Array Int} {n : Nat} {x : Int32} (hd : decode X.2.1 pc = .ok (.tableswitch dflt lo hi offs, n)) (hx : x.toInt < lo ∨ hi < x.toInt) (ht : (pc : Int) + dflt = (tgt : Int)) (kk : ez_Ev l G X uc us tgt ls st h Q) : ez_Ev l G X uc us pc ls (.int x :: st) h Q := by
  intro p e s m args below meth c A n0 ad0 ad H locs cells slots L I
  exact lv_tableOut I.1.1 I.1.2.1 hd hx ht (kk p e s m args below meth c A n0 ad0 ad H locs cells slots L I)
theorem ev_tableIn {dflt lo hi off : Int} {offs : Array Int} {n : Nat} {x : Int32} (hd : decode X.2.1 pc = .ok (.tableswitch dflt lo hi offs, n)) (h1 : ¬ x.toInt < lo) (h2 : ¬ hi < x.toInt) (ho : offs[(x.toInt - lo).toNat]? = some off) (ht : (pc : Int) + off = (tgt : Int)) (kk : ez_Ev l G X uc us tgt ls st h Q) : ez_Ev l G X uc us pc ls (.int x :: st) h Q := by
  intro p e s m args below meth c A n0 ad0 ad H locs cells slots L I
  exact lv_tableIn I.1.1 I.1.2.1 hd h1 h2 ho ht (kk p e s m args below meth c A n0 ad0 ad H locs cells slots L I)
theorem ev_lookup {dflt off : Int} {ps : Array (Int × Int)} {n : Nat} {x : Int32} (hd : decode X.2.1 pc = .ok (.lookupswitch dflt ps, n)) (hp : (ps.toList.zip (ps.toList.drop 1)).all (fun (a, next) => a.1 < next.1) = true) (ho : Op.lookupswitch.offset ps.toList dflt x.toInt = off) (ht : (pc : Int) + off = (tgt : Int)) (kk : ez_Ev l G X uc us tgt ls st h Q) : ez_Ev l G X uc us pc ls (.int x :: st) h Q := by
  intro p e s m args below meth c A n0 ad0 ad H locs cells slots L I
  exact lv_lookup I.1.1 I.1.2.1 hd hp ho ht (kk p e s m args below meth c A n0 ad0 ad H locs cells slots L I)
/-! returns -/
theorem ez_end {v : Option Value} {p : Program} {s : State} {m : MethodId} {args : Array Value} {meth : Method} {c : Code} {A : Nat → Prop} {n0 : Nat} {ad0 ad : Nat → Nat} {H : Heap} {locs : List Loc} {cells slots : Nat} {L : Array Slot}
    (I : ez_In G X uc us ls h p s m args meth c A n0 ad0 ad H locs cells slots L) (hq : Q (.inl v, h)) {t : State} (ht : t.heap = H) : ez_Fin G A n0 ad0 Q (.returned (v.map (ez_v ad))) t ∧ va_F A s t :=
  ⟨⟨(.inl v, h), ad, hq, ⟨I.2.2.2.1, I.2.2.1.2.1⟩, I.2.2.2.2.1, by rw [ht]; exact I.2.2.2.2.2.1, I.2.2.2.2.2.2.1, rfl⟩, I.2.2.2.2.2.2.2.1.F ht⟩
theorem ez_Wret {p : Program} {l : Launch} {e : Env} {R : Room} {s : State} {m : MethodId} {args : Array Value} {below : List Frame} {meth : Method} {c : Code} {H : Heap} {locs : List Loc} {cells slots : Nat} {A : Nat → Prop} {F : Outcome → State → Prop} {g : JFrame}
    (h1 : cells ≤ ez_mc X) (h2 : slots ≤ ez_ms X) (k : W p l e R s m args below meth c H locs (ez_mc X) (ez_ms X) (MQ below (fun _ st o t => F o t ∧ va_F A st t) args s (ez_mc X) (ez_ms X) A) g) : W p l e R s m args below meth c H locs cells slots (ez_MQ X below s A F) g := by
  refine W.widen h1 h2 ?_
  intro T hT S
  obtain ⟨t, a1, o, b1, b2, ⟨b3, b4⟩, L, ⟨⟨v, rfl⟩, b5, b6⟩, b7⟩ := k T hT S
  exact ⟨t, a1, .returned v, b1, b2, b3, b4, L, ⟨b5, b6⟩, b7⟩
theorem ev_iret {v : Int32} (hd : ez_at X pc .ireturn 1 pc') (hr : X.2.2.2.1 = some .int) (hu : uc ≤ ez_mc X ∧ us ≤ ez_ms X) (hq : Q (.inl (some (.int v)), h)) : ez_Ev l G X uc us pc ls [.int v] h Q := by
  intro p e s m args below meth c A n0 ad0 ad H locs cells slots L I
  have hc := I.2.2.2.2.2.2.2.2.2
  exact ez_Wret (by omega) (by omega) (W.iret I.1.1 I.1.2.1 (I.1.2.2.2.2.2.1.trans hr) (fun t ht _ => ez_end I hq ht) I.2.2.2.2.2.2.2.1.2.2 hd.1 I.1.2.2.2.2.2.2.1)
theorem ev_zret {v : Int32} {ty : FieldType} (hd : ez_at X pc .ireturn 1 pc') (hr : X.2.2.2.1 = some ty) (hn : narrow ty (.int v) = .int v) (hu : uc ≤ ez_mc X ∧ us ≤ ez_ms X) (hq : Q (.inl (some (.int v)), h)) : ez_Ev l G X uc us pc ls [.int v] h Q := by
  intro p e s m args below meth c A n0 ad0 ad H locs cells slots L I
  have hc := I.2.2.2.2.2.2.2.2.2
  exact ez_Wret (by omega) (by omega) (W.zret I.1.1 I.1.2.1 (I.1.2.2.2.2.2.1.trans hr) hn (fun t ht _ => ez_end I hq ht) I.2.2.2.2.2.2.2.1.2.2 hd.1 I.1.2.2.2.2.2.2.1)
theorem ev_vret (hd : ez_at X pc .return_ 1 pc') (hr : X.2.2.2.1 = none) (hu : uc ≤ ez_mc X ∧ us ≤ ez_ms X) (hq : Q (.inl none, h)) : ez_Ev l G X uc us pc ls [] h Q := by
  intro p e s m args below meth c A n0 ad0 ad H locs cells slots L I
  have hc := I.2.2.2.2.2.2.2.2.2
  exact ez_Wret (by omega) (by omega) (W.vret I.1.1 I.1.2.1 (I.1.2.2.2.2.2.1.trans hr) (fun t ht _ => ez_end I hq ht) I.2.2.2.2.2.2.2.1.2.2 hd.1 I.1.2.2.2.2.2.2.1)
theorem ev_aret {k : Nat} {nm : String} (hd : ez_at X pc .areturn 1 pc') (hr : X.2.2.2.1 = some (.object nm)) (hu : uc ≤ ez_mc X ∧ us ≤ ez_ms X) (hq : Q (.inl (some (.ref k)), h)) : ez_Ev l G X uc us pc ls [.ref k] h Q := by
  intro p e s m args below meth c A n0 ad0 ad H locs cells slots L I
  have hc := I.2.2.2.2.2.2.2.2.2
  exact ez_Wret (by omega) (by omega) (W.aret I.1.1 I.1.2.1 (I.1.2.2.2.2.2.1.trans hr) (Or.inl ⟨nm, rfl⟩) (Or.inr ⟨_, rfl⟩) (fun t ht _ => ez_end I hq ht) I.2.2.2.2.2.2.2.1.2.2 hd.1 I.1.2.2.2.2.2.2.1)
/-! fields -/
def ez_fld (own : String) (index ci j : Nat) : Prop := ∃ (C : String) (T : u_T) (N : Nat), ez_cl[ci]? = some (C, T, N) ∧ j < N ∧ (∀ w ∈ u_ws C T N, w ∈ ez_T) ∧ (Cond.fieldLink own index (T j).1 (T j).2.1 (T j).2.2.1 ∈ ez_T ∨ ∃ host, Cond.fieldLinkNest own index (T j).1 (T j).2.1 (T j).2.2.1 host ∈ ez_T)
theorem ev_getf {index ci j k : Nat} {fs : List Value} {v : Value} (hd : ez_at X pc (.getfield index) 3 pc') (hf : ez_fld X.1.cls index ci j) (hk : h[k]? = some (.inr (ci, fs))) (hv : fs[j]? = some v) (kk : ez_Ev l G X uc us pc' ls (v :: st) h Q) : ez_Ev l G X uc us pc ls (.ref k :: st) h Q := by
  obtain ⟨hd, rfl⟩ := hd
  obtain ⟨C, T, N, hc, hj, hin, hl⟩ := hf
  intro p e s m args below meth c A n0 ad0 ad H locs cells slots L I
  have hv' : (fs.map (ez_v ad))[j]? = some (ez_v ad v) := by rw [List.getElem?_map, hv]; rfl
  rcases hl with hl | ⟨host, hl⟩
  · exact va_get I.1.1 I.1.2.1 I.1.2.2.2.2.1 hin I.1.2.2.2.1 I.1.2.2.2.2.2.2.2.2.1 I.2.2.2.2.2.1 k (ez_ws_get G ad hk) hc j hj (I.1.2.2.2.2.1 _ hl) (fun _ h => h) hv' hd (kk p e s m args below meth c A n0 ad0 ad H locs cells slots L I)
  · exact va_getN I.1.1 I.1.2.1 I.1.2.2.2.2.1 hin I.1.2.2.2.1 I.1.2.2.2.2.2.2.2.2.1 I.2.2.2.2.2.1 k (ez_ws_get G ad hk) hc j hj (I.1.2.2.2.2.1 _ hl) (fun _ h => h) hv' hd (kk p e s m args below meth c A n0 ad0 ad H locs cells slots L I)
def ez_fty (ci j : Nat) (fin : Bool) (ty : FieldType) : Prop := ∃ (C : String) (T : u_T) (N : Nat) (ty0 : Nat → FieldType), ez_cl[ci]? = some (C, T, N) ∧ (∀ k, k < N → parseFieldDescriptor (T k).2.2.1 = some (ty0 k)) ∧ (∀ a, a < N → ∀ b, b < N → a ≠ b → (T a).2.1 ≠ (T b).2.1) ∧ (T j).2.2.2 = fin ∧ parseFieldDescriptor (T j).2.2.1 = some ty ∧ (T j).1 = C
theorem ez_e_set (cA : FieldType → ClassId) (ad : Nat → Nat) (ci j : Nat) (fs : List Value) (v : Value) : (Sum.inr (ci, (fs.map (ez_v ad)).set j (ez_v ad v)) : va_E) = ez_e cA ad (.inr (ci, fs.set j v)) := by
  show _ = (Sum.inr (ci, (fs.set j v).map (ez_v ad)) : va_E)
  rw [List.map_set]
theorem ev_putf {index ci j k : Nat} {fs : List Value} {v : Value} {ty : FieldType} (hd : ez_at X pc (.putfield index) 3 pc') (hf : ez_fld X.1.cls index ci j) (hty : ez_fty ci j false ty) (hk : h[k]? = some (.inr (ci, fs))) (hl : j < fs.length) (hn : ∀ ad, narrow ty (ez_v ad v) = ez_v ad v ∧ fits ty (ez_v ad v) = true)
    (kk : ez_Ev l G X uc us pc' ls st (h.set k (.inr (ci, fs.set j v))) Q) : ez_Ev l G X uc us pc ls (v :: .ref k :: st) h Q := by
  obtain ⟨hd, rfl⟩ := hd
  obtain ⟨C, T, N, hc, hj, hin, hlk⟩ := hf
  obtain ⟨C', T', N', ty0, hc', ht0, hnm, hfin, hty, -⟩ := hty
  cases hc.symm.trans hc'
  intro p e s m args below meth c A n0 ad0 ad H locs cells slots L I
  have hlen : j < (fs.map (ez_v ad)).length := by rw [List.length_map]; exact hl
  have go : ∀ (H1 : Heap) (locs1 : List Loc), va_P G.1 ez_cl ((ez_ws G ad h).set k (ad k, .inr (ci, (fs.map (ez_v ad)).set j (ez_v ad v)))) H1 → va_D A ((ez_ws G ad h).set k (ad k, .inr (ci, (fs.map (ez_v ad)).set j (ez_v ad v)))) → va_S A s.heap H1 locs1 → W p l e (ez_rm X) s m args below meth c H1 locs1 cells slots (ez_MQ X below s A (ez_Fin G A n0 ad0 Q)) (F0 m (pc + 3) L (st.map (ez_v ad))) := fun H1 locs1 hP1 hD1 hS1 => by
    rw [ez_e_set G.2.1] at hP1 hD1
    exact kk p e s m args below meth c A n0 ad0 ad H1 locs1 cells slots L (ez_In_set I hP1 hD1 hS1)
  rcases hlk with hlk | ⟨host, hlk⟩
  · exact va_put I.1.1 I.1.2.1 I.1.2.2.2.2.1 hin ty0 ht0 hnm I.1.2.2.2.1 I.1.2.2.2.2.2.2.2.2.1 I.2.2.2.2.2.1 I.2.2.2.2.2.2.1 I.2.2.2.2.2.2.2.1 k (ez_ws_get G ad hk) hc j hj (I.1.2.2.2.2.1 _ hlk) (fun _ h => h) hfin hty (hn ad).1 (hn ad).2 hlen hd go
  · exact va_putN I.1.1 I.1.2.1 I.1.2.2.2.2.1 hin ty0 ht0 hnm I.1.2.2.2.1 I.1.2.2.2.2.2.2.2.2.1 I.2.2.2.2.2.1 I.2.2.2.2.2.2.1 I.2.2.2.2.2.2.2.1 k (ez_ws_get G ad hk) hc j hj (I.1.2.2.2.2.1 _ hlk) (fun _ h => h) hfin hty (hn ad).1 (hn ad).2 hlen hd go
/-! calls -/
theorem ev_calls {Y : ez_X} {n index : Nat} {as rest : List Value} {Qc : ez_R → Prop} (hok : ez_ok Y n) (hl : ez_link X.1.cls index Y.1) (hst : Cond.static Y.1 ∈ ez_T) (hd : ez_at X pc (.invokestatic index) 3 pc') (hC : ez_Ct l G Y as h Qc) (hs : st = as.reverse ++ rest) (hn : as.length = n)
    (hroom : ez_fits X Y uc us) (hrest : (rest.map fun v => v.category).sum ≤ 8) (hX : ez_hs X = []) (hth : uc + ez_mc Y ≤ ez_mc X ∧ us + ez_ms Y ≤ ez_ms X)
    (kr : ∀ v h', Qc (.inl v, h') → ez_still h.length h'.length ls rest ∧ ez_Ev l G X (uc + ez_mc Y) (us + ez_ms Y) pc' ls (v.toList ++ rest) h' Q)
    (kt : ∀ k h', Qc (.inr k, h') → h'.length = h.length ∧ Q (.inr k, h')) : ez_Ev l G X uc us pc ls st h Q := by
  refine ez_call hok hC hroom hrest ?_ ⟨_, hd.1⟩ hd.2 kr (fun k h' hq => ⟨(kt k h' hq).1, ez_Th_out hX ⟨by have := hth.1; omega, by have := hth.2; omega⟩ (kt k h' hq).2⟩)
  intro p e s m args below meth c A n0 ad0 ad H locs cells slots L T I hT S
  exact ez_goS S I.1.1 I.1.2.2.2.2.1 hok I.1.2.2.2.1 hl hst rfl (by rw [List.length_map]; exact hn) (by show st.map (ez_v ad) = _; rw [hs, List.map_append, List.map_reverse]) (by rw [I.1.2.1]; exact hd.1)
theorem ez_toV {Y : ez_X} {n index b ci : Nat} {as rest fs : List Value} {T0 : u_T} {N : Nat} (hok : ez_ok Y n) (hl : ez_link X.1.cls index Y.1) (hin : Cond.instanceMethod Y.1 ∈ ez_T) (hsel : Cond.selects Y.1.cls Y.1 Y.1 ∈ ez_T) (hd : ez_at X pc (.invokevirtual index) 3 pc') (hs : st = as.reverse ++ .ref b :: rest) (hn : as.length = n) (hb : h[b]? = some (.inr (ci, fs))) (hc : ez_cl[ci]? = some (Y.1.cls, T0, N)) :
    ∀ (p : Program) (e : Env) (s : State) (m : MethodId) (args : Array Value) (below : List Frame) (meth : Method) (c : Code) (A : Nat → Prop) (n0 : Nat) (ad0 ad : Nat → Nat) (H : Heap) (locs : List Loc) (cells slots : Nat) (L : Array Slot) (T : State),
      ez_In G X uc us ls h p s m args meth c A n0 ad0 ad H locs cells slots L → T.heap = H → Stand p l e (ez_rm X) s m args below meth c T locs cells slots →
      ez_To p l e (ez_rm X) s m args below meth c T locs cells slots Y.1 (F0 m pc L (st.map (ez_v ad))) (rest.map (ez_v ad)) ((Value.ref b :: as).map (ez_v ad)).toArray := by
  intro p e s m args below meth c A n0 ad0 ad H locs cells slots L T I hT S
  obtain ⟨cell, q1, q2, q3⟩ := va_recv I.1.2.2.2.2.2.2.2.2.1 I.2.2.2.2.2.1 hc (ez_ws_get G ad hb)
  exact ez_goV S I.1.1 I.1.2.2.2.2.1 hok I.1.2.2.2.1 hl hin hsel (by rw [hT]; exact q1) q2 q3 rfl (argsL := as.map (ez_v ad)) (by rw [List.length_map]; exact hn) (by show st.map (ez_v ad) = _; rw [hs, List.map_append, List.map_reverse]; rfl) (by rw [I.1.2.1]; exact hd.1)
theorem ev_callv {Y : ez_X} {n index b ci : Nat} {as rest fs : List Value} {T0 : u_T} {N : Nat} {Qc : ez_R → Prop} (hok : ez_ok Y n) (hl : ez_link X.1.cls index Y.1) (hin : Cond.instanceMethod Y.1 ∈ ez_T) (hsel : Cond.selects Y.1.cls Y.1 Y.1 ∈ ez_T) (hd : ez_at X pc (.invokevirtual index) 3 pc') (hb : h[b]? = some (.inr (ci, fs))) (hc : ez_cl[ci]? = some (Y.1.cls, T0, N))
    (hC : ez_Ct l G Y (.ref b :: as) h Qc) (hs : st = as.reverse ++ .ref b :: rest) (hn : as.length = n)
    (hroom : ez_fits X Y uc us) (hrest : (rest.map fun v => v.category).sum ≤ 8) (hX : ez_hs X = []) (hth : uc + ez_mc Y ≤ ez_mc X ∧ us + ez_ms Y ≤ ez_ms X)
    (kr : ∀ v h', Qc (.inl v, h') → ez_still h.length h'.length ls rest ∧ ez_Ev l G X (uc + ez_mc Y) (us + ez_ms Y) pc' ls (v.toList ++ rest) h' Q)
    (kt : ∀ k h', Qc (.inr k, h') → h'.length = h.length ∧ Q (.inr k, h')) : ez_Ev l G X uc us pc ls st h Q :=
  ez_call hok hC hroom hrest (ez_toV hok hl hin hsel hd hs hn hb hc) ⟨_, hd.1⟩ hd.2 kr (fun k h' hq => ⟨(kt k h' hq).1, ez_Th_out hX ⟨by have := hth.1; omega, by have := hth.2; omega⟩ (kt k h' hq).2⟩)
theorem ev_calli {Y : ez_X} {n index b : Nat} {as rest : List Value} {Qc : ez_R → Prop} (hok : ez_ok Y n) (hy1 : Y.1.name = "<init>") (hyr : Y.2.2.2.1 = none) (hh : ez_hs Y = []) (hl : ez_link X.1.cls index Y.1) (hin : Cond.instanceMethod Y.1 ∈ ez_T) (hd : ez_at X pc (.invokespecial index) 3 pc')
    (hC : ez_Ct l G Y (.ref b :: as) h Qc) (hs : st = as.reverse ++ .ref b :: rest) (hn : as.length = n)
    (hroom : ez_fits X Y uc us) (hrest : (rest.map fun v => v.category).sum ≤ 8)
    (kr : ∀ v h', Qc (.inl v, h') → ez_still h.length h'.length ls rest ∧ ez_Ev l G X (uc + ez_mc Y) (us + ez_ms Y) pc' ls (v.toList ++ rest) h' Q)
    (kt : ∀ k h', ¬ Qc (.inr k, h')) : ez_Ev l G X uc us pc ls st h Q := by
  refine ez_call hok hC hroom hrest ?_ ⟨_, hd.1⟩ hd.2 kr (fun k h' hq => absurd hq (kt k h'))
  intro p e s m args below meth c A n0 ad0 ad H locs cells slots L T I hT S
  exact ez_goI S I.1.1 I.1.2.2.2.2.1 hok hy1 hyr hh I.1.2.2.2.1 hl hin rfl (a := ad b) (argsL := as.map (ez_v ad)) (by rw [List.length_map]; exact hn) (by show st.map (ez_v ad) = _; rw [hs, List.map_append, List.map_reverse]; rfl) (by rw [I.1.2.1]; exact hd.1)
end EzRows
end
section
/-! ===== making cells: new, newarray, final fields, Object's constructor ===== -/
section EzMake
variable {l : Launch} {G : ez_G} {X : ez_X} {uc us pc pc' : Nat} {ls : List (Option Value)} {st : List Value} {h : ez_H} {Q : ez_R → Prop}
def ez_oldc (n : Nat) (q : ez_Cell) : Bool := match q with
  | .inl _ => true
  | .inr o => o.2.all (ez_old n (n + 1))
def ez_oks (h : ez_H) (ls : List (Option Value)) (st : List Value) : Bool :=
  h.all (ez_oldc h.length) && (st.all (ez_old h.length (h.length + 1)) && ls.all (fun o => match o with | some v => ez_old h.length (h.length + 1) v | none => true))
def ez_adn (ad : Nat → Nat) (n q : Nat) : Nat → Nat := fun k => if k = n then q else ad k
theorem ez_adn_eq (ad : Nat → Nat) (n q : Nat) : ∀ k, ¬ (n ≤ k ∧ k < n + 1) → ez_adn ad n q k = ad k := fun k hk => if_neg (by omega)
theorem ez_ws_push (G : ez_G) (ad : Nat → Nat) (h : ez_H) (q : Nat) (cell : ez_Cell) (hok : h.all (ez_oldc h.length) = true) : ez_ws G (ez_adn ad h.length q) (h ++ [cell]) = ez_ws G ad h ++ [(q, ez_e G.2.1 (ez_adn ad h.length q) cell)] := by
  unfold ez_ws
  rw [List.mapIdx_append]
  congr 1
  · apply List.ext_getElem?
    intro j
    simp only [List.getElem?_mapIdx]
    cases hj : h[j]? with
    | none => rfl
    | some c =>
      simp only [Option.map_some]
      have hlt := (List.getElem?_eq_some_iff.mp hj).1
      have hc := List.all_eq_true.mp hok c (List.mem_of_getElem? hj)
      have e1 : ez_adn ad h.length q j = ad j := if_neg (by omega)
      have e2 : ez_e G.2.1 (ez_adn ad h.length q) c = ez_e G.2.1 ad c := by
        cases c with
        | inl a => rfl
        | inr o =>
          show (Sum.inr (o.1, o.2.map (ez_v (ez_adn ad h.length q))) : va_E) = Sum.inr (o.1, o.2.map (ez_v ad))
          rw [List.map_congr_left fun v hv => ez_old_eq (List.all_eq_true.mp hc v hv) (ez_adn_eq ad h.length q)]
      rw [e1, e2]
  · simp [ez_adn]
theorem ez_In_push {n : Nat} {p : Program} {s : State} {m : MethodId} {args : Array Value} {meth : Method} {c : Code} {A : Nat → Prop} {n0 : Nat} {ad0 ad : Nat → Nat} {H H1 : Heap} {locs : List Loc} {cells slots q : Nat} {cell : ez_Cell} {L : Array Slot}
    (I : ez_In G X uc us ls h p s m args meth c A n0 ad0 ad H locs cells slots L) (hok : ez_oks h ls st = true) (hlt : h.length < 900)
    (hP1 : va_P G.1 ez_cl (ez_ws G ad h ++ [(q, ez_e G.2.1 (ez_adn ad h.length q) cell)]) H1) (hD1 : va_D A (ez_ws G ad h ++ [(q, ez_e G.2.1 (ez_adn ad h.length q) cell)])) (hS1 : va_S A s.heap H1 locs) :
    ez_In G X (uc + 1) (us + n) ls (h ++ [cell]) p s m args meth c A n0 ad0 (ez_adn ad h.length q) H1 locs (cells + 1) (slots + n) L ∧ st.map (ez_v (ez_adn ad h.length q)) = st.map (ez_v ad) := by
  unfold ez_oks at hok
  simp only [Bool.and_eq_true] at hok
  obtain ⟨h1, h2, h3⟩ := hok
  obtain ⟨r1, r2⟩ := ez_still_of h2 h3 ad (ez_adn ad h.length q) (ez_adn_eq ad h.length q)
  obtain ⟨hctx, hA, ⟨hRo, hh9, had⟩, hn0, hag, hPw, hD, hS, hL, hc1, hs1⟩ := I
  have hlen : (h ++ [cell]).length = h.length + 1 := by simp
  refine ⟨⟨hctx, hA, ⟨hRo, by omega, fun k hk => by rw [ez_adn_eq ad h.length q k (by omega)]; exact had k hk⟩, by omega, fun k hk => ?_, by rw [ez_ws_push G ad h q cell h1]; exact hP1, by rw [ez_ws_push G ad h q cell h1]; exact hD1, hS1,
    ⟨hL.1, hL.2.1, fun i v hi => by rw [r2 i v hi]; exact hL.2.2 i v hi⟩, by omega, by omega⟩, r1⟩
  rw [hlen] at hk
  rw [ez_adn_eq ad h.length q k (by omega)]
  exact hag k (by omega)
def ez_mk (own : String) (index ci N : Nat) (fs : List Value) : Prop := ∃ (C : String) (T : u_T) (ty : Nat → FieldType), ez_cl[ci]? = some (C, T, N) ∧ (∀ w ∈ u_ws C T N, w ∈ ez_T) ∧ (∀ k, k < N → parseFieldDescriptor (T k).2.2.1 = some (ty k)) ∧
  Cond.classLink own index C ∈ ez_T ∧ Cond.instantiable C N ∈ ez_T ∧ Cond.initialized C ∈ ez_T ∧ (∀ j, j < N → defaultValue (ty j) = vp_V fs j) ∧ fs.all (fun v => match v with | .ref _ => false | _ => true) = true
theorem ez_norefs {fs : List Value} (hf : fs.all (fun v => match v with | .ref _ => false | _ => true) = true) (ad : Nat → Nat) : fs.map (ez_v ad) = fs := by
  have : ∀ v ∈ fs, ez_v ad v = v := fun v hv => by
    have := List.all_eq_true.mp hf v hv
    cases v <;> first | rfl | cases this
  rw [List.map_congr_left this, List.map_id']
theorem ev_new {index ci N : Nat} {fs : List Value} (hd : ez_at X pc (.new index) 3 pc') (hm : ez_mk X.1.cls index ci N fs) (hlt : h.length < 900) (b1 : uc + 1 ≤ ez_rc X) (b2 : us + N ≤ ez_rs X) (hok : ez_oks h ls st = true)
    (kk : ez_Ev l G X (uc + 1) (us + N) pc' ls (.ref h.length :: st) (h ++ [.inr (ci, fs)]) Q) : ez_Ev l G X uc us pc ls st h Q := by
  obtain ⟨hd, rfl⟩ := hd
  obtain ⟨C, T, ty, hc, hin, hty, hcl, hinst, hini, hfs, hnr⟩ := hm
  intro p e s m args below meth c A n0 ad0 ad H locs cells slots L I
  have hts := I.1.2.2.2.2.1
  have hc2 := I.2.2.2.2.2.2.2.2.2
  refine va_new I.1.1 I.1.2.1 hts hin ty hty I.1.2.2.2.1 (hts _ hcl) (hts _ hinst) (hts _ hini) I.1.2.2.2.2.2.2.2.2.1 I.2.2.2.2.2.1 I.2.2.2.2.2.2.1 I.2.2.2.2.2.2.2.1 I.2.1 hc hfs (by show cells + 1 ≤ ez_rc X; omega) (by show slots + N ≤ ez_rs X; omega) hd ?_
  intro q H1 hP1 hD1 hS1
  have e1 : (Sum.inr (ci, fs) : va_E) = ez_e G.2.1 (ez_adn ad h.length q) (.inr (ci, fs)) := by
    show _ = (Sum.inr (ci, fs.map (ez_v (ez_adn ad h.length q))) : va_E)
    rw [ez_norefs hnr]
  rw [e1] at hP1 hD1
  obtain ⟨I', r1⟩ := ez_In_push (st := st) I hok hlt hP1 hD1 hS1
  have := kk p e s m args below meth c A n0 ad0 (ez_adn ad h.length q) H1 locs (cells + 1) (slots + N) L I'
  rw [List.map_cons, r1] at this
  have e2 : ez_v (ez_adn ad h.length q) (.ref h.length) = .ref q := by simp [ez_v, ez_adn]
  rw [e2] at this
  exact this
theorem ez_cA {tys : List (ClassId × FieldType)} {D : va_G} {cl : List vw_C} {U : State} {c1 c2 : ClassId} {ty : FieldType} (hK : va_K D cl tys U) {i j : Nat} (h1 : tys[i]? = some (c1, ty)) (h2 : tys[j]? = some (c2, ty)) (hp : ty = .int ∨ ty = .boolean ∨ ty = .long) : c1 = c2 := by
  have a1 := (hK.2 i _ h1).2
  have a2 := (hK.2 j _ h2).2
  rcases hp with rfl | rfl | rfl <;> exact Option.some.inj (a1.symm.trans a2)
theorem ev_newa {atype : ArrayType} {ty : FieldType} {n : Int32} {N : Nat} {a0 : vp_A} (hd : ez_at X pc (.newarray atype) 2 pc') (harr : Cond.arrayClass (newarray.typeOf atype) ∈ ez_T) (hty : newarray.typeOf atype = ty) (hp : ty = .int ∨ ty = .boolean ∨ ty = .long) (ha : ∀ cA : ClassId, vp_cell cA a0 = arrV cA N (fun _ => defaultValue ty)) (hn : ¬ n < 0) (hN : n.toNatClampNeg = N) (hby : N * componentBytes ty ≤ 536870912)
    (hlt : h.length < 900) (b1 : uc + 1 ≤ ez_rc X) (b2 : us + N ≤ ez_rs X) (hok : ez_oks h ls st = true)
    (kk : ez_Ev l G X (uc + 1) (us + N) pc' ls (.ref h.length :: st) (h ++ [.inl (ty, a0)]) Q) : ez_Ev l G X uc us pc ls (.int n :: st) h Q := by
  obtain ⟨hd, rfl⟩ := hd
  intro p e s m args below meth c A n0 ad0 ad H locs cells slots L I
  have hts := I.1.2.2.2.2.1
  have hc2 := I.2.2.2.2.2.2.2.2.2
  refine va_newa I.1.1 I.1.2.1 (hts _ harr) hty I.1.2.2.2.2.2.2.2.2.1 I.2.2.2.2.2.1 I.2.2.2.2.2.2.1 I.2.2.2.2.2.2.2.1 I.2.1 ha hn hN hby (by show cells + 1 ≤ ez_rc X; omega) (by show slots + N ≤ ez_rs X; omega) hd ?_
  intro q cA H1 hK1 hP1 hD1 hS1
  have e0 : cA = G.2.1 ty := by
    have h2 : (ez_tys G ++ [(cA, ty)])[3]? = some (cA, ty) := rfl
    rcases hp with rfl | rfl | rfl
    · exact ez_cA hK1 (i := 3) (j := 0) h2 rfl (Or.inl rfl)
    · exact ez_cA hK1 (i := 3) (j := 1) h2 rfl (Or.inr (Or.inl rfl))
    · exact ez_cA hK1 (i := 3) (j := 2) h2 rfl (Or.inr (Or.inr rfl))
  subst e0
  obtain ⟨I', r1⟩ := ez_In_push (st := st) (cell := .inl (ty, a0)) I hok hlt hP1 hD1 hS1
  have := kk p e s m args below meth c A n0 ad0 (ez_adn ad h.length q) H1 locs (cells + 1) (slots + N) L I'
  rw [List.map_cons, r1] at this
  have e2 : ez_v (ez_adn ad h.length q) (.ref h.length) = .ref q := by simp [ez_v, ez_adn]
  rw [e2] at this
  exact this
theorem ev_putF {index ci j k : Nat} {fs : List Value} {v : Value} {ty : FieldType} (hd : ez_at X pc (.putfield index) 3 pc') (hf : ez_fld X.1.cls index ci j) (hfl : ∃ (T : u_T) (N : Nat), ez_cl[ci]? = some (X.1.cls, T, N) ∧ Cond.fieldLink X.1.cls index (T j).1 (T j).2.1 (T j).2.2.1 ∈ ez_T) (hX : X.1.name = "<init>") (hty : ez_fty ci j true ty) (hk : h[k]? = some (.inr (ci, fs))) (hl : j < fs.length) (hn : ∀ ad, narrow ty (ez_v ad v) = ez_v ad v ∧ fits ty (ez_v ad v) = true)
    (kk : ez_Ev l G X uc us pc' ls st (h.set k (.inr (ci, fs.set j v))) Q) : ez_Ev l G X uc us pc ls (v :: .ref k :: st) h Q := by
  obtain ⟨hd, rfl⟩ := hd
  obtain ⟨C, T, N, hc, hj, hin, -⟩ := hf
  obtain ⟨C', T', N', ty0, hc', ht0, hnm, hfin, hty, hC⟩ := hty
  cases hc.symm.trans hc'
  obtain ⟨T2, N2, hc2, hlk⟩ := hfl
  cases hc.symm.trans hc2
  intro p e s m args below meth c A n0 ad0 ad H locs cells slots L I
  have hlen : j < (fs.map (ez_v ad)).length := by rw [List.length_map]; exact hl
  refine va_putF I.1.1 I.1.2.1 I.1.2.2.2.2.1 hin ty0 ht0 hnm I.1.2.2.2.1 I.1.2.2.2.2.2.2.2.2.1 I.2.2.2.2.2.1 I.2.2.2.2.2.2.1 I.2.2.2.2.2.2.2.1 k (ez_ws_get G ad hk) hc j hj (I.1.2.2.2.2.1 _ hlk) (fun _ h => h) hfin (I.1.2.2.2.2.2.2.2.2.2.trans hX) hC hty (hn ad).1 (hn ad).2 hlen hd ?_
  intro H1 locs1 hP1 hD1 hS1
  rw [ez_e_set G.2.1] at hP1 hD1
  exact kk p e s m args below meth c A n0 ad0 ad H1 locs1 cells slots L (ez_In_set I hP1 hD1 hS1)
theorem ev_objInit {index k : Nat} (hd : ez_at X pc (.invokespecial index) 3 pc') (h1 : Cond.methodLink X.1.cls index Lib.objectInit ∈ ez_T) (h2 : Cond.instanceMethod Lib.objectInit ∈ ez_T) (h3 : Cond.code Lib.objectInit ⟨#[0xb1]⟩ 1 none ∈ ez_T) (hw : (st.map fun v => v.category).sum ≤ 8) (hf : 1 ≤ ez_fr X ∧ 20 ≤ ez_lo X)
    (kk : ez_Ev l G X uc us pc' ls st h Q) : ez_Ev l G X uc us pc ls (.ref k :: st) h Q := by
  obtain ⟨hd, rfl⟩ := hd
  intro p e s m args below meth c A n0 ad0 ad H locs cells slots L I
  have hts := I.1.2.2.2.2.1
  have hw' : ((st.map (ez_v ad)).map fun v => v.category).sum ≤ 8 := by
    have e1 : ((st.map (ez_v ad)).map fun v => v.category) = st.map fun v => v.category := by
      rw [List.map_map]
      exact List.map_congr_left fun v _ => ez_cat ad v
    rw [e1]
    exact hw
  exact W.objInit I.1.1 I.1.2.1 I.1.2.2.2.1 (hts _ h1) (hts _ h2) (hts _ h3) rfl (by rw [I.1.2.2.1]; exact I.2.2.2.2.2.2.2.2.1.1) rfl hd hf.1 (by show 2 * 0 + ((st.map (ez_v ad)).map fun v => v.category).sum + 12 ≤ ez_lo X; have := hf.2; omega) (kk p e s m args below meth c A n0 ad0 ad H locs cells slots L I)
end EzMake
end
section
/-! ===== throwing and catching ===== -/
section EzThrow
variable {l : Launch} {G : ez_G} {X : ez_X} {uc us pc pc' : Nat} {ls : List (Option Value)} {st : List Value} {h : ez_H} {Q : ez_R → Prop}
/-- 'throw new E("text")', E of kind k, at pc: the entries of its class, its text, its constructor -/
def ez_thr (X : ez_X) (pc k : Nat) : Prop := ∃ (ik is ic : Nat) (text : String),
  Cond.classLink X.1.cls ik (ez_exN k) ∈ ez_T ∧ Cond.initialized (ez_exN k) ∈ ez_T ∧ (X.1.cls, is, text) ∈ ez_str ∧ (∀ w ∈ vx_atS X.1.cls ic (ez_exN k) ["java/lang/RuntimeException", "java/lang/Exception"], w ∈ ez_T) ∧
  (∀ w ∈ Cond.classLink X.1.cls ik (ez_exN k) :: Cond.initialized (ez_exN k) :: vx_atS X.1.cls ic (ez_exN k) ["java/lang/RuntimeException", "java/lang/Exception"], vx_ot w = true) ∧
  Bundle.fit (ez_exN k) = true ∧ decode X.2.1 pc = .ok (.new ik, 3) ∧ decode X.2.1 (pc + 3) = .ok (.dup, 1) ∧ decode X.2.1 (pc + 4) = .ok (.ldc is, 2) ∧ decode X.2.1 (pc + 6) = .ok (.invokespecial ic, 3) ∧ decode X.2.1 (pc + 9) = .ok (.athrow, 1)
theorem ev_throw {k : Nat} (hl : l.stackTraces = false) (ht : ez_thr X pc k) (hX : ez_hs X = []) (hr : (6 ≤ ez_fr X ∧ 84 ≤ ez_lo X) ∧ uc + 1 ≤ ez_rc X ∧ us + 6 ≤ ez_rs X) (hm : uc ≤ ez_mc X ∧ us ≤ ez_ms X) (hst : st = []) (hq : Q (.inr k, h)) : ez_Ev l G X uc us pc ls st h Q := by
  subst hst
  obtain ⟨ik, is, ic, text, w1, w2, w3, w4, w5, w6, d0, d3, d4, d6, d9⟩ := ht
  intro p e s m args below meth c A n0 ad0 ad H locs cells slots L I
  obtain ⟨⟨hx, hb, hml, hown, hts, hret, hlk, hhand, hK, -⟩, hA, ⟨hRo, hh9, had⟩, hn0, hag, hPw, hD, hS, hL, hc1, hs1⟩ := I
  obtain ⟨sa, hsa⟩ := hRo.2.2.1 _ w3
  have hout : ∀ y ∈ c.exceptionTable.toList, covers y (pc + 9) = false := by
    rw [hX] at hhand
    rw [List.map_eq_nil_iff.mp hhand]
    intro y hy
    cases hy
  have k0 := vx_throwS (p := p) (l := l) (e := e) (R := ez_rm X) (s := s) (m := m) (args := args) (below := below) (meth := meth) (c := c) (H := H) (locs := locs) (cells := cells) (slots := slots) (ls := L) (rest := []) (mc := ez_mc X + 1) (ms := ez_ms X + 6) (free := A)
    (Qc := fun _ _ _ _ => False) (XC := fun E st t => E = ez_exN k ∧ H.size ≤ t.heap.size ∧ ∀ q : Nat, q < H.size → t.heap[q]? = H[q]?)
    hx hb hl hown w6 (by decide) (hts _ w1) (hts _ w2) hsa (fun w hw => hts w (w4 w hw)) w5 hRo.2.1.1 hRo.2.1.2 hS (by rw [hml]; exact hL.1) d0 d3 d4 d6 d9 hout
    (by show 2 + 3 < ez_fr X; omega) (by show 0 + (13 * (2 + 1) + 43) ≤ ez_lo X; omega) (by show cells + 1 ≤ ez_rc X; omega) (by show slots + 6 ≤ ez_rs X; omega) hlk (fun t _ h1 h2 => ⟨rfl, h1, h2⟩) hS.2.2 (by omega) (by omega)
  intro T hT S
  obtain ⟨t, a1, o, b1, b2, hq2⟩ := k0 T hT S
  rcases hq2 with ⟨hf, -⟩ | ⟨q, rfl, E, ce, Lc, ⟨rfl, f1, f2⟩, hce, hcv, hcl, hW, hsm, hLc⟩
  · exact hf.elim
  · have hkp : ∀ (j : Nat) (z : Nat × va_E), (ez_ws G ad h)[j]? = some z → t.heap[z.1]? = H[z.1]? := fun j z hz => f2 z.1 (hPw j z hz).lt
    refine ⟨t, a1, .threw q, b1, b2, ⟨(.inr k, h), ad, hq, ⟨hn0, hh9⟩, hag, fun j z hz => (hPw j z hz).kept (hkp j z hz), hD, q, ce, rfl, hce, hcv, by rw [hW.alike.findClass]; exact hcl⟩, ⟨Nat.le_trans hS.1 f1, fun q2 g1 g2 => by rw [f2 q2 (Nat.lt_of_lt_of_le g1 hS.1)]; exact hS.2.1 q2 g1 g2⟩, Lc, ⟨hW, hsm⟩, hLc⟩
/-- an exception of kind k is caught here by the handler at hp, whose first instruction stores it; rows: (from, to, handler, class's entry) -/
theorem ez_Th_catch {k hp i : Nat} {pre suf : List (Nat × Nat × Nat × Nat)} {x : Nat × Nat × Nat × Nat} (hX : ez_hs X = pre ++ x :: suf) (hpre : ∀ z ∈ pre, z.2.2.2 ≠ 0 ∧ k = 1 ∧ Cond.classLink X.1.cls z.2.2.2 "java/lang/IllegalArgumentException" ∈ ez_T) (hx : (x.1 ≤ pc ∧ pc < x.2.1) ∧ x.2.2.1 = hp ∧ x.2.2.2 ≠ 0)
    (hlink : Cond.classLink X.1.cls x.2.2.2 (ez_exN k) ∈ ez_T) (hcast : Cond.castable (ez_exN k) (ez_exN k) ∈ ez_T) (hi : i < X.2.2.1) (hd : (∃ f : Fin 4, decode X.2.1 hp = .ok (.astore_n f, 1) ∧ (f : Nat) = i ∧ hp + 1 = pc') ∨ (decode X.2.1 hp = .ok (.astore i, 2) ∧ hp + 2 = pc'))
    (kk : ez_Ev l G X uc us pc' (ls.set i none) [] h Q) : ez_Th l G X uc us pc ls h k Q := by
  intro p e s m args below meth c A n0 ad0 ad H locs cells slots L st q cell T I hc1 hc2 hc3 hT S
  have hts := I.1.2.2.2.2.1
  have hown := I.1.2.2.2.1
  have hhand := I.1.2.2.2.2.2.2.2.1
  rw [hX] at hhand
  obtain ⟨pre', r1, e1, e2, e3⟩ := List.map_eq_append_iff.mp hhand
  obtain ⟨x', suf', e4, e5, e6⟩ := List.map_eq_cons_iff.mp e3
  subst e4
  have hcov : covers x' pc = true := by
    have h1 := congrArg (fun z : Nat × Nat × Nat × Nat => z.1) e5
    have h2 := congrArg (fun z : Nat × Nat × Nat × Nat => z.2.1) e5
    dsimp only at h1 h2
    simp only [covers, Bool.and_eq_true, decide_eq_true_eq]
    omega
  have hct : x'.catchType = x.2.2.2 := congrArg (fun z : Nat × Nat × Nat × Nat => z.2.2.2) e5
  have hhp : x'.handlerPc = hp := (congrArg (fun z : Nat × Nat × Nat × Nat => z.2.2.1) e5).trans hx.2.1
  have hL0 : lv_has L X.2.2.1 (ez_lv ad ls) := ez_lv_has I.2.2.2.2.2.2.2.2.1
  have hput : ∀ (L' : Array Slot) (y : Nat), lv_has L' X.2.2.1 ((i, Value.ref y) :: (ez_lv ad ls).filter (fun q => !(q.1 == i) && !(q.1 + 1 == i && q.2.category == 2))) → ez_L ad X.2.2.1 (ls.set i none) L' := by
    intro L' y hl'
    refine ⟨hl'.1, hl'.2.1, fun j w hj => ?_⟩
    rw [List.getElem?_set] at hj
    by_cases hij : i = j
    · subst hij
      rw [if_pos rfl] at hj
      split at hj <;> cases hj
    · rw [if_neg hij] at hj
      have h1 := (I.2.2.2.2.2.2.2.2.1.2.2 j w hj).1
      refine ⟨h1, hl'.2.2 (j, ez_v ad w) (List.mem_cons_of_mem _ (List.mem_filter.mpr ⟨ez_lv_in hj, ?_⟩))⟩
      have h2 : ¬ (ez_v ad w).category = 2 := by rw [ez_cat, h1]; decide
      simp [h2, Ne.symm hij]
  have kw : W p l e (ez_rm X) s m args below meth c H locs cells slots (ez_MQ X below s A (ez_Fin G A n0 ad0 Q)) (F0 m x'.handlerPc L [.ref q]) := by
    rw [hhp]
    rcases hd with ⟨f, hd, hf, rfl⟩ | ⟨hd, rfl⟩
    · exact lv_astore_n I.1.1 I.1.2.1 hd hf hL0 hi rfl (fun L' hL' => kk p e s m args below meth c A n0 ad0 ad H locs cells slots L' (ez_In_ls I (hput L' q hL')))
    · exact lv_astore I.1.1 I.1.2.1 hd hL0 hi rfl (fun L' hL' => kk p e s m args below meth c A n0 ad0 ad H locs cells slots L' (ez_In_ls I (hput L' q hL')))
  have kc := vx_catch (E := ez_exN k) (name := ez_exN k) (ce := cell) (q := q) (rest := st) (pc := pc) (ls := L) hown pre' x' suf' e1 (fun z hz => ?_) hcov (by rw [hct]; exact hx.2.2) (by rw [hct]; exact hts _ hlink) (hts _ hcast) hc1 hc2 hc3 kw
  · exact kc T hT S
  · have hz2 : (z.startPc, z.endPc, z.handlerPc, z.catchType) ∈ pre := by
      rw [← e2]
      exact List.mem_map.mpr ⟨z, hz, rfl⟩
    obtain ⟨g1, g2, g3⟩ := hpre _ hz2
    subst g2
    exact Or.inr ⟨g1, _, hts _ g3, I.2.2.1.1.2.2.2.1⟩
end EzThrow
end
section
theorem zz_end : True := trivial
end
