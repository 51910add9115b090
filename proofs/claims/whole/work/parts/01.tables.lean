-- PART A is the skeleton's own text (kit/laws/SKELETON.whole.lean.txt)
-- ===== PART A: goes FIRST, ahead of the names: the tables' words, and 'selects' of the private methods out of them =====
/-- a private method of a class that the tables say can be made, by its rows of tables_1 -/
def lw_okq (q : MethodName × Nat) : Prop := (q.1.cls ≠ "java/lang/invoke/MethodHandle" ∧ q.1.cls ≠ "java/lang/invoke/VarHandle") ∧ Cond.instantiable q.1.cls q.2 ∈ tables_1 ∧ Cond.privateMethod q.1 ∈ tables_1 ∧ Cond.instanceMethod q.1 ∈ tables_1
theorem lw_p0 : lw_okq (⟨"ExpressionDesk$Store", "keep", "(IIJILExpressionDesk$Row;)I"⟩, 4) := ⟨⟨by decide +kernel, by decide +kernel⟩, List.mem_of_getElem? (i := 32) (by decide +kernel), List.mem_of_getElem? (i := 286) (by decide +kernel), List.mem_of_getElem? (i := 287) (by decide +kernel)⟩
theorem lw_p1 : lw_okq (⟨"java/util/ArrayList", "add", "(Ljava/lang/Object;[Ljava/lang/Object;I)V"⟩, 3) := ⟨⟨by decide +kernel, by decide +kernel⟩, List.mem_of_getElem? (i := 38) (by decide +kernel), List.mem_of_getElem? (i := 336) (by decide +kernel), List.mem_of_getElem? (i := 337) (by decide +kernel)⟩
theorem lw_p2 : lw_okq (⟨"java/util/ArrayList", "grow", "()[Ljava/lang/Object;"⟩, 3) := ⟨⟨by decide +kernel, by decide +kernel⟩, List.mem_of_getElem? (i := 38) (by decide +kernel), List.mem_of_getElem? (i := 340) (by decide +kernel), List.mem_of_getElem? (i := 341) (by decide +kernel)⟩
theorem lw_p3 : lw_okq (⟨"java/util/ArrayList", "grow", "(I)[Ljava/lang/Object;"⟩, 3) := ⟨⟨by decide +kernel, by decide +kernel⟩, List.mem_of_getElem? (i := 38) (by decide +kernel), List.mem_of_getElem? (i := 344) (by decide +kernel), List.mem_of_getElem? (i := 345) (by decide +kernel)⟩
theorem lw_p4 : lw_okq (⟨"ExpressionDesk$Value", "comparedByBytes", "(LExpressionDesk$Value;)I"⟩, 6) := ⟨⟨by decide +kernel, by decide +kernel⟩, List.mem_of_getElem? (i := 64) (by decide +kernel), List.mem_of_getElem? (i := 483) (by decide +kernel), List.mem_of_getElem? (i := 484) (by decide +kernel)⟩
theorem lw_p5 : lw_okq (⟨"ExpressionDesk$Expression", "isRight", "()Z"⟩, 9) := ⟨⟨by decide +kernel, by decide +kernel⟩, List.mem_of_getElem? (i := 154) (by decide +kernel), List.mem_of_getElem? (i := 523) (by decide +kernel), List.mem_of_getElem? (i := 524) (by decide +kernel)⟩
theorem lw_p6 : lw_okq (⟨"ExpressionDesk$Expression", "performWithErrors", "(II)I"⟩, 9) := ⟨⟨by decide +kernel, by decide +kernel⟩, List.mem_of_getElem? (i := 154) (by decide +kernel), List.mem_of_getElem? (i := 535) (by decide +kernel), List.mem_of_getElem? (i := 536) (by decide +kernel)⟩
theorem lw_p7 : lw_okq (⟨"ExpressionDesk$Expression", "boundTo", "(I)I"⟩, 9) := ⟨⟨by decide +kernel, by decide +kernel⟩, List.mem_of_getElem? (i := 154) (by decide +kernel), List.mem_of_getElem? (i := 540) (by decide +kernel), List.mem_of_getElem? (i := 541) (by decide +kernel)⟩
theorem lw_p8 : lw_okq (⟨"ExpressionDesk$Expression", "decidedBy", "(I)I"⟩, 9) := ⟨⟨by decide +kernel, by decide +kernel⟩, List.mem_of_getElem? (i := 154) (by decide +kernel), List.mem_of_getElem? (i := 545) (by decide +kernel), List.mem_of_getElem? (i := 546) (by decide +kernel)⟩
theorem lw_p9 : lw_okq (⟨"ExpressionDesk$Expression", "taken", "(I)LExpressionDesk$Value;"⟩, 9) := ⟨⟨by decide +kernel, by decide +kernel⟩, List.mem_of_getElem? (i := 154) (by decide +kernel), List.mem_of_getElem? (i := 549) (by decide +kernel), List.mem_of_getElem? (i := 550) (by decide +kernel)⟩
theorem lw_p10 : lw_okq (⟨"ExpressionDesk$Expression", "numberTaken", "(I)I"⟩, 9) := ⟨⟨by decide +kernel, by decide +kernel⟩, List.mem_of_getElem? (i := 154) (by decide +kernel), List.mem_of_getElem? (i := 553) (by decide +kernel), List.mem_of_getElem? (i := 554) (by decide +kernel)⟩
theorem lw_p11 : lw_okq (⟨"ExpressionDesk$Expression", "chosen", "()I"⟩, 9) := ⟨⟨by decide +kernel, by decide +kernel⟩, List.mem_of_getElem? (i := 154) (by decide +kernel), List.mem_of_getElem? (i := 561) (by decide +kernel), List.mem_of_getElem? (i := 562) (by decide +kernel)⟩
theorem lw_p12 : lw_okq (⟨"ExpressionDesk$Expression", "firstGood", "(I)I"⟩, 9) := ⟨⟨by decide +kernel, by decide +kernel⟩, List.mem_of_getElem? (i := 154) (by decide +kernel), List.mem_of_getElem? (i := 565) (by decide +kernel), List.mem_of_getElem? (i := 566) (by decide +kernel)⟩
theorem lw_p13 : lw_okq (⟨"ExpressionDesk$Expression", "among", "(I)I"⟩, 9) := ⟨⟨by decide +kernel, by decide +kernel⟩, List.mem_of_getElem? (i := 154) (by decide +kernel), List.mem_of_getElem? (i := 569) (by decide +kernel), List.mem_of_getElem? (i := 570) (by decide +kernel)⟩
theorem lw_p14 : lw_okq (⟨"ExpressionDesk$Expression", "equal", "(II)I"⟩, 9) := ⟨⟨by decide +kernel, by decide +kernel⟩, List.mem_of_getElem? (i := 154) (by decide +kernel), List.mem_of_getElem? (i := 573) (by decide +kernel), List.mem_of_getElem? (i := 574) (by decide +kernel)⟩
theorem lw_p15 : lw_okq (⟨"ExpressionDesk$Expression", "hasTakenError", "(I)Z"⟩, 9) := ⟨⟨by decide +kernel, by decide +kernel⟩, List.mem_of_getElem? (i := 154) (by decide +kernel), List.mem_of_getElem? (i := 579) (by decide +kernel), List.mem_of_getElem? (i := 580) (by decide +kernel)⟩
def lw_privs_1 : List (MethodName × Nat) := [(⟨"ExpressionDesk$Store", "keep", "(IIJILExpressionDesk$Row;)I"⟩, 4), (⟨"java/util/ArrayList", "add", "(Ljava/lang/Object;[Ljava/lang/Object;I)V"⟩, 3), (⟨"java/util/ArrayList", "grow", "()[Ljava/lang/Object;"⟩, 3), (⟨"java/util/ArrayList", "grow", "(I)[Ljava/lang/Object;"⟩, 3), (⟨"ExpressionDesk$Value", "comparedByBytes", "(LExpressionDesk$Value;)I"⟩, 6), (⟨"ExpressionDesk$Expression", "isRight", "()Z"⟩, 9), (⟨"ExpressionDesk$Expression", "performWithErrors", "(II)I"⟩, 9), (⟨"ExpressionDesk$Expression", "boundTo", "(I)I"⟩, 9), (⟨"ExpressionDesk$Expression", "decidedBy", "(I)I"⟩, 9), (⟨"ExpressionDesk$Expression", "taken", "(I)LExpressionDesk$Value;"⟩, 9), (⟨"ExpressionDesk$Expression", "numberTaken", "(I)I"⟩, 9), (⟨"ExpressionDesk$Expression", "chosen", "()I"⟩, 9), (⟨"ExpressionDesk$Expression", "firstGood", "(I)I"⟩, 9), (⟨"ExpressionDesk$Expression", "among", "(I)I"⟩, 9), (⟨"ExpressionDesk$Expression", "equal", "(II)I"⟩, 9), (⟨"ExpressionDesk$Expression", "hasTakenError", "(I)Z"⟩, 9)]
theorem lw_r1 : ∀ q ∈ lw_privs_1, lw_okq q := List.forall_mem_cons.mpr ⟨lw_p0, List.forall_mem_cons.mpr ⟨lw_p1, List.forall_mem_cons.mpr ⟨lw_p2, List.forall_mem_cons.mpr ⟨lw_p3, List.forall_mem_cons.mpr ⟨lw_p4, List.forall_mem_cons.mpr ⟨lw_p5, List.forall_mem_cons.mpr ⟨lw_p6, List.forall_mem_cons.mpr ⟨lw_p7, List.forall_mem_cons.mpr ⟨lw_p8, List.forall_mem_cons.mpr ⟨lw_p9, List.forall_mem_cons.mpr ⟨lw_p10, List.forall_mem_cons.mpr ⟨lw_p11, List.forall_mem_cons.mpr ⟨lw_p12, List.forall_mem_cons.mpr ⟨lw_p13, List.forall_mem_cons.mpr ⟨lw_p14, List.forall_mem_cons.mpr ⟨lw_p15, fun _ h => absurd h List.not_mem_nil⟩⟩⟩⟩⟩⟩⟩⟩⟩⟩⟩⟩⟩⟩⟩⟩
theorem lw_p16 : lw_okq (⟨"ExpressionDesk$Expression", "performOnValues", "(II)I"⟩, 9) := ⟨⟨by decide +kernel, by decide +kernel⟩, List.mem_of_getElem? (i := 154) (by decide +kernel), List.mem_of_getElem? (i := 583) (by decide +kernel), List.mem_of_getElem? (i := 584) (by decide +kernel)⟩
theorem lw_p17 : lw_okq (⟨"ExpressionDesk$Expression", "judged", "(II)I"⟩, 9) := ⟨⟨by decide +kernel, by decide +kernel⟩, List.mem_of_getElem? (i := 154) (by decide +kernel), List.mem_of_getElem? (i := 587) (by decide +kernel), List.mem_of_getElem? (i := 588) (by decide +kernel)⟩
theorem lw_p18 : lw_okq (⟨"ExpressionDesk$Expression", "compared", "(I)I"⟩, 9) := ⟨⟨by decide +kernel, by decide +kernel⟩, List.mem_of_getElem? (i := 154) (by decide +kernel), List.mem_of_getElem? (i := 591) (by decide +kernel), List.mem_of_getElem? (i := 592) (by decide +kernel)⟩
theorem lw_p19 : lw_okq (⟨"ExpressionDesk$Expression", "reckoned", "(I)I"⟩, 9) := ⟨⟨by decide +kernel, by decide +kernel⟩, List.mem_of_getElem? (i := 154) (by decide +kernel), List.mem_of_getElem? (i := 596) (by decide +kernel), List.mem_of_getElem? (i := 597) (by decide +kernel)⟩
theorem lw_p20 : lw_okq (⟨"ExpressionDesk$Reckoner", "settle", "(ZJJ)V"⟩, 4) := ⟨⟨by decide +kernel, by decide +kernel⟩, List.mem_of_getElem? (i := 162) (by decide +kernel), List.mem_of_getElem? (i := 612) (by decide +kernel), List.mem_of_getElem? (i := 613) (by decide +kernel)⟩
theorem lw_p21 : lw_okq (⟨"ExpressionDesk$Expression", "ofNumber", "(I)I"⟩, 9) := ⟨⟨by decide +kernel, by decide +kernel⟩, List.mem_of_getElem? (i := 154) (by decide +kernel), List.mem_of_getElem? (i := 636) (by decide +kernel), List.mem_of_getElem? (i := 637) (by decide +kernel)⟩
theorem lw_p22 : lw_okq (⟨"ExpressionDesk$Expression", "chained", "(I)I"⟩, 9) := ⟨⟨by decide +kernel, by decide +kernel⟩, List.mem_of_getElem? (i := 154) (by decide +kernel), List.mem_of_getElem? (i := 646) (by decide +kernel), List.mem_of_getElem? (i := 647) (by decide +kernel)⟩
theorem lw_p23 : lw_okq (⟨"ExpressionDesk$Expression", "ofText", "(I)I"⟩, 9) := ⟨⟨by decide +kernel, by decide +kernel⟩, List.mem_of_getElem? (i := 154) (by decide +kernel), List.mem_of_getElem? (i := 662) (by decide +kernel), List.mem_of_getElem? (i := 663) (by decide +kernel)⟩
theorem lw_p24 : lw_okq (⟨"ExpressionDesk$Expression", "part", "(LExpressionDesk$Value;LExpressionDesk$Value;LExpressionDesk$Value;)I"⟩, 9) := ⟨⟨by decide +kernel, by decide +kernel⟩, List.mem_of_getElem? (i := 154) (by decide +kernel), List.mem_of_getElem? (i := 666) (by decide +kernel), List.mem_of_getElem? (i := 667) (by decide +kernel)⟩
theorem lw_p25 : lw_okq (⟨"ExpressionDesk$Expression", "turned", "(LExpressionDesk$Value;III)I"⟩, 9) := ⟨⟨by decide +kernel, by decide +kernel⟩, List.mem_of_getElem? (i := 154) (by decide +kernel), List.mem_of_getElem? (i := 676) (by decide +kernel), List.mem_of_getElem? (i := 677) (by decide +kernel)⟩
theorem lw_p26 : lw_okq (⟨"ExpressionDesk$Expression", "searched", "(I)I"⟩, 9) := ⟨⟨by decide +kernel, by decide +kernel⟩, List.mem_of_getElem? (i := 154) (by decide +kernel), List.mem_of_getElem? (i := 681) (by decide +kernel), List.mem_of_getElem? (i := 682) (by decide +kernel)⟩
theorem lw_p27 : lw_okq (⟨"ExpressionDesk$Expression", "cut", "(LExpressionDesk$Value;III)I"⟩, 9) := ⟨⟨by decide +kernel, by decide +kernel⟩, List.mem_of_getElem? (i := 154) (by decide +kernel), List.mem_of_getElem? (i := 691) (by decide +kernel), List.mem_of_getElem? (i := 692) (by decide +kernel)⟩
theorem lw_p28 : lw_okq (⟨"ExpressionDesk$Expression", "ofAny", "(I)I"⟩, 9) := ⟨⟨by decide +kernel, by decide +kernel⟩, List.mem_of_getElem? (i := 154) (by decide +kernel), List.mem_of_getElem? (i := 695) (by decide +kernel), List.mem_of_getElem? (i := 696) (by decide +kernel)⟩
theorem lw_p29 : lw_okq (⟨"ExpressionDesk$Expression", "tagText", "(LExpressionDesk$Value;)I"⟩, 9) := ⟨⟨by decide +kernel, by decide +kernel⟩, List.mem_of_getElem? (i := 154) (by decide +kernel), List.mem_of_getElem? (i := 765) (by decide +kernel), List.mem_of_getElem? (i := 766) (by decide +kernel)⟩
theorem lw_p30 : lw_okq (⟨"ExpressionDesk$Expression", "typeName", "(LExpressionDesk$Value;)I"⟩, 9) := ⟨⟨by decide +kernel, by decide +kernel⟩, List.mem_of_getElem? (i := 154) (by decide +kernel), List.mem_of_getElem? (i := 770) (by decide +kernel), List.mem_of_getElem? (i := 771) (by decide +kernel)⟩
theorem lw_p31 : lw_okq (⟨"ExpressionDesk$Gathering", "isThere", "(I)Z"⟩, 9) := ⟨⟨by decide +kernel, by decide +kernel⟩, List.mem_of_getElem? (i := 214) (by decide +kernel), List.mem_of_getElem? (i := 800) (by decide +kernel), List.mem_of_getElem? (i := 801) (by decide +kernel)⟩
def lw_privs_2 : List (MethodName × Nat) := [(⟨"ExpressionDesk$Expression", "performOnValues", "(II)I"⟩, 9), (⟨"ExpressionDesk$Expression", "judged", "(II)I"⟩, 9), (⟨"ExpressionDesk$Expression", "compared", "(I)I"⟩, 9), (⟨"ExpressionDesk$Expression", "reckoned", "(I)I"⟩, 9), (⟨"ExpressionDesk$Reckoner", "settle", "(ZJJ)V"⟩, 4), (⟨"ExpressionDesk$Expression", "ofNumber", "(I)I"⟩, 9), (⟨"ExpressionDesk$Expression", "chained", "(I)I"⟩, 9), (⟨"ExpressionDesk$Expression", "ofText", "(I)I"⟩, 9), (⟨"ExpressionDesk$Expression", "part", "(LExpressionDesk$Value;LExpressionDesk$Value;LExpressionDesk$Value;)I"⟩, 9), (⟨"ExpressionDesk$Expression", "turned", "(LExpressionDesk$Value;III)I"⟩, 9), (⟨"ExpressionDesk$Expression", "searched", "(I)I"⟩, 9), (⟨"ExpressionDesk$Expression", "cut", "(LExpressionDesk$Value;III)I"⟩, 9), (⟨"ExpressionDesk$Expression", "ofAny", "(I)I"⟩, 9), (⟨"ExpressionDesk$Expression", "tagText", "(LExpressionDesk$Value;)I"⟩, 9), (⟨"ExpressionDesk$Expression", "typeName", "(LExpressionDesk$Value;)I"⟩, 9), (⟨"ExpressionDesk$Gathering", "isThere", "(I)Z"⟩, 9)]
theorem lw_r2 : ∀ q ∈ lw_privs_2, lw_okq q := List.forall_mem_cons.mpr ⟨lw_p16, List.forall_mem_cons.mpr ⟨lw_p17, List.forall_mem_cons.mpr ⟨lw_p18, List.forall_mem_cons.mpr ⟨lw_p19, List.forall_mem_cons.mpr ⟨lw_p20, List.forall_mem_cons.mpr ⟨lw_p21, List.forall_mem_cons.mpr ⟨lw_p22, List.forall_mem_cons.mpr ⟨lw_p23, List.forall_mem_cons.mpr ⟨lw_p24, List.forall_mem_cons.mpr ⟨lw_p25, List.forall_mem_cons.mpr ⟨lw_p26, List.forall_mem_cons.mpr ⟨lw_p27, List.forall_mem_cons.mpr ⟨lw_p28, List.forall_mem_cons.mpr ⟨lw_p29, List.forall_mem_cons.mpr ⟨lw_p30, List.forall_mem_cons.mpr ⟨lw_p31, fun _ h => absurd h List.not_mem_nil⟩⟩⟩⟩⟩⟩⟩⟩⟩⟩⟩⟩⟩⟩⟩⟩
theorem lw_p32 : lw_okq (⟨"ExpressionDesk$Gathering", "countGood", "()I"⟩, 9) := ⟨⟨by decide +kernel, by decide +kernel⟩, List.mem_of_getElem? (i := 214) (by decide +kernel), List.mem_of_getElem? (i := 812) (by decide +kernel), List.mem_of_getElem? (i := 813) (by decide +kernel)⟩
theorem lw_p33 : lw_okq (⟨"ExpressionDesk$Gathering", "reckonSum", "()V"⟩, 9) := ⟨⟨by decide +kernel, by decide +kernel⟩, List.mem_of_getElem? (i := 214) (by decide +kernel), List.mem_of_getElem? (i := 817) (by decide +kernel), List.mem_of_getElem? (i := 818) (by decide +kernel)⟩
theorem lw_p34 : lw_okq (⟨"ExpressionDesk$Gathering", "outermost", "(I)I"⟩, 9) := ⟨⟨by decide +kernel, by decide +kernel⟩, List.mem_of_getElem? (i := 214) (by decide +kernel), List.mem_of_getElem? (i := 826) (by decide +kernel), List.mem_of_getElem? (i := 827) (by decide +kernel)⟩
theorem lw_p35 : lw_okq (⟨"ExpressionDesk$Gathering", "joined", "()I"⟩, 9) := ⟨⟨by decide +kernel, by decide +kernel⟩, List.mem_of_getElem? (i := 214) (by decide +kernel), List.mem_of_getElem? (i := 831) (by decide +kernel), List.mem_of_getElem? (i := 832) (by decide +kernel)⟩
theorem lw_p36 : lw_okq (⟨"ExpressionDesk$Gathering", "putAll", "([I)Z"⟩, 9) := ⟨⟨by decide +kernel, by decide +kernel⟩, List.mem_of_getElem? (i := 214) (by decide +kernel), List.mem_of_getElem? (i := 835) (by decide +kernel), List.mem_of_getElem? (i := 836) (by decide +kernel)⟩
theorem lw_p37 : lw_okq (⟨"ExpressionDesk$Gathering", "sortGathered", "()V"⟩, 9) := ⟨⟨by decide +kernel, by decide +kernel⟩, List.mem_of_getElem? (i := 214) (by decide +kernel), List.mem_of_getElem? (i := 842) (by decide +kernel), List.mem_of_getElem? (i := 843) (by decide +kernel)⟩
theorem lw_p38 : lw_okq (⟨"ExpressionDeskModel", "numbered", "(JIZ)I"⟩, 34) := ⟨⟨by decide +kernel, by decide +kernel⟩, List.mem_of_getElem? (i := 847) (by decide +kernel), List.mem_of_getElem? (i := 972) (by decide +kernel), List.mem_of_getElem? (i := 973) (by decide +kernel)⟩
theorem lw_p39 : lw_okq (⟨"ExpressionDeskModel", "number", "([IIZ)I"⟩, 34) := ⟨⟨by decide +kernel, by decide +kernel⟩, List.mem_of_getElem? (i := 847) (by decide +kernel), List.mem_of_getElem? (i := 980) (by decide +kernel), List.mem_of_getElem? (i := 981) (by decide +kernel)⟩
theorem lw_p40 : lw_okq (⟨"ExpressionDeskModel", "start", "(II)V"⟩, 34) := ⟨⟨by decide +kernel, by decide +kernel⟩, List.mem_of_getElem? (i := 847) (by decide +kernel), List.mem_of_getElem? (i := 984) (by decide +kernel), List.mem_of_getElem? (i := 985) (by decide +kernel)⟩
theorem lw_p41 : lw_okq (⟨"ExpressionDeskModel", "keep", "()I"⟩, 34) := ⟨⟨by decide +kernel, by decide +kernel⟩, List.mem_of_getElem? (i := 847) (by decide +kernel), List.mem_of_getElem? (i := 991) (by decide +kernel), List.mem_of_getElem? (i := 992) (by decide +kernel)⟩
theorem lw_p42 : lw_okq (⟨"ExpressionDeskModel", "isIt", "(I)Z"⟩, 34) := ⟨⟨by decide +kernel, by decide +kernel⟩, List.mem_of_getElem? (i := 847) (by decide +kernel), List.mem_of_getElem? (i := 995) (by decide +kernel), List.mem_of_getElem? (i := 996) (by decide +kernel)⟩
theorem lw_p43 : lw_okq (⟨"ExpressionDeskModel", "letter", "(I)V"⟩, 34) := ⟨⟨by decide +kernel, by decide +kernel⟩, List.mem_of_getElem? (i := 847) (by decide +kernel), List.mem_of_getElem? (i := 1015) (by decide +kernel), List.mem_of_getElem? (i := 1016) (by decide +kernel)⟩
theorem lw_p44 : lw_okq (⟨"ExpressionDeskModel", "isValue", "(I)Z"⟩, 34) := ⟨⟨by decide +kernel, by decide +kernel⟩, List.mem_of_getElem? (i := 847) (by decide +kernel), List.mem_of_getElem? (i := 1023) (by decide +kernel), List.mem_of_getElem? (i := 1024) (by decide +kernel)⟩
theorem lw_p45 : lw_okq (⟨"ExpressionDeskModel", "orderOf", "(II)I"⟩, 34) := ⟨⟨by decide +kernel, by decide +kernel⟩, List.mem_of_getElem? (i := 847) (by decide +kernel), List.mem_of_getElem? (i := 1043) (by decide +kernel), List.mem_of_getElem? (i := 1044) (by decide +kernel)⟩
theorem lw_p46 : lw_okq (⟨"ExpressionDeskModel", "rank", "(I)I"⟩, 34) := ⟨⟨by decide +kernel, by decide +kernel⟩, List.mem_of_getElem? (i := 847) (by decide +kernel), List.mem_of_getElem? (i := 1047) (by decide +kernel), List.mem_of_getElem? (i := 1048) (by decide +kernel)⟩
theorem lw_p47 : lw_okq (⟨"ExpressionDeskModel", "isNumber", "(I)Z"⟩, 34) := ⟨⟨by decide +kernel, by decide +kernel⟩, List.mem_of_getElem? (i := 847) (by decide +kernel), List.mem_of_getElem? (i := 1051) (by decide +kernel), List.mem_of_getElem? (i := 1052) (by decide +kernel)⟩
def lw_privs_3 : List (MethodName × Nat) := [(⟨"ExpressionDesk$Gathering", "countGood", "()I"⟩, 9), (⟨"ExpressionDesk$Gathering", "reckonSum", "()V"⟩, 9), (⟨"ExpressionDesk$Gathering", "outermost", "(I)I"⟩, 9), (⟨"ExpressionDesk$Gathering", "joined", "()I"⟩, 9), (⟨"ExpressionDesk$Gathering", "putAll", "([I)Z"⟩, 9), (⟨"ExpressionDesk$Gathering", "sortGathered", "()V"⟩, 9), (⟨"ExpressionDeskModel", "numbered", "(JIZ)I"⟩, 34), (⟨"ExpressionDeskModel", "number", "([IIZ)I"⟩, 34), (⟨"ExpressionDeskModel", "start", "(II)V"⟩, 34), (⟨"ExpressionDeskModel", "keep", "()I"⟩, 34), (⟨"ExpressionDeskModel", "isIt", "(I)Z"⟩, 34), (⟨"ExpressionDeskModel", "letter", "(I)V"⟩, 34), (⟨"ExpressionDeskModel", "isValue", "(I)Z"⟩, 34), (⟨"ExpressionDeskModel", "orderOf", "(II)I"⟩, 34), (⟨"ExpressionDeskModel", "rank", "(I)I"⟩, 34), (⟨"ExpressionDeskModel", "isNumber", "(I)Z"⟩, 34)]
theorem lw_r3 : ∀ q ∈ lw_privs_3, lw_okq q := List.forall_mem_cons.mpr ⟨lw_p32, List.forall_mem_cons.mpr ⟨lw_p33, List.forall_mem_cons.mpr ⟨lw_p34, List.forall_mem_cons.mpr ⟨lw_p35, List.forall_mem_cons.mpr ⟨lw_p36, List.forall_mem_cons.mpr ⟨lw_p37, List.forall_mem_cons.mpr ⟨lw_p38, List.forall_mem_cons.mpr ⟨lw_p39, List.forall_mem_cons.mpr ⟨lw_p40, List.forall_mem_cons.mpr ⟨lw_p41, List.forall_mem_cons.mpr ⟨lw_p42, List.forall_mem_cons.mpr ⟨lw_p43, List.forall_mem_cons.mpr ⟨lw_p44, List.forall_mem_cons.mpr ⟨lw_p45, List.forall_mem_cons.mpr ⟨lw_p46, List.forall_mem_cons.mpr ⟨lw_p47, fun _ h => absurd h List.not_mem_nil⟩⟩⟩⟩⟩⟩⟩⟩⟩⟩⟩⟩⟩⟩⟩⟩
theorem lw_p48 : lw_okq (⟨"ExpressionDeskModel", "orderNumbers", "(II)I"⟩, 34) := ⟨⟨by decide +kernel, by decide +kernel⟩, List.mem_of_getElem? (i := 847) (by decide +kernel), List.mem_of_getElem? (i := 1055) (by decide +kernel), List.mem_of_getElem? (i := 1056) (by decide +kernel)⟩
theorem lw_p49 : lw_okq (⟨"ExpressionDeskModel", "lay", "(I[I)V"⟩, 34) := ⟨⟨by decide +kernel, by decide +kernel⟩, List.mem_of_getElem? (i := 847) (by decide +kernel), List.mem_of_getElem? (i := 1059) (by decide +kernel), List.mem_of_getElem? (i := 1060) (by decide +kernel)⟩
theorem lw_p50 : lw_okq (⟨"ExpressionDeskModel", "orderBytes", "(II)I"⟩, 34) := ⟨⟨by decide +kernel, by decide +kernel⟩, List.mem_of_getElem? (i := 847) (by decide +kernel), List.mem_of_getElem? (i := 1066) (by decide +kernel), List.mem_of_getElem? (i := 1067) (by decide +kernel)⟩
theorem lw_p51 : lw_okq (⟨"ExpressionDeskModel", "isRight", "()Z"⟩, 34) := ⟨⟨by decide +kernel, by decide +kernel⟩, List.mem_of_getElem? (i := 847) (by decide +kernel), List.mem_of_getElem? (i := 1086) (by decide +kernel), List.mem_of_getElem? (i := 1087) (by decide +kernel)⟩
theorem lw_p52 : lw_okq (⟨"ExpressionDeskModel", "takes", "(I)I"⟩, 34) := ⟨⟨by decide +kernel, by decide +kernel⟩, List.mem_of_getElem? (i := 847) (by decide +kernel), List.mem_of_getElem? (i := 1090) (by decide +kernel), List.mem_of_getElem? (i := 1091) (by decide +kernel)⟩
theorem lw_p53 : lw_okq (⟨"ExpressionDeskModel", "done", "(II)I"⟩, 34) := ⟨⟨by decide +kernel, by decide +kernel⟩, List.mem_of_getElem? (i := 847) (by decide +kernel), List.mem_of_getElem? (i := 1094) (by decide +kernel), List.mem_of_getElem? (i := 1095) (by decide +kernel)⟩
theorem lw_p54 : lw_okq (⟨"ExpressionDeskModel", "ofItsOwn", "(II)I"⟩, 34) := ⟨⟨by decide +kernel, by decide +kernel⟩, List.mem_of_getElem? (i := 847) (by decide +kernel), List.mem_of_getElem? (i := 1098) (by decide +kernel), List.mem_of_getElem? (i := 1099) (by decide +kernel)⟩
theorem lw_p55 : lw_okq (⟨"ExpressionDeskModel", "bindingOf", "(I)I"⟩, 34) := ⟨⟨by decide +kernel, by decide +kernel⟩, List.mem_of_getElem? (i := 847) (by decide +kernel), List.mem_of_getElem? (i := 1102) (by decide +kernel), List.mem_of_getElem? (i := 1103) (by decide +kernel)⟩
theorem lw_p56 : lw_okq (⟨"ExpressionDeskModel", "both", "(III)I"⟩, 34) := ⟨⟨by decide +kernel, by decide +kernel⟩, List.mem_of_getElem? (i := 847) (by decide +kernel), List.mem_of_getElem? (i := 1107) (by decide +kernel), List.mem_of_getElem? (i := 1108) (by decide +kernel)⟩
theorem lw_p57 : lw_okq (⟨"ExpressionDeskModel", "truthOf", "(I)I"⟩, 34) := ⟨⟨by decide +kernel, by decide +kernel⟩, List.mem_of_getElem? (i := 847) (by decide +kernel), List.mem_of_getElem? (i := 1111) (by decide +kernel), List.mem_of_getElem? (i := 1112) (by decide +kernel)⟩
theorem lw_p58 : lw_okq (⟨"ExpressionDeskModel", "given", "(I)I"⟩, 34) := ⟨⟨by decide +kernel, by decide +kernel⟩, List.mem_of_getElem? (i := 847) (by decide +kernel), List.mem_of_getElem? (i := 1118) (by decide +kernel), List.mem_of_getElem? (i := 1119) (by decide +kernel)⟩
theorem lw_p59 : lw_okq (⟨"ExpressionDeskModel", "isIn", "(II)I"⟩, 34) := ⟨⟨by decide +kernel, by decide +kernel⟩, List.mem_of_getElem? (i := 847) (by decide +kernel), List.mem_of_getElem? (i := 1122) (by decide +kernel), List.mem_of_getElem? (i := 1123) (by decide +kernel)⟩
theorem lw_p60 : lw_okq (⟨"ExpressionDeskModel", "equal", "(II)I"⟩, 34) := ⟨⟨by decide +kernel, by decide +kernel⟩, List.mem_of_getElem? (i := 847) (by decide +kernel), List.mem_of_getElem? (i := 1126) (by decide +kernel), List.mem_of_getElem? (i := 1127) (by decide +kernel)⟩
theorem lw_p61 : lw_okq (⟨"ExpressionDeskModel", "rowOf", "(II)I"⟩, 34) := ⟨⟨by decide +kernel, by decide +kernel⟩, List.mem_of_getElem? (i := 847) (by decide +kernel), List.mem_of_getElem? (i := 1130) (by decide +kernel), List.mem_of_getElem? (i := 1131) (by decide +kernel)⟩
theorem lw_p62 : lw_okq (⟨"ExpressionDeskModel", "isPlain", "(I)Z"⟩, 34) := ⟨⟨by decide +kernel, by decide +kernel⟩, List.mem_of_getElem? (i := 847) (by decide +kernel), List.mem_of_getElem? (i := 1134) (by decide +kernel), List.mem_of_getElem? (i := 1135) (by decide +kernel)⟩
theorem lw_p63 : lw_okq (⟨"ExpressionDeskModel", "letterAll", "(III)V"⟩, 34) := ⟨⟨by decide +kernel, by decide +kernel⟩, List.mem_of_getElem? (i := 847) (by decide +kernel), List.mem_of_getElem? (i := 1138) (by decide +kernel), List.mem_of_getElem? (i := 1139) (by decide +kernel)⟩
def lw_privs_4 : List (MethodName × Nat) := [(⟨"ExpressionDeskModel", "orderNumbers", "(II)I"⟩, 34), (⟨"ExpressionDeskModel", "lay", "(I[I)V"⟩, 34), (⟨"ExpressionDeskModel", "orderBytes", "(II)I"⟩, 34), (⟨"ExpressionDeskModel", "isRight", "()Z"⟩, 34), (⟨"ExpressionDeskModel", "takes", "(I)I"⟩, 34), (⟨"ExpressionDeskModel", "done", "(II)I"⟩, 34), (⟨"ExpressionDeskModel", "ofItsOwn", "(II)I"⟩, 34), (⟨"ExpressionDeskModel", "bindingOf", "(I)I"⟩, 34), (⟨"ExpressionDeskModel", "both", "(III)I"⟩, 34), (⟨"ExpressionDeskModel", "truthOf", "(I)I"⟩, 34), (⟨"ExpressionDeskModel", "given", "(I)I"⟩, 34), (⟨"ExpressionDeskModel", "isIn", "(II)I"⟩, 34), (⟨"ExpressionDeskModel", "equal", "(II)I"⟩, 34), (⟨"ExpressionDeskModel", "rowOf", "(II)I"⟩, 34), (⟨"ExpressionDeskModel", "isPlain", "(I)Z"⟩, 34), (⟨"ExpressionDeskModel", "letterAll", "(III)V"⟩, 34)]
theorem lw_r4 : ∀ q ∈ lw_privs_4, lw_okq q := List.forall_mem_cons.mpr ⟨lw_p48, List.forall_mem_cons.mpr ⟨lw_p49, List.forall_mem_cons.mpr ⟨lw_p50, List.forall_mem_cons.mpr ⟨lw_p51, List.forall_mem_cons.mpr ⟨lw_p52, List.forall_mem_cons.mpr ⟨lw_p53, List.forall_mem_cons.mpr ⟨lw_p54, List.forall_mem_cons.mpr ⟨lw_p55, List.forall_mem_cons.mpr ⟨lw_p56, List.forall_mem_cons.mpr ⟨lw_p57, List.forall_mem_cons.mpr ⟨lw_p58, List.forall_mem_cons.mpr ⟨lw_p59, List.forall_mem_cons.mpr ⟨lw_p60, List.forall_mem_cons.mpr ⟨lw_p61, List.forall_mem_cons.mpr ⟨lw_p62, List.forall_mem_cons.mpr ⟨lw_p63, fun _ h => absurd h List.not_mem_nil⟩⟩⟩⟩⟩⟩⟩⟩⟩⟩⟩⟩⟩⟩⟩⟩
theorem lw_p64 : lw_okq (⟨"ExpressionDeskModel", "some", "(III)I"⟩, 34) := ⟨⟨by decide +kernel, by decide +kernel⟩, List.mem_of_getElem? (i := 847) (by decide +kernel), List.mem_of_getElem? (i := 1142) (by decide +kernel), List.mem_of_getElem? (i := 1143) (by decide +kernel)⟩
theorem lw_p65 : lw_okq (⟨"ExpressionDeskModel", "two", "(III)I"⟩, 34) := ⟨⟨by decide +kernel, by decide +kernel⟩, List.mem_of_getElem? (i := 847) (by decide +kernel), List.mem_of_getElem? (i := 1147) (by decide +kernel), List.mem_of_getElem? (i := 1148) (by decide +kernel)⟩
theorem lw_p66 : lw_okq (⟨"ExpressionDeskModel", "less", "(II)I"⟩, 34) := ⟨⟨by decide +kernel, by decide +kernel⟩, List.mem_of_getElem? (i := 847) (by decide +kernel), List.mem_of_getElem? (i := 1154) (by decide +kernel), List.mem_of_getElem? (i := 1155) (by decide +kernel)⟩
theorem lw_p67 : lw_okq (⟨"ExpressionDeskModel", "around", "(III)I"⟩, 34) := ⟨⟨by decide +kernel, by decide +kernel⟩, List.mem_of_getElem? (i := 847) (by decide +kernel), List.mem_of_getElem? (i := 1158) (by decide +kernel), List.mem_of_getElem? (i := 1159) (by decide +kernel)⟩
theorem lw_p68 : lw_okq (⟨"ExpressionDeskModel", "goWith", "(II)Z"⟩, 34) := ⟨⟨by decide +kernel, by decide +kernel⟩, List.mem_of_getElem? (i := 847) (by decide +kernel), List.mem_of_getElem? (i := 1162) (by decide +kernel), List.mem_of_getElem? (i := 1163) (by decide +kernel)⟩
theorem lw_p69 : lw_okq (⟨"ExpressionDeskModel", "within", "(II)I"⟩, 34) := ⟨⟨by decide +kernel, by decide +kernel⟩, List.mem_of_getElem? (i := 847) (by decide +kernel), List.mem_of_getElem? (i := 1166) (by decide +kernel), List.mem_of_getElem? (i := 1167) (by decide +kernel)⟩
theorem lw_p70 : lw_okq (⟨"ExpressionDeskModel", "isAt", "(III)Z"⟩, 34) := ⟨⟨by decide +kernel, by decide +kernel⟩, List.mem_of_getElem? (i := 847) (by decide +kernel), List.mem_of_getElem? (i := 1170) (by decide +kernel), List.mem_of_getElem? (i := 1171) (by decide +kernel)⟩
theorem lw_p71 : lw_okq (⟨"ExpressionDeskModel", "piece", "(III)I"⟩, 34) := ⟨⟨by decide +kernel, by decide +kernel⟩, List.mem_of_getElem? (i := 847) (by decide +kernel), List.mem_of_getElem? (i := 1174) (by decide +kernel), List.mem_of_getElem? (i := 1175) (by decide +kernel)⟩
theorem lw_p72 : lw_okq (⟨"ExpressionDeskModel", "sum", "(III)I"⟩, 34) := ⟨⟨by decide +kernel, by decide +kernel⟩, List.mem_of_getElem? (i := 847) (by decide +kernel), List.mem_of_getElem? (i := 1178) (by decide +kernel), List.mem_of_getElem? (i := 1179) (by decide +kernel)⟩
theorem lw_p73 : lw_okq (⟨"ExpressionDeskModel", "areWholes", "(II)Z"⟩, 34) := ⟨⟨by decide +kernel, by decide +kernel⟩, List.mem_of_getElem? (i := 847) (by decide +kernel), List.mem_of_getElem? (i := 1185) (by decide +kernel), List.mem_of_getElem? (i := 1186) (by decide +kernel)⟩
theorem lw_p74 : lw_okq (⟨"ExpressionDeskModel", "product", "(II)I"⟩, 34) := ⟨⟨by decide +kernel, by decide +kernel⟩, List.mem_of_getElem? (i := 847) (by decide +kernel), List.mem_of_getElem? (i := 1189) (by decide +kernel), List.mem_of_getElem? (i := 1190) (by decide +kernel)⟩
theorem lw_p75 : lw_okq (⟨"ExpressionDeskModel", "quotient", "(II)I"⟩, 34) := ⟨⟨by decide +kernel, by decide +kernel⟩, List.mem_of_getElem? (i := 847) (by decide +kernel), List.mem_of_getElem? (i := 1199) (by decide +kernel), List.mem_of_getElem? (i := 1200) (by decide +kernel)⟩
theorem lw_p76 : lw_okq (⟨"ExpressionDeskModel", "one", "(II)I"⟩, 34) := ⟨⟨by decide +kernel, by decide +kernel⟩, List.mem_of_getElem? (i := 847) (by decide +kernel), List.mem_of_getElem? (i := 1203) (by decide +kernel), List.mem_of_getElem? (i := 1204) (by decide +kernel)⟩
theorem lw_p77 : lw_okq (⟨"ExpressionDeskModel", "turned", "(IZ)I"⟩, 34) := ⟨⟨by decide +kernel, by decide +kernel⟩, List.mem_of_getElem? (i := 847) (by decide +kernel), List.mem_of_getElem? (i := 1207) (by decide +kernel), List.mem_of_getElem? (i := 1208) (by decide +kernel)⟩
theorem lw_p78 : lw_okq (⟨"ExpressionDeskModel", "wholeOf", "(II)I"⟩, 34) := ⟨⟨by decide +kernel, by decide +kernel⟩, List.mem_of_getElem? (i := 847) (by decide +kernel), List.mem_of_getElem? (i := 1211) (by decide +kernel), List.mem_of_getElem? (i := 1212) (by decide +kernel)⟩
theorem lw_p79 : lw_okq (⟨"ExpressionDeskModel", "cased", "(II)I"⟩, 34) := ⟨⟨by decide +kernel, by decide +kernel⟩, List.mem_of_getElem? (i := 847) (by decide +kernel), List.mem_of_getElem? (i := 1215) (by decide +kernel), List.mem_of_getElem? (i := 1216) (by decide +kernel)⟩
def lw_privs_5 : List (MethodName × Nat) := [(⟨"ExpressionDeskModel", "some", "(III)I"⟩, 34), (⟨"ExpressionDeskModel", "two", "(III)I"⟩, 34), (⟨"ExpressionDeskModel", "less", "(II)I"⟩, 34), (⟨"ExpressionDeskModel", "around", "(III)I"⟩, 34), (⟨"ExpressionDeskModel", "goWith", "(II)Z"⟩, 34), (⟨"ExpressionDeskModel", "within", "(II)I"⟩, 34), (⟨"ExpressionDeskModel", "isAt", "(III)Z"⟩, 34), (⟨"ExpressionDeskModel", "piece", "(III)I"⟩, 34), (⟨"ExpressionDeskModel", "sum", "(III)I"⟩, 34), (⟨"ExpressionDeskModel", "areWholes", "(II)Z"⟩, 34), (⟨"ExpressionDeskModel", "product", "(II)I"⟩, 34), (⟨"ExpressionDeskModel", "quotient", "(II)I"⟩, 34), (⟨"ExpressionDeskModel", "one", "(II)I"⟩, 34), (⟨"ExpressionDeskModel", "turned", "(IZ)I"⟩, 34), (⟨"ExpressionDeskModel", "wholeOf", "(II)I"⟩, 34), (⟨"ExpressionDeskModel", "cased", "(II)I"⟩, 34)]
theorem lw_r5 : ∀ q ∈ lw_privs_5, lw_okq q := List.forall_mem_cons.mpr ⟨lw_p64, List.forall_mem_cons.mpr ⟨lw_p65, List.forall_mem_cons.mpr ⟨lw_p66, List.forall_mem_cons.mpr ⟨lw_p67, List.forall_mem_cons.mpr ⟨lw_p68, List.forall_mem_cons.mpr ⟨lw_p69, List.forall_mem_cons.mpr ⟨lw_p70, List.forall_mem_cons.mpr ⟨lw_p71, List.forall_mem_cons.mpr ⟨lw_p72, List.forall_mem_cons.mpr ⟨lw_p73, List.forall_mem_cons.mpr ⟨lw_p74, List.forall_mem_cons.mpr ⟨lw_p75, List.forall_mem_cons.mpr ⟨lw_p76, List.forall_mem_cons.mpr ⟨lw_p77, List.forall_mem_cons.mpr ⟨lw_p78, List.forall_mem_cons.mpr ⟨lw_p79, fun _ h => absurd h List.not_mem_nil⟩⟩⟩⟩⟩⟩⟩⟩⟩⟩⟩⟩⟩⟩⟩⟩
theorem lw_p80 : lw_okq (⟨"ExpressionDeskModel", "string", "(I)Z"⟩, 34) := ⟨⟨by decide +kernel, by decide +kernel⟩, List.mem_of_getElem? (i := 847) (by decide +kernel), List.mem_of_getElem? (i := 1219) (by decide +kernel), List.mem_of_getElem? (i := 1220) (by decide +kernel)⟩
theorem lw_p81 : lw_okq (⟨"ExpressionDeskModel", "digitsOf", "(I)V"⟩, 34) := ⟨⟨by decide +kernel, by decide +kernel⟩, List.mem_of_getElem? (i := 847) (by decide +kernel), List.mem_of_getElem? (i := 1223) (by decide +kernel), List.mem_of_getElem? (i := 1224) (by decide +kernel)⟩
theorem lw_p82 : lw_okq (⟨"ExpressionDeskModel", "stringOfNumber", "(I)V"⟩, 34) := ⟨⟨by decide +kernel, by decide +kernel⟩, List.mem_of_getElem? (i := 847) (by decide +kernel), List.mem_of_getElem? (i := 1227) (by decide +kernel), List.mem_of_getElem? (i := 1228) (by decide +kernel)⟩
theorem lw_p83 : lw_okq (⟨"ExpressionDeskModel", "spell", "(Ljava/lang/String;)V"⟩, 34) := ⟨⟨by decide +kernel, by decide +kernel⟩, List.mem_of_getElem? (i := 847) (by decide +kernel), List.mem_of_getElem? (i := 1232) (by decide +kernel), List.mem_of_getElem? (i := 1233) (by decide +kernel)⟩
theorem lw_p84 : lw_okq (⟨"ExpressionDeskModel", "sumAll", "()Z"⟩, 34) := ⟨⟨by decide +kernel, by decide +kernel⟩, List.mem_of_getElem? (i := 847) (by decide +kernel), List.mem_of_getElem? (i := 1257) (by decide +kernel), List.mem_of_getElem? (i := 1258) (by decide +kernel)⟩
theorem lw_p85 : lw_okq (⟨"ExpressionDeskModel", "isFit", "()Z"⟩, 34) := ⟨⟨by decide +kernel, by decide +kernel⟩, List.mem_of_getElem? (i := 847) (by decide +kernel), List.mem_of_getElem? (i := 1261) (by decide +kernel), List.mem_of_getElem? (i := 1262) (by decide +kernel)⟩
theorem lw_p86 : lw_okq (⟨"ExpressionDeskModel", "extreme", "(I)I"⟩, 34) := ⟨⟨by decide +kernel, by decide +kernel⟩, List.mem_of_getElem? (i := 847) (by decide +kernel), List.mem_of_getElem? (i := 1265) (by decide +kernel), List.mem_of_getElem? (i := 1266) (by decide +kernel)⟩
theorem lw_p87 : lw_okq (⟨"ExpressionDeskModel", "average", "()I"⟩, 34) := ⟨⟨by decide +kernel, by decide +kernel⟩, List.mem_of_getElem? (i := 847) (by decide +kernel), List.mem_of_getElem? (i := 1269) (by decide +kernel), List.mem_of_getElem? (i := 1270) (by decide +kernel)⟩
theorem lw_p88 : lw_okq (⟨"ExpressionDeskModel", "row", "()I"⟩, 34) := ⟨⟨by decide +kernel, by decide +kernel⟩, List.mem_of_getElem? (i := 847) (by decide +kernel), List.mem_of_getElem? (i := 1273) (by decide +kernel), List.mem_of_getElem? (i := 1274) (by decide +kernel)⟩
def lw_privs_6 : List (MethodName × Nat) := [(⟨"ExpressionDeskModel", "string", "(I)Z"⟩, 34), (⟨"ExpressionDeskModel", "digitsOf", "(I)V"⟩, 34), (⟨"ExpressionDeskModel", "stringOfNumber", "(I)V"⟩, 34), (⟨"ExpressionDeskModel", "spell", "(Ljava/lang/String;)V"⟩, 34), (⟨"ExpressionDeskModel", "sumAll", "()Z"⟩, 34), (⟨"ExpressionDeskModel", "isFit", "()Z"⟩, 34), (⟨"ExpressionDeskModel", "extreme", "(I)I"⟩, 34), (⟨"ExpressionDeskModel", "average", "()I"⟩, 34), (⟨"ExpressionDeskModel", "row", "()I"⟩, 34)]
theorem lw_r6 : ∀ q ∈ lw_privs_6, lw_okq q := List.forall_mem_cons.mpr ⟨lw_p80, List.forall_mem_cons.mpr ⟨lw_p81, List.forall_mem_cons.mpr ⟨lw_p82, List.forall_mem_cons.mpr ⟨lw_p83, List.forall_mem_cons.mpr ⟨lw_p84, List.forall_mem_cons.mpr ⟨lw_p85, List.forall_mem_cons.mpr ⟨lw_p86, List.forall_mem_cons.mpr ⟨lw_p87, List.forall_mem_cons.mpr ⟨lw_p88, fun _ h => absurd h List.not_mem_nil⟩⟩⟩⟩⟩⟩⟩⟩⟩
def lw_privs : List (MethodName × Nat) := lw_privs_1 ++ (lw_privs_2 ++ (lw_privs_3 ++ (lw_privs_4 ++ (lw_privs_5 ++ (lw_privs_6)))))
def lw_tbl : List Cond := k2_sels lw_privs ++ tables_1
theorem lw_privs_ok : ∀ q ∈ lw_privs, lw_okq q := by
  show ∀ q ∈ lw_privs_1 ++ (lw_privs_2 ++ (lw_privs_3 ++ (lw_privs_4 ++ (lw_privs_5 ++ (lw_privs_6))))), lw_okq q
  exact List.forall_mem_append.mpr ⟨lw_r1, List.forall_mem_append.mpr ⟨lw_r2, List.forall_mem_append.mpr ⟨lw_r3, List.forall_mem_append.mpr ⟨lw_r4, List.forall_mem_append.mpr ⟨lw_r5, lw_r6⟩⟩⟩⟩⟩
/-! NAMES: classes with their fields in the order of the tables; constant static arrays -/
def R_D : String := "ExpressionDesk"
def F_D : u_T := fun k => match k with
  | 0 => ("ExpressionDesk", "store", "LExpressionDesk$Store;", true)
  | 1 => ("ExpressionDesk", "tape", "LExpressionDesk$Row;", true)
  | 2 => ("ExpressionDesk", "expression", "LExpressionDesk$Expression;", true)
  | _ => ("ExpressionDesk", "gathering", "LExpressionDesk$Gathering;", true)
def f_D : Nat → FieldType := fun k => match k with
  | 0 => .object "ExpressionDesk$Store"
  | 1 => .object "ExpressionDesk$Row"
  | 2 => .object "ExpressionDesk$Expression"
  | _ => .object "ExpressionDesk$Gathering"
def R_S : String := "ExpressionDesk$Store"
def F_S : u_T := fun k => match k with
  | 0 => ("ExpressionDesk$Store", "kept", "Ljava/util/ArrayList;", true)
  | 1 => ("ExpressionDesk$Store", "heads", "[I", true)
  | 2 => ("ExpressionDesk$Store", "none", "LExpressionDesk$Value;", true)
  | _ => ("ExpressionDesk$Store", "empty", "LExpressionDesk$Row;", true)
def f_S : Nat → FieldType := fun k => match k with
  | 0 => .object "java/util/ArrayList"
  | 1 => .array (.int)
  | 2 => .object "ExpressionDesk$Value"
  | _ => .object "ExpressionDesk$Row"
def R_AL : String := "java/util/ArrayList"
def F_AL : u_T := fun k => match k with
  | 0 => ("java/util/ArrayList", "elementData", "[Ljava/lang/Object;", false)
  | 1 => ("java/util/ArrayList", "size", "I", false)
  | _ => ("java/util/AbstractList", "modCount", "I", false)
def f_AL : Nat → FieldType := fun k => match k with
  | 0 => .array (.object "java/lang/Object")
  | 1 => .int
  | _ => .int
def R_V : String := "ExpressionDesk$Value"
def F_V : u_T := fun k => match k with
  | 0 => ("ExpressionDesk$Value", "kind", "I", true)
  | 1 => ("ExpressionDesk$Value", "extra", "I", true)
  | 2 => ("ExpressionDesk$Value", "amount", "J", true)
  | 3 => ("ExpressionDesk$Value", "scale", "I", true)
  | 4 => ("ExpressionDesk$Value", "bytes", "[B", true)
  | _ => ("ExpressionDesk$Value", "next", "I", true)
def f_V : Nat → FieldType := fun k => match k with
  | 0 => .int
  | 1 => .int
  | 2 => .long
  | 3 => .int
  | 4 => .array (.byte)
  | _ => .int
def R_R : String := "ExpressionDesk$Row"
def F_R : u_T := fun k => match k with
  | 0 => ("ExpressionDesk$Row", "bytes", "[B", true)
  | 1 => ("ExpressionDesk$Row", "length", "I", false)
  | _ => ("ExpressionDesk$Row", "isTooLong", "Z", false)
def f_R : Nat → FieldType := fun k => match k with
  | 0 => .array (.byte)
  | 1 => .int
  | _ => .boolean
def R_E : String := "ExpressionDesk$Expression"
def F_E : u_T := fun k => match k with
  | 0 => ("ExpressionDesk$Expression", "store", "LExpressionDesk$Store;", true)
  | 1 => ("ExpressionDesk$Expression", "operations", "[I", true)
  | 2 => ("ExpressionDesk$Expression", "numbers", "[I", true)
  | 3 => ("ExpressionDesk$Expression", "bound", "[I", true)
  | 4 => ("ExpressionDesk$Expression", "stack", "[I", true)
  | 5 => ("ExpressionDesk$Expression", "row", "LExpressionDesk$Row;", true)
  | 6 => ("ExpressionDesk$Expression", "reckoner", "LExpressionDesk$Reckoner;", true)
  | 7 => ("ExpressionDesk$Expression", "length", "I", false)
  | _ => ("ExpressionDesk$Expression", "top", "I", false)
def f_E : Nat → FieldType := fun k => match k with
  | 0 => .object "ExpressionDesk$Store"
  | 1 => .array (.int)
  | 2 => .array (.int)
  | 3 => .array (.int)
  | 4 => .array (.int)
  | 5 => .object "ExpressionDesk$Row"
  | 6 => .object "ExpressionDesk$Reckoner"
  | 7 => .int
  | _ => .int
def R_K : String := "ExpressionDesk$Reckoner"
def F_K : u_T := fun k => match k with
  | 0 => ("ExpressionDesk$Reckoner", "isGood", "Z", false)
  | 1 => ("ExpressionDesk$Reckoner", "isWhole", "Z", false)
  | 2 => ("ExpressionDesk$Reckoner", "amount", "J", false)
  | _ => ("ExpressionDesk$Reckoner", "scale", "I", false)
def f_K : Nat → FieldType := fun k => match k with
  | 0 => .boolean
  | 1 => .boolean
  | 2 => .long
  | _ => .int
def R_G : String := "ExpressionDesk$Gathering"
def F_G : u_T := fun k => match k with
  | 0 => ("ExpressionDesk$Gathering", "store", "LExpressionDesk$Store;", true)
  | 1 => ("ExpressionDesk$Gathering", "gathered", "[I", true)
  | 2 => ("ExpressionDesk$Gathering", "sorted", "[I", true)
  | 3 => ("ExpressionDesk$Gathering", "row", "LExpressionDesk$Row;", true)
  | 4 => ("ExpressionDesk$Gathering", "reckoner", "LExpressionDesk$Reckoner;", true)
  | 5 => ("ExpressionDesk$Gathering", "sort", "I", false)
  | 6 => ("ExpressionDesk$Gathering", "once", "Z", false)
  | 7 => ("ExpressionDesk$Gathering", "between", "I", false)
  | _ => ("ExpressionDesk$Gathering", "count", "I", false)
def f_G : Nat → FieldType := fun k => match k with
  | 0 => .object "ExpressionDesk$Store"
  | 1 => .array (.int)
  | 2 => .array (.int)
  | 3 => .object "ExpressionDesk$Row"
  | 4 => .object "ExpressionDesk$Reckoner"
  | 5 => .int
  | 6 => .boolean
  | 7 => .int
  | _ => .int
def R_M : String := "ExpressionDeskModel"
def F_M : u_T := fun k => match k with
  | 0 => ("ExpressionDeskModel", "count", "I", false)
  | 1 => ("ExpressionDeskModel", "kinds", "[I", true)
  | 2 => ("ExpressionDeskModel", "extras", "[I", true)
  | 3 => ("ExpressionDeskModel", "signs", "[I", true)
  | 4 => ("ExpressionDeskModel", "scales", "[I", true)
  | 5 => ("ExpressionDeskModel", "digits", "[I", true)
  | 6 => ("ExpressionDeskModel", "sizes", "[I", true)
  | 7 => ("ExpressionDeskModel", "bytes", "[I", true)
  | 8 => ("ExpressionDeskModel", "tape", "[I", true)
  | 9 => ("ExpressionDeskModel", "size", "I", false)
  | 10 => ("ExpressionDeskModel", "kind", "I", false)
  | 11 => ("ExpressionDeskModel", "extra", "I", false)
  | 12 => ("ExpressionDeskModel", "sign", "I", false)
  | 13 => ("ExpressionDeskModel", "scale", "I", false)
  | 14 => ("ExpressionDeskModel", "unscaled", "[I", true)
  | 15 => ("ExpressionDeskModel", "letters", "[I", true)
  | 16 => ("ExpressionDeskModel", "letterCount", "I", false)
  | 17 => ("ExpressionDeskModel", "x", "[I", true)
  | 18 => ("ExpressionDeskModel", "y", "[I", true)
  | 19 => ("ExpressionDeskModel", "z", "[I", true)
  | 20 => ("ExpressionDeskModel", "operations", "[I", true)
  | 21 => ("ExpressionDeskModel", "numbers", "[I", true)
  | 22 => ("ExpressionDeskModel", "words", "I", false)
  | 23 => ("ExpressionDeskModel", "bound", "[I", true)
  | 24 => ("ExpressionDeskModel", "stack", "[I", true)
  | 25 => ("ExpressionDeskModel", "gathered", "[I", true)
  | 26 => ("ExpressionDeskModel", "many", "I", false)
  | 27 => ("ExpressionDeskModel", "sort", "I", false)
  | 28 => ("ExpressionDeskModel", "once", "Z", false)
  | 29 => ("ExpressionDeskModel", "between", "I", false)
  | 30 => ("ExpressionDeskModel", "total", "[I", true)
  | 31 => ("ExpressionDeskModel", "totalSign", "I", false)
  | 32 => ("ExpressionDeskModel", "totalWhole", "Z", false)
  | _ => ("ExpressionDeskModel", "ranks", "[I", true)
def f_M : Nat → FieldType := fun k => match k with
  | 0 => .int
  | 1 => .array (.int)
  | 2 => .array (.int)
  | 3 => .array (.int)
  | 4 => .array (.int)
  | 5 => .array (.int)
  | 6 => .array (.int)
  | 7 => .array (.int)
  | 8 => .array (.int)
  | 9 => .int
  | 10 => .int
  | 11 => .int
  | 12 => .int
  | 13 => .int
  | 14 => .array (.int)
  | 15 => .array (.int)
  | 16 => .int
  | 17 => .array (.int)
  | 18 => .array (.int)
  | 19 => .array (.int)
  | 20 => .array (.int)
  | 21 => .array (.int)
  | 22 => .int
  | 23 => .array (.int)
  | 24 => .array (.int)
  | 25 => .array (.int)
  | 26 => .int
  | 27 => .int
  | 28 => .boolean
  | 29 => .int
  | 30 => .array (.int)
  | 31 => .int
  | 32 => .boolean
  | _ => .array (.int)
abbrev classes : List vw_C := [(R_D, F_D, 4), (R_S, F_S, 4), (R_AL, F_AL, 3), (R_V, F_V, 6), (R_R, F_R, 3), (R_E, F_E, 9), (R_K, F_K, 4), (R_G, F_G, 9), (R_M, F_M, 34)]
abbrev statics : List (String × String × String) := [("ExpressionDesk", "POWERS", "[J"), ("ExpressionDesk", "NO_BYTES", "[B"), ("ExpressionDesk$Expression", "TAKES", "[I"), ("ExpressionDesk$Expression", "TYPE_NAMES", "[I"), ("java/util/ArrayList", "DEFAULTCAPACITY_EMPTY_ELEMENTDATA", "[Ljava/lang/Object;")]
/-! THE WORDS that every contract takes: all of the tables' that a call keeps; and those that are kept by a law of their own -/
def hp_T : List Cond := lw_tbl.filter goodWord
theorem hp_T_ok : ∀ w ∈ hp_T, (w.onTables && w.keeps) = true ∨ ∃ ty, w = .arrayClass ty := fun w h => good_of_word (List.mem_filter.mp h).2
def hp_isN : Cond → Bool
  | .methodLinkNest _ _ _ _ => true
  | .fieldLinkNest _ _ _ _ _ _ => true
  | .castable _ _ => true
  | .arrayOver (.object _) => true
  | _ => false
def hp_Nst : List Cond := lw_tbl.filter hp_isN
theorem hp_Nst_ok : ∀ w ∈ hp_Nst, (∀ u U : State, u.vm = U.vm → va_Nw w u → va_Nw w U) ∧ ∀ s U : State, s.WarmedH U.vm → va_Nw w s → va_Nw w U := by
  intro w h
  have h2 := (List.mem_filter.mp h).2
  cases w <;> try (exact absurd (show false = true from h2) (by decide))
  case methodLinkNest => exact ⟨fun u U hv hZ => va_Nw.same rfl hv hZ, fun s U hW hZ => va_Nw.warmM hW hZ⟩
  case fieldLinkNest => exact ⟨fun u U hv hZ => va_Nw.same rfl hv hZ, fun s U hW hZ => va_Nw.warmF hW hZ⟩
  case castable => exact ⟨fun u U hv hZ => va_Nw.same rfl hv hZ, fun s U hW hZ => va_Nw.warmC hW hZ⟩
  case arrayOver t =>
    cases t <;> try (exact absurd (show false = true from h2) (by decide))
    exact ⟨fun u U hv hZ => va_AO.moved (by rw [hv]; exact Vm.Alike.refl _) hZ, fun s U hW hZ => va_AO.moved hW.alike hZ⟩
theorem hp_i1 {w : Cond} (j : Nat) (hj : tables_1_1[j]? = some w) (hg : goodWord w = true) : w ∈ hp_T := by
  have h := List.mem_of_getElem? hj
  exact List.mem_filter.mpr ⟨List.mem_append_right _ (show w ∈ tables_1 from List.mem_append_left _ h), hg⟩
theorem hp_n1 {w : Cond} (j : Nat) (hj : tables_1_1[j]? = some w) (hg : hp_isN w = true) : w ∈ hp_Nst := by
  have h := List.mem_of_getElem? hj
  exact List.mem_filter.mpr ⟨List.mem_append_right _ (show w ∈ tables_1 from List.mem_append_left _ h), hg⟩
theorem hp_i2 {w : Cond} (j : Nat) (hj : tables_1_2[j]? = some w) (hg : goodWord w = true) : w ∈ hp_T := by
  have h := List.mem_of_getElem? hj
  exact List.mem_filter.mpr ⟨List.mem_append_right _ (show w ∈ tables_1 from List.mem_append_right _ (List.mem_append_left _ h)), hg⟩
theorem hp_n2 {w : Cond} (j : Nat) (hj : tables_1_2[j]? = some w) (hg : hp_isN w = true) : w ∈ hp_Nst := by
  have h := List.mem_of_getElem? hj
  exact List.mem_filter.mpr ⟨List.mem_append_right _ (show w ∈ tables_1 from List.mem_append_right _ (List.mem_append_left _ h)), hg⟩
theorem hp_i3 {w : Cond} (j : Nat) (hj : tables_1_3[j]? = some w) (hg : goodWord w = true) : w ∈ hp_T := by
  have h := List.mem_of_getElem? hj
  exact List.mem_filter.mpr ⟨List.mem_append_right _ (show w ∈ tables_1 from List.mem_append_right _ (List.mem_append_right _ (List.mem_append_left _ h))), hg⟩
theorem hp_n3 {w : Cond} (j : Nat) (hj : tables_1_3[j]? = some w) (hg : hp_isN w = true) : w ∈ hp_Nst := by
  have h := List.mem_of_getElem? hj
  exact List.mem_filter.mpr ⟨List.mem_append_right _ (show w ∈ tables_1 from List.mem_append_right _ (List.mem_append_right _ (List.mem_append_left _ h))), hg⟩
theorem hp_i4 {w : Cond} (j : Nat) (hj : tables_1_4[j]? = some w) (hg : goodWord w = true) : w ∈ hp_T := by
  have h := List.mem_of_getElem? hj
  exact List.mem_filter.mpr ⟨List.mem_append_right _ (show w ∈ tables_1 from List.mem_append_right _ (List.mem_append_right _ (List.mem_append_right _ (List.mem_append_left _ h)))), hg⟩
theorem hp_n4 {w : Cond} (j : Nat) (hj : tables_1_4[j]? = some w) (hg : hp_isN w = true) : w ∈ hp_Nst := by
  have h := List.mem_of_getElem? hj
  exact List.mem_filter.mpr ⟨List.mem_append_right _ (show w ∈ tables_1 from List.mem_append_right _ (List.mem_append_right _ (List.mem_append_right _ (List.mem_append_left _ h)))), hg⟩
theorem hp_i5 {w : Cond} (j : Nat) (hj : tables_1_5[j]? = some w) (hg : goodWord w = true) : w ∈ hp_T := by
  have h := List.mem_of_getElem? hj
  exact List.mem_filter.mpr ⟨List.mem_append_right _ (show w ∈ tables_1 from List.mem_append_right _ (List.mem_append_right _ (List.mem_append_right _ (List.mem_append_right _ (List.mem_append_left _ h))))), hg⟩
theorem hp_n5 {w : Cond} (j : Nat) (hj : tables_1_5[j]? = some w) (hg : hp_isN w = true) : w ∈ hp_Nst := by
  have h := List.mem_of_getElem? hj
  exact List.mem_filter.mpr ⟨List.mem_append_right _ (show w ∈ tables_1 from List.mem_append_right _ (List.mem_append_right _ (List.mem_append_right _ (List.mem_append_right _ (List.mem_append_left _ h))))), hg⟩
theorem hp_i6 {w : Cond} (j : Nat) (hj : tables_1_6[j]? = some w) (hg : goodWord w = true) : w ∈ hp_T := by
  have h := List.mem_of_getElem? hj
  exact List.mem_filter.mpr ⟨List.mem_append_right _ (show w ∈ tables_1 from List.mem_append_right _ (List.mem_append_right _ (List.mem_append_right _ (List.mem_append_right _ (List.mem_append_right _ (h)))))), hg⟩
theorem hp_n6 {w : Cond} (j : Nat) (hj : tables_1_6[j]? = some w) (hg : hp_isN w = true) : w ∈ hp_Nst := by
  have h := List.mem_of_getElem? hj
  exact List.mem_filter.mpr ⟨List.mem_append_right _ (show w ∈ tables_1 from List.mem_append_right _ (List.mem_append_right _ (List.mem_append_right _ (List.mem_append_right _ (List.mem_append_right _ (h)))))), hg⟩
theorem n_D : ∀ a, a < 4 → ∀ b, b < 4 → a ≠ b → (F_D a).2.1 ≠ (F_D b).2.1 := by decide +kernel
theorem t_D : ∀ k, k < 4 → parseFieldDescriptor (F_D k).2.2.1 = some (f_D k) := by decide +kernel
theorem n_S : ∀ a, a < 4 → ∀ b, b < 4 → a ≠ b → (F_S a).2.1 ≠ (F_S b).2.1 := by decide +kernel
theorem t_S : ∀ k, k < 4 → parseFieldDescriptor (F_S k).2.2.1 = some (f_S k) := by decide +kernel
theorem n_AL : ∀ a, a < 3 → ∀ b, b < 3 → a ≠ b → (F_AL a).2.1 ≠ (F_AL b).2.1 := by decide +kernel
theorem t_AL : ∀ k, k < 3 → parseFieldDescriptor (F_AL k).2.2.1 = some (f_AL k) := by decide +kernel
theorem n_V : ∀ a, a < 6 → ∀ b, b < 6 → a ≠ b → (F_V a).2.1 ≠ (F_V b).2.1 := by decide +kernel
theorem t_V : ∀ k, k < 6 → parseFieldDescriptor (F_V k).2.2.1 = some (f_V k) := by decide +kernel
theorem n_R : ∀ a, a < 3 → ∀ b, b < 3 → a ≠ b → (F_R a).2.1 ≠ (F_R b).2.1 := by decide +kernel
theorem t_R : ∀ k, k < 3 → parseFieldDescriptor (F_R k).2.2.1 = some (f_R k) := by decide +kernel
theorem n_E : ∀ a, a < 9 → ∀ b, b < 9 → a ≠ b → (F_E a).2.1 ≠ (F_E b).2.1 := by decide +kernel
theorem t_E : ∀ k, k < 9 → parseFieldDescriptor (F_E k).2.2.1 = some (f_E k) := by decide +kernel
theorem n_K : ∀ a, a < 4 → ∀ b, b < 4 → a ≠ b → (F_K a).2.1 ≠ (F_K b).2.1 := by decide +kernel
theorem t_K : ∀ k, k < 4 → parseFieldDescriptor (F_K k).2.2.1 = some (f_K k) := by decide +kernel
theorem n_G : ∀ a, a < 9 → ∀ b, b < 9 → a ≠ b → (F_G a).2.1 ≠ (F_G b).2.1 := by decide +kernel
theorem t_G : ∀ k, k < 9 → parseFieldDescriptor (F_G k).2.2.1 = some (f_G k) := by decide +kernel
theorem n_M : ∀ a, a < 34 → ∀ b, b < 34 → a ≠ b → (F_M a).2.1 ≠ (F_M b).2.1 := by decide +kernel
theorem t_M : ∀ k, k < 34 → parseFieldDescriptor (F_M k).2.2.1 = some (f_M k) := by decide +kernel
theorem hp_is {w : Cond} (j : Nat) (hj : (k2_sels lw_privs)[j]? = some w) (hg : goodWord w = true) : w ∈ hp_T := List.mem_filter.mpr ⟨List.mem_append_left _ (List.mem_of_getElem? hj), hg⟩
